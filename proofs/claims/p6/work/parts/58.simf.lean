theorem SS_ps {X Y : RSt} (h : SS X Y) (x : Int32) : SS (psF X x) (psF Y x) := by
  refine ⟨⟨?_, h.1.2.1, h.1.2.2.1, h.1.2.2.2⟩, ?_, ?_⟩
  · show X.at1 + 1 = Y.at1 + 1
    rw [h.1.1]
  · show X.sn + 1 = Y.sn + 1
    rw [h.2.1]
  · intro i hi
    have hi : i < Y.sn + 1 := hi
    show upd X.sg X.sn x i = upd Y.sg Y.sn x i
    rw [h.2.1]
    by_cases e : i = Y.sn
    · rw [e, pk_us, pk_us]
    · rw [pk_un e, pk_un e]
      exact h.2.2 i (by omega)
theorem SS_cp {X Y : RSt} (h : SS X Y) : SS (cpF X) (cpF Y) := by
  refine ⟨⟨?_, h.1.2.1, h.1.2.2.1, h.1.2.2.2⟩, ?_, ?_⟩
  · show X.at1 + 1 = Y.at1 + 1
    rw [h.1.1]
  · show X.sn - 1 = Y.sn - 1
    rw [h.2.1]
  · intro i hi
    have hi : i < Y.sn - 1 := hi
    show X.sg i = Y.sg i
    exact h.2.2 i (by omega)
