theorem SS.xpdS : ∀ (f : Nat) (v w : Int32) (k : Nat) {X Y : RSt}, SS X Y → (pdS f v k X).2.1 = (pdS f w k Y).2.1 ∧ SS (pdS f v k X).2.2 (pdS f w k Y).2.2
  | 0, _, _, _, _, _, h => ⟨rfl, h⟩
  | f + 1, v, w, k, X, Y, h => by
    show (if dgt (hrF X) = 0 then (v, k, X) else pdS f (10 * v + hrF X - 48) (k + 1) (atF X)).2.1 = (if dgt (hrF Y) = 0 then (w, k, Y) else pdS f (10 * w + hrF Y - 48) (k + 1) (atF Y)).2.1 ∧ SS (if dgt (hrF X) = 0 then (v, k, X) else pdS f (10 * v + hrF X - 48) (k + 1) (atF X)).2.2 (if dgt (hrF Y) = 0 then (w, k, Y) else pdS f (10 * w + hrF Y - 48) (k + 1) (atF Y)).2.2
    rw [h.1.hr]
    by_cases g : dgt (hrF Y) = 0
    · rw [if_pos g, if_pos g]; exact ⟨rfl, h⟩
    · rw [if_neg g, if_neg g]; exact SS.xpdS f _ _ _ ⟨h.1.at, h.2⟩
theorem SS.pi {X Y : RSt} (h : SS X Y) : (piR X).1 = (piR Y).1 ∧ SS (piR X).2 (piR Y).2 := by
  unfold piR
  rw [h.1.hr]
  by_cases g : hrF Y = 40
  · rw [if_neg (fun q => q g), if_neg (fun q => q g)]
    refine ⟨rfl, ⟨h.1.at, ?_, ?_⟩⟩
    · show X.sn + 1 = Y.sn + 1
      rw [h.2.1]
    · intro i hi
      have hi : i < Y.sn + 1 := hi
      show upd X.sg X.sn 40 i = upd Y.sg Y.sn 40 i
      rw [h.2.1]
      by_cases e : i = Y.sn
      · rw [e, pk_us, pk_us]
      · rw [pk_un e, pk_un e]
        exact h.2.2 i (by omega)
  · rw [if_pos g, if_pos g]
    have t := h.xpdS 6 (pv0 X) (pv0 Y) 0
    revert t
    generalize pdS 6 (pv0 X) 0 X = a
    generalize pdS 6 (pv0 Y) 0 Y = c
    obtain ⟨a1, a2, a3⟩ := a
    obtain ⟨c1, c2, c3⟩ := c
    intro t
    obtain ⟨t1, ⟨u1, u2, u3, u4⟩, u5, u6⟩ := t
    have t1 : a2 = c2 := t1
    subst t1
    refine ⟨rfl, ⟨⟨?_, u2, ?_, u4⟩, u5, u6⟩⟩
    · show a3.at1 + (if mvr (hrF Y) = 0 then 0 else 1) = c3.at1 + (if mvr (hrF Y) = 0 then 0 else 1)
      rw [show a3.at1 = c3.at1 from u1]
    · show pgo a3.go (hrF Y) a2 = pgo c3.go (hrF Y) a2
      rw [show a3.go = c3.go from u3]
theorem SS.ps {X Y : RSt} (h : SS X Y) {x y : Int32} (e : x = y) : SS (psF X x) (psF Y y) := by
  subst e
  refine ⟨h.1.at, ?_, ?_⟩
  · show X.sn + 1 = Y.sn + 1
    rw [h.2.1]
  · intro i hi
    have hi : i < Y.sn + 1 := hi
    show upd X.sg X.sn x i = upd Y.sg Y.sn x i
    rw [h.2.1]
    by_cases e : i = Y.sn
    · rw [e, pk_us, pk_us]
    · rw [pk_un e, pk_un e]
      exact h.2.2 i (by omega)
theorem SS.cp {X Y : RSt} (h : SS X Y) : SS (cpF X) (cpF Y) := ⟨h.1.at, by show X.sn - 1 = Y.sn - 1; rw [h.2.1], fun i hi => h.2.2 i (Nat.lt_of_lt_of_le hi (Nat.sub_le _ _))⟩
