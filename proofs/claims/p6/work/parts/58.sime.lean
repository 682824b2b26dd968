theorem SS.pi {X Y : RSt} (h : SS X Y) : (piR X).1 = (piR Y).1 ∧ SS (piR X).2 (piR Y).2 := by
  unfold piR
  rw [h.1.hr]
  by_cases g : hrF Y = 40
  · have ng : ¬ ¬ hrF Y = 40 := fun q => q g
    rw [if_neg ng, if_neg ng]
    exact ⟨rfl, SS_pc1 h⟩
  · rw [if_pos g, if_pos g]
    have t := h.xpdS 6 (pv0 X) (pv0 Y) 0
    revert t
    generalize pdS 6 (pv0 X) 0 X = a
    generalize pdS 6 (pv0 Y) 0 Y = c
    obtain ⟨a1, a2, a3⟩ := a
    obtain ⟨c1, c2, c3⟩ := c
    intro t
    have t1 : a2 = c2 := t.1
    have t2 : SS a3 c3 := t.2
    subst t1
    rw [pc2_G, pc2_G, t2.1.1, t2.1.2.2.1]
    exact ⟨rfl, SS_pcG t2 rfl rfl a1 c1⟩
