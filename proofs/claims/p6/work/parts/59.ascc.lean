theorem AS_pcG {Y : RSt} {g : Int32} {n : Nat} {v : Int32} (h : ¬ g = 0 → n ≤ Y.en ∧ ∀ i, i < n → asc (TX Y i)) : AS (pcG Y g n v) := h
theorem AS.pi {Y : RSt} (h : AS Y) : AS (piR Y).2 := by
  unfold piR
  by_cases g : hrF Y = 40
  · rw [if_neg (fun q => q g)]
    exact AS_step rfl rfl rfl (fun _ => rfl) h (by rw [g]; decide) ⟨40, by decide, g⟩
  · rw [if_pos g]
    by_cases hm : mvr (hrF Y) = 0
    · have t := h.xpdS 6 (pv0 Y) 0
      revert t
      generalize pdS 6 (pv0 Y) 0 Y = a
      obtain ⟨a1, a2, a3⟩ := a
      intro t
      have t : AS a3 := t
      rw [pc2_G, if_pos hm]
      exact AS_pcG (fun q => t (pgo_go q))
    · have e : pdS 6 (pv0 Y) 0 Y = (pv0 Y, 0, Y) := by
        show (if dgt (hrF Y) = 0 then (pv0 Y, 0, Y) else _) = _
        rw [if_pos (mvr_dg hm)]
      rw [e, pc2_G, if_neg hm]
      exact AS_pcG (fun q => (h.at (mvr_n1 hm) (asc_mv hm)) (pgo_go q))
