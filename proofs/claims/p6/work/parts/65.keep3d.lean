theorem tl1_fx (Y : RSt) (t f : Int32) : FX Y (tl1 Y t f) ∧ (tl1 Y t f).os = Y.os := by
  unfold tl1
  split
  · exact ⟨⟨rfl, rfl, rfl, rfl, rfl⟩, rfl⟩
  · exact ⟨⟨rfl, rfl, rfl, rfl, rfl⟩, rfl⟩
theorem rr_fx (Y : RSt) (n : Nat) (i : Int32) (t : Nat) : FX Y (rrR Y n i t).2 ∧ (rrR Y n i t).2.os = Y.os := by
  unfold rrR
  repeat' split
  all_goals exact ⟨⟨rfl, rfl, rfl, rfl, rfl⟩, rfl⟩
theorem st_mk {q : Nat} {t f : Int32} {Z : RSt} (h : RI q Z ∧ (f = 0 → Z.de = 0)) : RI q ((t, f, Z) : Int32 × Int32 × RSt).2.2 ∧ (((t, f, Z) : Int32 × Int32 × RSt).2.1 = 0 → ((t, f, Z) : Int32 × Int32 × RSt).2.2.de = 0) := h
theorem st_mk2 {q : Nat} {t : Int32} {w : Int32 × RSt} (h : RI q w.2 ∧ (w.1 = 0 → w.2.de = 0)) : RI q ((t, w) : Int32 × Int32 × RSt).2.2 ∧ (((t, w) : Int32 × Int32 × RSt).2.1 = 0 → ((t, w) : Int32 × Int32 × RSt).2.2.de = 0) := h
theorem RI_st1 {q : Nat} {Y : RSt} (h : RI q Y) (hd : Y.de = 0) (hw : wrP Y) (t : Int32) : RI (q + 1) (st1 Y t).2.2 ∧ ((st1 Y t).2.1 = 0 → (st1 Y t).2.2.de = 0) := by
  have up := h.up (q' := q + 1) (by omega)
  have sm : ∀ {Z : RSt}, smP Y Z → RI (q + 1) Z ∧ Z.de = 0 := fun s => ⟨up.sm s, (sm_fx s).2.2.2.2.trans hd⟩
  unfold st1
  by_cases a : asB (hrF Y) (bhF Y) = 0
  · rw [if_neg (fun g => g a)]
    by_cases b : hrF Y = 80
    · rw [if_pos b]
      have s := (sm_at Y).tr (sm_va (atF Y))
      revert s
      generalize vaF (atF Y) = w
      intro s
      obtain ⟨r, d⟩ := sm s
      exact st_mk ⟨r.fx ⟨rfl, rfl, rfl, rfl, rfl⟩ (by show w.2.os + 1 ≤ q + 1; rw [sm_os s]; have := h.2.2; omega), fun _ => d⟩
    rw [if_neg b]
    by_cases b : hrF Y = 73
    · rw [if_pos b]; exact st_mk ⟨(sm (sm_I4 Y)).1, fun _ => (sm (sm_I4 Y)).2⟩
    rw [if_neg b]
    by_cases b : hrF Y = 71
    · rw [if_pos b]; exact st_mk ⟨(sm ((sm_at Y).tr (sm_ln _))).1, fun _ => (sm ((sm_at Y).tr (sm_ln _))).2⟩
    rw [if_neg b]
    by_cases b : hrF Y = 69
    · rw [if_pos b]; exact st_mk ⟨(sm (sm_at Y)).1, fun _ => hd⟩
    rw [if_neg b]
    by_cases b : hrF Y = 87
    · rw [if_pos b]
      obtain ⟨n, hn, en, _, _⟩ := hw (Or.inl b)
      rw [en, nI_clamp (by omega)]
      have s := (sm_W3 Y).tr (sm_va (iW3 Y))
      revert s
      generalize vaF (iW3 Y) = w
      intro s
      obtain ⟨r, d⟩ := sm s
      exact st_mk2 (RI_rw r d hn)
    rw [if_neg b]
    by_cases b : hrF Y = 82
    · rw [if_pos b]
      have s := sm_R4 Y
      revert s
      generalize iR4 Y = M
      intro s
      obtain ⟨r, d⟩ := sm s
      have f := rr_fx M (dgF (atF Y)).1.toNatClampNeg (iW2 Y).1 (hrF (iW3 Y) - 65).toNatClampNeg
      exact st_mk2 ⟨r.fx f.1 (by rw [f.2]; exact r.2.2), fun _ => f.1.2.2.2.2.trans d⟩
    rw [if_neg b]
    exact st_mk ⟨(sm ((sm_at Y).tr (sm_go _ 0))).1, fun _ => hd⟩
  · rw [if_pos a]
    have s := ((sm_at Y).tr (sm_mu _ 61)).tr (sm_va (muF (atF Y) 61))
    revert s
    generalize vaF (muF (atF Y) 61) = w
    intro s
    obtain ⟨r, d⟩ := sm s
    exact st_mk ⟨r.fx ⟨rfl, rfl, rfl, rfl, rfl⟩ r.2.2, fun _ => d⟩
