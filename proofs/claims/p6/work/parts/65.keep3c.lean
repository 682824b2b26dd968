theorem liN_fx (Y : RSt) : ∀ k, FX Y (liN Y k)
  | 0 => ⟨rfl, rfl, rfl, rfl, rfl⟩
  | k + 1 => by
    unfold liN
    split
    · exact liN_fx Y k
    · exact liN_fx Y k
theorem RI_cmd {q : Nat} {Y : RSt} (h : RI q Y) (hd : Y.de = 0) : RI (q + 16) (cmdR Y).2 := by
  unfold cmdR
  by_cases c0 : okF Y = 0
  · rw [if_neg (fun g => g c0)]; exact h.up (by omega)
  rw [if_pos c0]
  by_cases c1 : Y.tx 0 = 78
  · rw [if_pos c1]
    exact ⟨⟨h.1.1, by show cnL (fun _ => -1) 99 ≤ 10; rw [cnL_m1]; decide, fun l _ _ => Or.inl rfl⟩, DI_cg (Y := Y) rfl rfl h.2.1, Nat.le_trans h.2.2 (by omega)⟩
  rw [if_neg c1]
  by_cases c2 : Y.tx 0 = 67
  · rw [if_pos c2]
    exact h.up (by omega) |>.fx ⟨rfl, rfl, rfl, rfl, rfl⟩ (Nat.zero_le _)
  rw [if_neg c2]
  by_cases c3 : fmtv Y.dk = 0
  · rw [if_pos c3]; exact h.up (by omega)
  rw [if_neg c3]
  by_cases c4 : Y.tx 0 = 70
  · rw [if_pos c4]
    exact (h.up (q' := q + 16) (by omega)).fx (liN_fx Y 8) (by have := liN_os Y 8; have := h.2.2; show (liN Y 8).os ≤ q + 16; omega)
  rw [if_neg c4]
  obtain ⟨n, hn, en⟩ := okF_n c0 (by unfold plR; rw [if_neg c4, if_neg c1, if_pos c2])
  rw [en, nI_clamp (by omega)]
  by_cases c5 : Y.tx 0 = 83
  · rw [if_pos c5]; exact (RI_sa h hd hn c3).up (by omega)
  rw [if_neg c5]
  by_cases c6 : Y.tx 0 = 76
  · rw [if_pos c6]; exact (RI_ld h hd hn).up (by omega)
  rw [if_neg c6]
  exact (RI_dr h hn c3).up (by omega)
theorem RI_tn {q : Nat} {Y : RSt} (h : RI q Y) : RI q (tnF Y 0) := ⟨⟨Nat.zero_le _, h.1.2⟩, DI_cg (Y := Y) rfl rfl h.2.1, h.2.2⟩
theorem RI_th {q : Nat} {Y : RSt} (h : RI q Y) (x : Int32) : RI q (thF Y x) := h.fx ⟨rfl, rfl, rfl, rfl, rfl⟩ h.2.2
theorem RI_fd {q : Nat} {M : RSt} (h0 : RI q M) (d0 : M.de = 0) : RI (q + 16) (fdR M).2 := by
  unfold fdR
  by_cases c3 : nI M.tn = 0
  · rw [if_neg (fun g => g c3)]; exact ri_mk ((RI_tn h0).up (by omega))
  · rw [if_pos c3]
    by_cases c4 : dgt (M.tx 0) = 0
    · rw [if_pos c4]
      have t := RI_cmd h0 d0
      revert t
      generalize cmdR M = w
      intro t
      exact ri_mk (RI_tn t)
    · rw [if_neg c4]
      have t := RI_li h0
      revert t
      generalize liR M = w
      intro t
      exact ri_mk ((RI_tn t).up (by omega))
theorem RI_ke {q : Nat} {Y : RSt} (h : RI q Y) (x : Int32) (ht : ¬ 15 ≤ Y.tn) : RI q (keR Y x) := ⟨⟨by show Y.tn + 1 ≤ 15; omega, h.1.2⟩, DI_cg (Y := Y) rfl rfl h.2.1, h.2.2⟩
theorem RI_fe {q : Nat} {Y : RSt} (h : RI q Y) (x : Int32) : RI (q + 16) (feR Y x).2 := by
  have h0 := RI_th h 0
  have d0 : (thF Y 0).de = Y.de := rfl
  have t0 : (thF Y 0).tn = Y.tn := rfl
  unfold feR
  revert h0 d0 t0
  generalize thF Y 0 = M
  intro h0 d0 t0
  by_cases c1 : Y.de = 0
  · rw [if_pos c1]
    by_cases c2 : x = 10
    · rw [if_pos c2]
      exact RI_fd h0 (d0.trans c1)
    · rw [if_neg c2]
      by_cases c3 : 15 ≤ Y.tn
      · rw [if_pos c3]; exact ri_mk (h0.up (by omega))
      · rw [if_neg c3]; exact ri_mk ((RI_ke h0 x (by rw [t0]; exact c3)).up (by omega))
  · rw [if_neg c1]; exact ri_mk (h0.up (by omega))
