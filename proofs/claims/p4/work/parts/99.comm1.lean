/-! commands and feeding -/
theorem fdg_8 {c : Int32} : ¬ fdg c = 0 ↔ (¬ c - 48 < 0 ∧ c - 48 ≤ 7) ∧ ¬ (c < 48 ∨ 55 < c) := by
  rw [not_congr fdg_i]
  refine ⟨fun h => ⟨?_, h⟩, fun h => h.2⟩
  obtain ⟨j, hj, e⟩ := dig8 (c := c) (fun g => h (Or.inl g)) (fun g => h (Or.inr g))
  rw [e]
  exact ⟨nI_pos (by omega), (nI_leI (b := 7) (by omega) (by decide)).mpr (by omega)⟩
theorem sub48 {c : Int32} (h1 : ¬ c - 48 < 0) (h2 : c - 48 ≤ 7) : ∃ n : Nat, n < 8 ∧ c - 48 = nI n ∧ ¬ fdg c = 0 := by
  obtain ⟨n, hn, e⟩ := nI_of2 (M := 7) (n := 7) (by decide) h1 h2
  refine ⟨n, by omega, e, ?_⟩
  have ec : c = nI (n + 48) := by
    have t : c - 48 + 48 = nI n + 48 := by rw [e]
    rw [Int32.sub_add_cancel] at t
    exact t.trans (nI_add n 48)
  rw [ec]
  exact (by decide +kernel : ∀ j : Fin 8, ¬ fdg (nI (j.val + 48)) = 0) ⟨n, by omega⟩
theorem cm_pl {L : LSt} {Y : RSt} (h : TIE (tcF L) (tnF Y 0)) (hos : Y.os < 999900) (h1 : Y.tn = 1) (c : Int32) (hc : Y.tx 0 = c) : (plnF (tcF L) c).1 = (cmdR Y).1 ∧ TIE (plnF (tcF L) c).2 (tnF (cmdR Y).2 0) := by
  have fm0 := fm_tie h
  have fm : fmtv (tcF L).g = fmtv Y.dk := fm0
  have n12 : ¬ nI Y.tn = 2 := by rw [h1]; decide
  have n11 : nI Y.tn = 1 := by rw [h1]; rfl
  have ok : okF Y = if plR c = 0 then 0 else 1 := by
    unfold okF
    rw [hc, n11, if_pos (show (1 : Int32) = 1 from rfl)]
    by_cases w : wdF c = 0
    · rw [if_pos w]
    · rw [if_neg w, if_pos (by decide)]
  unfold plnF cmdR
  rw [ok, hc]
  by_cases a1 : c = 67
  · subst a1
    rw [if_pos (show ¬ (if plR 67 = 0 then (0 : Int32) else 1) = 0 by decide), if_pos (show (67 : Int32) = 67 from rfl), if_neg (show ¬ (67 : Int32) = 78 by decide), if_pos (show (67 : Int32) = 67 from rfl)]
    exact ⟨rfl, TIE_cl h⟩
  by_cases a2 : c = 70
  · subst a2
    rw [if_pos (show ¬ (if plR 70 = 0 then (0 : Int32) else 1) = 0 by decide), if_neg a1, if_pos (show (70 : Int32) = 70 from rfl), if_neg (show ¬ (70 : Int32) = 78 by decide), if_neg a1, if_pos (show (70 : Int32) = 70 from rfl)]
    unfold lstF
    rw [fm]
    by_cases f : fmtv Y.dk = 0
    · have nf : ¬ ¬ fmtv Y.dk = 0 := fun g => g f
      rw [if_neg nf, if_pos f]
      exact ⟨rfl, h⟩
    · rw [if_pos f, if_neg f]
      refine ⟨rfl, ?_⟩
      have t := TIE_ls h hos 8 (Nat.le_refl _)
      have e : tnF (liN Y 8) 0 = liN (tnF Y 0) 8 := by
        have g : ∀ k, tnF (liN Y k) 0 = liN (tnF Y 0) k := by
          intro k
          induction k with
          | zero => rfl
          | succ k ih =>
            show tnF (if Y.dk (16 + 2 * k) = 0 then liN Y k else coF (coF (liN Y k) (nI k)) (Y.dk (16 + 2 * k))) 0 = (if Y.dk (16 + 2 * k) = 0 then liN (tnF Y 0) k else coF (coF (liN (tnF Y 0) k) (nI k)) (Y.dk (16 + 2 * k)))
            by_cases z : Y.dk (16 + 2 * k) = 0
            · rw [if_pos z, if_pos z]; exact ih
            · rw [if_neg z, if_neg z, ← ih]; rfl
        exact g 8
      rw [e]
      exact t
  by_cases a3 : c = 78
  · subst a3
    rw [if_pos (show ¬ (if plR 78 = 0 then (0 : Int32) else 1) = 0 by decide), if_neg a1, if_neg a2, if_pos (show (78 : Int32) = 78 from rfl), if_pos (show (78 : Int32) = 78 from rfl)]
    exact ⟨rfl, TIE_rl h⟩
  · have p0 : plR c = 0 := by
      unfold plR
      rw [if_neg a2, if_neg a3, if_pos a1]
    have n0 : ¬ ¬ (if plR c = 0 then (0 : Int32) else 1) = 0 := fun g => g (by rw [if_pos p0])
    rw [if_neg n0, if_neg a1, if_neg a2, if_neg a3]
    exact ⟨rfl, h⟩
theorem cm_fl {q : Nat} {L : LSt} {Y : RSt} {e0 : Nat → Int32} (h : TIE L Y) (ri : RI q Y) (hd : Y.de = 0) (he0 : ∀ i, i < 16 → e0 i = 0) (c : Int32) {n : Nat} (hn : n < 8) (hc : c = 83 ∨ c = 76 ∨ c = 68) : (flcF e0 L c (nI n)).1 = (if fmtv Y.dk = 0 then ((8 : Int32), Y) else if c = 83 then saR Y n else if c = 76 then ldR Y n else drR Y n).1 ∧ TIE (flcF e0 L c (nI n)).2 (if fmtv Y.dk = 0 then ((8 : Int32), Y) else if c = 83 then saR Y n else if c = 76 then ldR Y n else drR Y n).2 := by
  unfold flcF
  rw [if_pos hc, fm_tie h]
  by_cases f : fmtv Y.dk = 0
  · have nf : ¬ ¬ fmtv Y.dk = 0 := fun g => g f
    rw [if_neg nf, if_pos f]
    exact mk2 rfl h
  · rw [if_pos f, if_neg f]
    by_cases a1 : c = 83
    · have a2 : ¬ c = 76 := by rw [a1]; decide
      rw [if_neg a2, if_pos a1, if_pos a1]
      exact TIE_sa h ri hd hn he0
    · by_cases a2 : c = 76
      · rw [if_pos a2, if_neg a1, if_pos a2]
        exact TIE_ld h ri hd hn
      · rw [if_neg a2, if_neg a1, if_neg a1, if_neg a2]
        exact TIE_dr h hd hn he0
