/-! class and reference tied: W -/
theorem rw_room {g : Nat → Int32} {Y : RSt} {n : Nat} (ge : GE g Y.dk) (ok : FOK Y.dk) (hn : n < 8) : rmF g (nI n) 1 = rwB Y n := rm_eq ge ok hn (by decide) (by decide)
theorem rwB_in {Y : RSt} {n : Nat} (hn : n < 8) (h : ¬ rwB Y n = -1) : ∃ b, 9 ≤ b ∧ b + 1 ≤ 32 ∧ rwB Y n = nI b := by
  obtain ⟨b, h1, h2, e, _⟩ := rmB (m := 1) (by decide) hn h
  exact ⟨b, h1, h2, e⟩
theorem TIE_rw {q : Nat} {L : LSt} {Y : RSt} {n : Nat} {i v : Int32} {e0 : Nat → Int32} (h : TIE L Y) (ri : RI q Y) (hd : Y.de = 0) (hn : n < 8) (he0 : ∀ i, i < 16 → e0 i = 0) : (wrrF e0 L (nI n) i v).1 = (rwR Y n i v).1 ∧ TIE (wrrF e0 L (nI n) i v).2 (rwR Y n i v).2 := by
  have ge : GE L.g Y.dk := h.1.2.2.2
  have ok := (DI_fok ri.2.1 hd).2
  have hrec := RI_hrec ri hd n hn
  have er := rw_room ge ok hn
  have hB := fun c => rwB_in (Y := Y) (n := n) hn c
  have ef := rfl_eq (i := i) h hn
  have e16 := cv16 ge hn
  have e17 := cv17 ge hn
  unfold wrrF rwR
  rw [ef, e16, e17, er]
  clear ef e16 e17 er ok ri
  revert hB
  generalize rwB Y n = B
  intro hB
  have z : ∀ x : Int32, ¬ x = 0 → ∀ p q : Int32 × LSt, (if x = 0 then p else q) = q := fun x hx p q => if_neg hx
  by_cases c1 : fmtv Y.dk = 0
  · have nc : ¬ ¬ fmtv Y.dk = 0 := fun g => g c1
    rw [if_neg nc, if_neg nc, z 8 (by decide)]
    exact mk2 rfl h
  rw [if_pos c1, if_pos c1]
  by_cases c2 : i < 0
  · rw [if_pos c2, if_pos c2, z 4 (by decide)]
    exact mk2 rfl h
  rw [if_neg c2, if_neg c2]
  by_cases c3 : i ≤ 15
  · have nc : ¬ ¬ i ≤ 15 := fun g => g c3
    rw [if_pos c3, if_neg nc]
    obtain ⟨j, hj, rfl⟩ := nI_of2 (M := 15) (n := 15) (by decide) c2 c3
    by_cases c4 : Y.dk (16 + 2 * n) = 0
    · rw [if_pos c4, if_pos c4, if_pos rfl, if_pos c4]
      by_cases c5 : B = -1
      · have nc5 : ¬ ¬ B = -1 := fun g => g c5
        rw [if_neg nc5, if_neg nc5]
        exact mk2 rfl h
      · rw [if_pos c5, if_pos c5]
        obtain ⟨b, hb1, hb2, eb⟩ := hB c5
        rw [eb, nI_clamp (show b < 2 ^ 31 by omega), c4]
        exact TIE_rwN h ge hd hn hj hb1 hb2 he0
    · rw [if_neg c4]
      by_cases c5 : Y.dk (16 + 2 * n) = 16
      · have nc5 : ¬ ¬ Y.dk (16 + 2 * n) = 16 := fun g => g c5
        obtain ⟨f, hf1, hf2, ef⟩ := hrec c5
        rw [if_neg nc5, if_pos rfl, if_neg c4, if_neg c4, if_pos c5, ef, f16 hf2, nI_clamp (show f < 2 ^ 31 by omega), c5]
        exact TIE_rwE h ge hd hj hf2 he0
      · rw [if_pos c5, z 4 (by decide), if_neg c4, if_neg c5]
        exact mk2 rfl h
  · rw [if_neg c3, if_pos c3, z 4 (by decide)]
    exact mk2 rfl h
