/-! class and reference tied: out and disk; the place of a line -/
theorem TIE_ot1 {L : LSt} {Y : RSt} {x : Int32} (h : TIE L Y) (hb : x < 0 ∨ L.oc ≤ x ∨ ¬ x < 60) : otR Y x = (0, thF Y 1) := by
  have e : L.oc = nI Y.os := h.2.2.1
  unfold otR
  by_cases c1 : x < 0
  · rw [if_pos c1]
  rw [if_neg c1]
  by_cases c2 : nI Y.os ≤ x
  · rw [if_pos c2]
  rw [if_neg c2]
  by_cases c3 : x < 60
  · exact absurd (by rcases hb with a | a | a; exact absurd a c1; exact absurd (by rw [← e]; exact a) c2; exact absurd c3 a) id
  · rw [if_neg c3]
theorem TIE_ot2 {L : LSt} {Y : RSt} {x : Int32} (h : TIE L Y) (hos : Y.os < 1000000) (h1 : ¬ x < 0) (h2 : ¬ L.oc ≤ x) (h3 : x < 60) : otR Y x = (L.kf x.toNatClampNeg, thF Y 0) := by
  have e : L.oc = nI Y.os := h.2.2.1
  have c2 : ¬ nI Y.os ≤ x := fun g => h2 (by rw [e]; exact g)
  unfold otR
  rw [if_neg h1, if_neg c2, if_pos h3]
  obtain ⟨j, hj, rfl⟩ := nI_of h1
  rw [nI_clamp hj]
  have b1 : j < Y.os := Nat.lt_of_not_le (fun g => c2 ((nI_leI (by omega) hj).mpr g))
  have b2 : j < 60 := (nI_ltI (b := 60) hj (by decide)).mp h3
  rw [h.2.2.2 j b2 b1]
theorem TIE_dk1 {Y : RSt} {x : Int32} (hb : x < 0 ∨ ¬ x < 512) : dkR Y x = (0, thF Y 1) := by
  unfold dkR
  by_cases c1 : x < 0
  · rw [if_pos c1]
  rw [if_neg c1]
  have c2 : ¬ x ≤ 511 := fun g => (hb.resolve_left c1) (Int32.lt_of_le_of_lt g (by decide))
  rw [if_pos c2]
theorem TIE_dk2 {L : LSt} {Y : RSt} {x : Int32} (h : TIE L Y) (h1 : ¬ x < 0) (h2 : x < 512) : dkR Y x = (cellv L.g x, thF Y 0) := by
  obtain ⟨j, hj, rfl⟩ := nI_of h1
  have b : j < 512 := (nI_ltI (b := 512) hj (by decide)).mp h2
  have c2 : ¬ ¬ nI j ≤ 511 := fun g => g ((nI_leI (b := 511) hj (by decide)).mpr (by omega))
  unfold dkR
  rw [if_neg h1, if_neg c2, cellv_in b, nI_clamp hj]
  have e : L.g j = Y.dk j := h.1.2.2.2 j b
  rw [e]
theorem plG_plc (nu : Nat → Int32) (x : Int32) : ∀ f p, (∀ i, i < p → nu i < x) → (∀ i, i < plG nu x f p → nu i < x) ∧ plG nu x f p ≤ p + f ∧ p ≤ plG nu x f p ∧ (plG nu x f p = p + f ∨ ¬ nu (plG nu x f p) < x)
  | 0, p, h => ⟨h, Nat.le_refl _, Nat.le_refl _, Or.inl rfl⟩
  | f + 1, p, h => by
    by_cases c : nu p < x
    · have e : plG nu x (f + 1) p = plG nu x f (p + 1) := if_pos c
      rw [e]
      obtain ⟨a1, a2, a3, a4⟩ := plG_plc nu x f (p + 1) (fun i hi => by
        by_cases d : i = p
        · rw [d]; exact c
        · exact h i (by omega))
      refine ⟨a1, by omega, by omega, ?_⟩
      rcases a4 with a | a
      · exact Or.inl (by omega)
      · exact Or.inr a
    · have e : plG nu x (f + 1) p = p := if_neg c
      rw [e]
      exact ⟨h, by omega, Nat.le_refl _, Or.inr c⟩
theorem plF_plc (nu : Nat → Int32) (n : Nat) (x : Int32) : (∀ i, i < plF nu n x → nu i < x) ∧ plF nu n x ≤ n ∧ (plF nu n x = n ∨ ¬ nu (plF nu n x) < x) := by
  obtain ⟨a, b, _, d⟩ := plG_plc nu x n 0 (fun i hi => absurd hi (by omega))
  unfold plF
  exact ⟨a, by omega, d.imp (fun e => by omega) id⟩
