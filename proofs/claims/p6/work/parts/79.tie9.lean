/-! class and reference tied: the next line -/
theorem LN_p {nu le te ln ch : Nat → Int32} {n p : Nat} (h : LN nu le te n ln ch) (hp : p < n) : ∃ l, 1 ≤ l ∧ l < 100 ∧ ¬ ln l = -1 ∧ cnL ln (l - 1) = p ∧ nu p = nI l ∧ le p = ln l := by
  obtain ⟨l, a, b, c, d⟩ := cnL_ex ln 99 p (by rw [← h.1]; exact hp)
  have t := h.2 l a (by omega) c
  rw [d] at t
  exact ⟨l, a, by omega, c, d, t.1, t.2.1⟩
theorem cnL_lt {f : Nat → Int32} {l l' : Nat} (h1 : 1 ≤ l) (h2 : l < l') (h3 : l' < 100) (h : ¬ f l = -1) : cnL f (l - 1) < cnL f (l' - 1) := by
  have a := (cnL_in f h1 (by omega) h).1
  have b := cnL_mono f (j := l) (l' - 1) (by omega)
  omega
theorem nlR_first {f : Nat → Int32} : ∀ g k, k + g = 100 → (∀ l, k ≤ l → l < 100 → ¬ f l = -1 → (∀ l', k ≤ l' → l' < l → f l' = -1) → nlR f g k = nI l) ∧ ((∀ l, k ≤ l → l < 100 → f l = -1) → nlR f g k = -1)
  | 0, k, h => ⟨fun l a b => absurd b (by omega), fun _ => rfl⟩
  | g + 1, k, h => by
    obtain ⟨i1, i2⟩ := nlR_first (f := f) g (k + 1) (by omega)
    by_cases c : f k = -1
    · have e : nlR f (g + 1) k = nlR f g (k + 1) := if_pos c
      rw [e]
      refine ⟨fun l a b d r => ?_, fun r => i2 (fun l a b => r l (by omega) b)⟩
      have : l ≠ k := fun z => d (by rw [z]; exact c)
      exact i1 l (by omega) b d (fun l' x y => r l' (by omega) y)
    · have e : nlR f (g + 1) k = nI k := if_neg c
      rw [e]
      refine ⟨fun l a b d r => ?_, fun r => absurd (r k (Nat.le_refl _) (by omega)) c⟩
      rcases Nat.lt_or_ge k l with z | z
      · exact absurd (r k (Nat.le_refl _) z) c
      · rw [show l = k by omega]
theorem nxS_ge {x : Int32} {l : Nat} (h1 : 1 ≤ l) (h2 : l < 100) : nxS x ≤ nI l ↔ ¬ nI l < x := by
  unfold nxS
  by_cases c : 1 ≤ x
  · rw [if_pos c]
    exact ⟨fun g => Int32.not_lt.mpr g, fun g => Int32.not_lt.mp g⟩
  · rw [if_neg c]
    have a : (1 : Int32) ≤ nI l := (nI_leI (a := 1) (by decide) (by omega)).mpr h1
    exact ⟨fun _ g => c (Int32.le_of_lt (Int32.lt_of_le_of_lt a g)), fun _ => a⟩
theorem TIE_nl {nu le te ln ch : Nat → Int32} {n : Nat} {Y : RSt} (h : LN nu le te n ln ch) (e : Y.ln = ln) : (plF nu n Y.nx < n → ∃ l, 1 ≤ l ∧ l < 100 ∧ ¬ ln l = -1 ∧ cnL ln (l - 1) = plF nu n Y.nx ∧ nlF Y = nI l) ∧ (¬ plF nu n Y.nx < n → nlF Y = -1) := by
  obtain ⟨p1, p2, p3⟩ := plF_plc nu n Y.nx
  unfold nlF
  rw [e]
  generalize plF nu n Y.nx = p at p1 p2 p3
  have lo := nxS_lo Y.nx
  have key : ∀ l, 1 ≤ l → l < 100 → ¬ ln l = -1 → (nu (cnL ln (l - 1)) < Y.nx ↔ ¬ nxS Y.nx ≤ nI l) := fun l a b c => by
    rw [(h.2 l a b c).1, nxS_ge a b]
    exact ⟨fun g z => z g, fun g => Decidable.byContradiction g⟩
  by_cases c0 : 100 ≤ nxS Y.nx
  · rw [if_pos c0]
    refine ⟨fun hp => ?_, fun _ => rfl⟩
    obtain ⟨l, a, b, c, d, e1, _⟩ := LN_p h hp
    have q : nxS Y.nx ≤ nI l := by
      rw [nxS_ge a b, ← e1]
      exact p3.resolve_left (by omega)
    exact absurd (Int32.le_trans c0 q) (fun z => absurd ((nI_leI (a := 100) (by decide) (by omega)).mp z) (by omega))
  · rw [if_neg c0]
    have h0 : ¬ nxS Y.nx < 0 := fun z => lo (Int32.lt_trans z (by decide))
    obtain ⟨k0, hk0, ek⟩ := nI_of2 (M := 99) (n := 99) (by decide) h0 (lt100 c0)
    have hk1 : 1 ≤ k0 := by
      rcases Nat.eq_zero_or_pos k0 with z | z
      · exact absurd (by rw [ek, z]; decide) lo
      · exact z
    rw [ek] at key
    rw [ek, nI_clamp (by omega)]
    have ky : ∀ l, 1 ≤ l → l < 100 → ¬ ln l = -1 → (nu (cnL ln (l - 1)) < Y.nx ↔ l < k0) := fun l a b c => by
      rw [key l a b c, nI_leI (by omega) (by omega)]
      omega
    obtain ⟨f1, f2⟩ := nlR_first (f := ln) (100 - k0) k0 (by omega)
    refine ⟨fun hp => ?_, fun hp => f2 (fun l a b => Decidable.byContradiction (fun c => ?_))⟩
    · obtain ⟨l, a, b, c, d, e1, _⟩ := LN_p h hp
      have t := ky l a b c
      rw [d] at t
      have g1 : ¬ nu p < Y.nx := p3.resolve_left (by omega)
      have g2 : k0 ≤ l := Nat.le_of_not_lt (fun z => g1 (t.mpr z))
      refine ⟨l, a, b, c, d, f1 l g2 b c (fun l' x y => Decidable.byContradiction (fun z => ?_))⟩
      have w := cnL_lt (f := ln) (l := l') (l' := l) (by omega) y b z
      rw [d] at w
      have := (ky l' (by omega) (by omega) z).mp (p1 _ w)
      omega
    · have w : cnL ln (l - 1) < n := by
        rw [h.1]
        have := (cnL_in ln (k := l) (by omega) (by omega) c).2
        omega
      have := (ky l (by omega) b c).mp (p1 _ (by omega))
      omega
