/-! class and reference tied: a line put in -/
theorem cnL_pu (f : Nat → Int32) {l : Nat} {x : Int32} (hl : 1 ≤ l) (hx : ¬ x = -1) : ∀ k, cnL (upd f l x) k = cnL f k + (if k < l then 0 else if f l = -1 then 1 else 0)
  | 0 => by rw [if_pos (by omega)]; rfl
  | k + 1 => by
    have ih := cnL_pu f hl hx k
    show cnL (upd f l x) k + (if upd f l x (k + 1) = -1 then 0 else 1) = cnL f k + (if f (k + 1) = -1 then 0 else 1) + _
    by_cases c : k + 1 = l
    · rw [if_pos (show k < l by omega)] at ih
      rw [if_neg (show ¬ k + 1 < l by omega), c, pk_us, if_neg hx, ih]
      by_cases d : f l = -1
      · rw [if_pos d, if_pos d]
      · rw [if_neg d, if_neg d]
    · rw [pk_un c, ih]
      by_cases d : k + 1 < l
      · rw [if_pos (show k < l by omega), if_pos d]
        omega
      · rw [if_neg (show ¬ k < l by omega), if_neg d]
        omega
theorem cnL_ne {f : Nat → Int32} {l l' : Nat} (a1 : 1 ≤ l) (a2 : l < 100) (b1 : 1 ≤ l') (b2 : l' < 100) (h : ¬ f l = -1) (h' : ¬ f l' = -1) (hne : l' ≠ l) : cnL f (l' - 1) ≠ cnL f (l - 1) := by
  rcases Nat.lt_or_ge l' l with z | z
  · have := cnL_lt (f := f) b1 z a2 h'
    omega
  · have := cnL_lt (f := f) a1 (show l < l' by omega) b2 h
    omega
theorem LN_put1 {nu le te ln ch ch' f v : Nat → Int32} {n l d fr : Nat} (h : LN nu le te n ln ch) (h1 : 1 ≤ l) (h2 : l < 100) (hl : ¬ ln l = -1) (hd : d ≤ 12) (hv : ∀ i, i < d → f (fr + i) = v i) (hc : ∀ i, i < d → ch' (12 * l + i) = v i) (ho : ∀ l', l' ≠ l → ∀ i, i < 12 → ch' (12 * l' + i) = ch (12 * l' + i)) (h12 : ∀ l, 1 ≤ l → l < 100 → ¬ ln l = -1 → (ln l).toNatClampNeg ≤ 12) : LN (upd nu (cnL ln (l - 1)) (nI l)) (upd le (cnL ln (l - 1)) (nI d)) (va_cpy f te fr (cnL ln (l - 1) * 12) d) n (upd ln l (nI d)) ch' := by
  have nd : ¬ nI d = -1 := fun e => absurd (show nI d < 0 by rw [e]; decide) (nI_pos (by omega))
  have rk := fun k => (cnL_pu ln h1 nd k).trans (by rw [if_neg hl]; split <;> rfl : _ = cnL ln k)
  refine ⟨by rw [rk]; exact h.1, fun l' a1 a2 a3 => ?_⟩
  rw [rk]
  by_cases c : l' = l
  · subst c
    rw [pk_us, pk_us, pk_us, nI_clamp (by omega)]
    refine ⟨rfl, rfl, fun i hi => ?_⟩
    unfold va_cpy
    rw [if_pos (by omega), show fr + (12 * cnL ln (l' - 1) + i - cnL ln (l' - 1) * 12) = fr + i by omega, hv i hi, hc i hi]
  · rw [pk_un c] at a3 ⊢
    have ne := cnL_ne h1 h2 a1 a2 hl a3 c
    obtain ⟨t1, t2, t3⟩ := h.2 l' a1 a2 a3
    have hd' := h12 l' a1 a2 a3
    rw [pk_un ne, pk_un ne]
    refine ⟨t1, t2, fun i hi => ?_⟩
    unfold va_cpy
    rw [if_neg (by omega), ho l' c i (by omega)]
    exact t3 i hi
theorem LN_put2 {nu le te ln ch ch' f v : Nat → Int32} {n l d fr p : Nat} (h : LN nu le te n ln ch) (h1 : 1 ≤ l) (h2 : l < 100) (hl : ln l = -1) (hp : p = cnL ln (l - 1)) (hd : d ≤ 12) (hv : ∀ i, i < d → f (fr + i) = v i) (hc : ∀ i, i < d → ch' (12 * l + i) = v i) (ho : ∀ l', l' ≠ l → ∀ i, i < 12 → ch' (12 * l' + i) = ch (12 * l' + i)) (h12 : ∀ l, 1 ≤ l → l < 100 → ¬ ln l = -1 → (ln l).toNatClampNeg ≤ 12) : LN (upd (va_cpy nu nu p (p + 1) (n - p)) p (nI l)) (upd (va_cpy le le p (p + 1) (n - p)) p (nI d)) (va_cpy f (va_cpy te te (p * 12) ((p + 1) * 12) ((n - p) * 12)) fr (p * 12) d) (n + 1) (upd ln l (nI d)) ch' := by
  have nd : ¬ nI d = -1 := fun e => absurd (show nI d < 0 by rw [e]; decide) (nI_pos (by omega))
  have rk := cnL_pu ln h1 nd
  have r99 := rk 99
  rw [if_neg (show ¬ 99 < l by omega), if_pos hl] at r99
  refine ⟨by rw [r99, h.1], fun l' a1 a2 a3 => ?_⟩
  have r' := rk (l' - 1)
  by_cases c : l' = l
  · subst c
    rw [if_pos (show l' - 1 < l' by omega)] at r'
    have e : cnL (upd ln l' (nI d)) (l' - 1) = p := by omega
    rw [e, pk_us, pk_us, pk_us, nI_clamp (by omega)]
    refine ⟨rfl, rfl, fun i hi => ?_⟩
    unfold va_cpy
    rw [if_pos (by omega), show fr + (12 * p + i - p * 12) = fr + i by omega, hv i hi, hc i hi]
  · rw [pk_un c] at a3 ⊢
    obtain ⟨t1, t2, t3⟩ := h.2 l' a1 a2 a3
    have hd' := h12 l' a1 a2 a3
    have b' := (cnL_in ln a1 (by omega) a3)
    have hn := h.1
    rcases Nat.lt_or_ge l' l with z | z
    · rw [if_pos (show l' - 1 < l by omega)] at r'
      have w := cnL_mono ln (j := l') (l - 1) (by omega)
      have e : cnL (upd ln l (nI d)) (l' - 1) = cnL ln (l' - 1) := by omega
      have lt : cnL ln (l' - 1) < p := by omega
      rw [e, pk_un (by omega), pk_un (by omega)]
      unfold va_cpy
      rw [if_neg (by omega), if_neg (by omega)]
      refine ⟨t1, t2, fun i hi => ?_⟩
      rw [if_neg (by omega), if_neg (by omega), ho l' c i (by omega)]
      exact t3 i hi
    · rw [if_neg (show ¬ l' - 1 < l by omega), if_pos hl] at r'
      have w := cnL_mono ln (j := l - 1) (l' - 1) (by omega)
      have e : cnL (upd ln l (nI d)) (l' - 1) = cnL ln (l' - 1) + 1 := by omega
      have ge : p ≤ cnL ln (l' - 1) := by omega
      rw [e, pk_un (by omega), pk_un (by omega)]
      unfold va_cpy
      rw [if_pos (by omega), if_pos (by omega), show p + (cnL ln (l' - 1) + 1 - (p + 1)) = cnL ln (l' - 1) by omega]
      refine ⟨t1, t2, fun i hi => ?_⟩
      rw [if_neg (by omega), if_pos (by omega), show p * 12 + (12 * (cnL ln (l' - 1) + 1) + i - (p + 1) * 12) = 12 * cnL ln (l' - 1) + i by omega, ho l' c i (by omega)]
      exact t3 i hi
