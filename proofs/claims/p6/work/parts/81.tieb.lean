/-! class and reference tied: a line taken out -/
theorem cnL_rm (f : Nat → Int32) {l : Nat} (hl : 1 ≤ l) : ∀ k, cnL (upd f l (-1)) k + (if k < l then 0 else if f l = -1 then 0 else 1) = cnL f k
  | 0 => by rw [if_pos (by omega)]; rfl
  | k + 1 => by
    have ih := cnL_rm f hl k
    show cnL (upd f l (-1)) k + (if upd f l (-1) (k + 1) = -1 then 0 else 1) + _ = cnL f k + (if f (k + 1) = -1 then 0 else 1)
    by_cases c : k + 1 = l
    · rw [if_pos (show k < l by omega)] at ih
      rw [if_neg (show ¬ k + 1 < l by omega), c, pk_us, if_pos rfl]
      omega
    · rw [pk_un c]
      by_cases d : k + 1 < l
      · rw [if_pos (show k < l by omega)] at ih
        rw [if_pos d]
        omega
      · rw [if_neg (show ¬ k < l by omega)] at ih
        rw [if_neg d]
        omega
theorem plF_at {nu le te ln ch : Nat → Int32} {n l : Nat} (h : LN nu le te n ln ch) (h1 : 1 ≤ l) (h2 : l < 100) (hl : ¬ ln l = -1) : plF nu n (nI l) = cnL ln (l - 1) := by
  have t := h.2 l h1 h2 hl
  have b := (cnL_in ln h1 (by omega) hl).2
  refine (plF_eq ⟨?_, fun i hi => ?_, Or.inr ⟨?_, ?_⟩⟩).symm
  · rw [h.1]; omega
  · obtain ⟨l', a, b', c, d, e1, _⟩ := LN_p h (p := i) (by rw [h.1]; omega)
    rw [e1]
    refine nI_lt ?_ (by omega)
    rcases Nat.lt_or_ge l' l with z | z
    · exact z
    · have := cnL_mono ln (j := l - 1) (l' - 1) (by omega)
      omega
  · rw [h.1]; omega
  · rw [t.1]
    exact nI_nlt (Nat.le_refl _) (by omega)
theorem LN_rm {nu le te ln ch : Nat → Int32} {n l : Nat} (h : LN nu le te n ln ch) (h1 : 1 ≤ l) (h2 : l < 100) (h12 : ∀ l, 1 ≤ l → l < 100 → ¬ ln l = -1 → (ln l).toNatClampNeg ≤ 12) : LN (rmv nu le te n (nI l) (plF nu n (nI l))).2.1 (rmv nu le te n (nI l) (plF nu n (nI l))).2.2.1 (rmv nu le te n (nI l) (plF nu n (nI l))).2.2.2 (rmv nu le te n (nI l) (plF nu n (nI l))).1 (upd ln l (-1)) ch := by
  have rk := cnL_rm ln h1
  unfold rmv
  by_cases c : ln l = -1
  · have e : upd ln l (-1) = ln := by
      funext i
      by_cases d : i = l
      · rw [d, pk_us, c]
      · rw [pk_un d]
    have no : ¬ (plF nu n (nI l) < n ∧ nu (plF nu n (nI l)) = nI l) := fun ⟨a, b⟩ => by
      obtain ⟨l', a1, b1, c1, _, e1, _⟩ := LN_p h a
      have : l' = l := (nI_eq (by omega) (by omega)).mp (e1.symm.trans b)
      exact c1 (by rw [this]; exact c)
    rw [if_neg no, e]
    exact h
  · have t := h.2 l h1 h2 c
    have b := (cnL_in ln h1 (by omega) c)
    rw [plF_at h h1 h2 c]
    have hp : cnL ln (l - 1) < n := by rw [h.1]; omega
    rw [if_pos ⟨hp, t.1⟩]
    have r99 := rk 99
    rw [if_neg (show ¬ 99 < l by omega), if_neg c] at r99
    refine ⟨by show n - 1 = _; rw [h.1]; omega, fun l' a1 a2 a3 => ?_⟩
    have hne : l' ≠ l := fun z => a3 (by rw [z, pk_us])
    rw [pk_un hne] at a3 ⊢
    obtain ⟨t1, t2, t3⟩ := h.2 l' a1 a2 a3
    have b' := (cnL_in ln a1 (by omega) a3).2
    have r' := rk (l' - 1)
    show va_cpy nu nu (cnL ln (l - 1) + 1) (cnL ln (l - 1)) (n - (cnL ln (l - 1) + 1)) (cnL (upd ln l (-1)) (l' - 1)) = nI l' ∧ va_cpy le le (cnL ln (l - 1) + 1) (cnL ln (l - 1)) (n - (cnL ln (l - 1) + 1)) (cnL (upd ln l (-1)) (l' - 1)) = ln l' ∧ ∀ i, i < (ln l').toNatClampNeg → va_cpy te te ((cnL ln (l - 1) + 1) * 12) (cnL ln (l - 1) * 12) ((n - (cnL ln (l - 1) + 1)) * 12) (12 * cnL (upd ln l (-1)) (l' - 1) + i) = ch (12 * l' + i)
    have hd := h12 l' a1 a2 a3
    unfold va_cpy
    rcases Nat.lt_or_ge l' l with z | z
    · rw [if_pos (show l' - 1 < l by omega)] at r'
      have w := cnL_lt (f := ln) a1 z h2 a3
      have r2 : cnL (upd ln l (-1)) (l' - 1) = cnL ln (l' - 1) := by omega
      rw [r2, if_neg (by omega), if_neg (by omega)]
      exact ⟨t1, t2, fun i hi => by rw [if_neg (by omega)]; exact t3 i hi⟩
    · rw [if_neg (show ¬ l' - 1 < l by omega), if_neg c] at r'
      have w := cnL_lt (f := ln) h1 (show l < l' by omega) a2 c
      have r2 : cnL (upd ln l (-1)) (l' - 1) = cnL ln (l' - 1) - 1 := by omega
      have hn := h.1
      rw [r2, if_pos (by omega), if_pos (by omega), show cnL ln (l - 1) + 1 + (cnL ln (l' - 1) - 1 - cnL ln (l - 1)) = cnL ln (l' - 1) by omega]
      exact ⟨t1, t2, fun i hi => by
        rw [if_pos (by omega), show (cnL ln (l - 1) + 1) * 12 + (12 * (cnL ln (l' - 1) - 1) + i - cnL ln (l - 1) * 12) = 12 * cnL ln (l' - 1) + i by omega]
        exact t3 i hi⟩
