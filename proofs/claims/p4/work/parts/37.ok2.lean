/-! feed keeps it too -/
theorem ptv_n {nu le te : Nat → Int32} {n : Nat} {x : Int32} {n0 : Nat} {f : Nat → Int32} {fr ln : Int32} {p : Nat} (hn : n ≤ 10) : (ptv nu le te n x n0 f fr ln p).2.1 ≤ 10 ∧ (ptv nu le te n x n0 f fr ln p).2.1 ≤ n + 1 := by
  unfold ptv
  by_cases h1 : ln < 1
  · rw [if_pos h1]; exact ⟨hn, Nat.le_succ n⟩
  rw [if_neg h1]
  by_cases h2 : 12 < ln
  · rw [if_pos h2]; exact ⟨hn, Nat.le_succ n⟩
  rw [if_neg h2]
  by_cases h3 : fr < 0
  · rw [if_pos h3]; exact ⟨hn, Nat.le_succ n⟩
  rw [if_neg h3]
  by_cases h4 : fr ≤ Int32.ofNat n0 - ln
  · rw [if_pos h4]
    by_cases h5 : numv nu n (nI p) = x
    · rw [if_pos h5]; exact ⟨hn, Nat.le_succ n⟩
    · rw [if_neg h5]
      by_cases h6 : nI n = 10
      · rw [if_neg (fun g => g h6)]; exact ⟨hn, Nat.le_succ n⟩
      · rw [if_pos h6]
        have : n ≠ 10 := fun e => h6 (by rw [e]; rfl)
        exact ⟨by show n + 1 ≤ 10; omega, Nat.le_refl _⟩
  · rw [if_neg h4]; exact ⟨hn, Nat.le_succ n⟩
theorem ldL_ok {L : LSt} (s : Int32) (h0 : L.wn = 0) (hc : L.wc ≤ 15) : ∀ k, k ≤ 10 → (ldL L s k).wn ≤ k ∧ (ldL L s k).wc ≤ 15
  | 0, _ => ⟨Nat.le_of_eq h0, hc⟩
  | k + 1, hk => by
    obtain ⟨a, b⟩ := ldL_ok s h0 hc k (by omega)
    refine ⟨?_, b⟩
    show (ldK (ldL L s k) (s + nI (4 * k))).wn ≤ k + 1
    generalize ldL L s k = M at a b
    have h := (ptv_n (nu := M.nu) (le := M.le) (te := M.te) (x := cellv M.g (s + nI (4 * k)) / 16) (n0 := 12) (f := ppU M.un (cellv M.g (s + nI (4 * k) + 1)) (cellv M.g (s + nI (4 * k) + 2)) (cellv M.g (s + nI (4 * k) + 3))) (fr := 0) (ln := cellv M.g (s + nI (4 * k)) - cellv M.g (s + nI (4 * k)) / 16 * 16) (p := plF M.nu M.wn (cellv M.g (s + nI (4 * k)) / 16)) (n := M.wn) (by omega)).2
    exact Nat.le_trans h (by omega)
theorem lodF_ok {L : LSt} (n : Int32) (h : LOk L) : LOk (lodF L n).2 := by
  unfold lodF
  generalize cellv L.g (16 + 2 * n) = c
  generalize cellv L.g (16 + 2 * n + 1) * 16 = s
  generalize cellv L.g s = m
  by_cases h1 : c = 0
  · rw [if_pos h1]; exact h
  · rw [if_neg h1]
    by_cases h2 : c = 16
    · rw [if_neg (fun g => g h2)]; exact h
    · rw [if_pos h2]
      have k := ldL_ok (L := rlF L) (s + 1) rfl h.2 (ldn m) (ldn_le m)
      exact ⟨Nat.le_trans k.1 (ldn_le m), k.2⟩
theorem sveF_ok {L : LSt} (e0 : Nat → Int32) (n : Int32) (h : LOk L) : LOk (sveF e0 L n).2 := by
  unfold sveF
  generalize rmF L.g n ((1 + 4 * L.wn + 15) / 16) = f
  by_cases h1 : nI L.wn = 0
  · rw [if_neg (fun g => g h1)]; exact h
  · rw [if_pos h1]
    by_cases h2 : f = -1
    · rw [if_neg (fun g => g h2)]; exact h
    · rw [if_pos h2]
      have k : LOk (sv3 L n f) := pjF_ok _ _ (bgF_ok n _ f h)
      generalize sv3 L n f = M at k
      exact cmtF_ok e0 (roF_ok _ k)
theorem lsF_ok {L : LSt} (h : LOk L) : ∀ k, LOk (lsF L k)
  | 0 => h
  | k + 1 => by
    show LOk (if cellv L.g (16 + 2 * nI k) = 0 then lsF L k else outF (outF (lsF L k) (nI k)) (cellv L.g (16 + 2 * nI k)))
    by_cases c : cellv L.g (16 + 2 * nI k) = 0
    · rw [if_pos c]; exact lsF_ok h k
    · rw [if_neg c]; exact outF_ok _ (outF_ok _ (lsF_ok h k))
theorem plnF_ok {L : LSt} (c : Int32) (h : LOk L) : LOk (plnF L c).2 := by
  unfold plnF
  by_cases h1 : c = 67
  · rw [if_pos h1]; exact clF_ok h
  · rw [if_neg h1]
    by_cases h2 : c = 70
    · rw [if_pos h2]
      unfold lstF
      by_cases h3 : fmtv L.g = 0
      · rw [if_neg (fun g => g h3)]; exact h
      · rw [if_pos h3]; exact lsF_ok h 8
    · rw [if_neg h2]
      by_cases h3 : c = 78
      · rw [if_pos h3]; exact rlF_ok h
      · rw [if_neg h3]; exact h
theorem flcF_ok {L : LSt} (e0 : Nat → Int32) (c n : Int32) (h : LOk L) : LOk (flcF e0 L c n).2 := by
  unfold flcF
  by_cases h0 : c = 83 ∨ c = 76 ∨ c = 68
  · rw [if_pos h0]
    by_cases h1 : fmtv L.g = 0
    · rw [if_neg (fun g => g h1)]; exact h
    · rw [if_pos h1]
      by_cases h2 : c = 76
      · rw [if_pos h2]; exact lodF_ok n h
      · rw [if_neg h2]
        by_cases h3 : c = 83
        · rw [if_pos h3]; exact sveF_ok e0 n h
        · rw [if_neg h3]; exact delF_ok e0 n h
  · rw [if_neg h0]; exact h
theorem ecF_ok {L : LSt} (e0 : Nat → Int32) (x : Int32) (h : LOk L) : LOk (ecF e0 L x).2 := by
  unfold ecF
  by_cases h1 : x = 1
  · rw [if_neg (fun g => g h1)]; exact plnF_ok _ h
  · rw [if_pos h1]
    by_cases h2 : x = 2
    · rw [if_neg (fun g => g h2)]
      by_cases h3 : fdg (L.ty 1) = 0
      · rw [if_pos h3]; exact h
      · rw [if_neg h3]; exact flcF_ok e0 _ _ h
    · rw [if_pos h2]; exact h
theorem elR_ok {L : LSt} (x dg nm : Int32) (h : LOk L) : LOk (elR L x dg nm).2 := by
  unfold elR
  by_cases h1 : nm = 0
  · rw [if_neg (fun g => g h1)]; exact h
  · rw [if_pos h1]
    by_cases h2 : x = dg
    · rw [if_neg (fun g => g h2)]; exact ⟨rmv_le h.1, h.2⟩
    · rw [if_pos h2]
      generalize rdU L 15 L.ty dg (x - dg) = q
      unfold elQ
      have k := smU_ok q.2 h
      generalize smU L q.2 = M at k
      by_cases h3 : q.1 = 0
      · rw [if_neg (fun g => g h3)]; exact k
      · rw [if_pos h3]
        have e : (ptU M nm dg (x - dg)).2.1 ≤ 10 := (ptv_n k.1).1
        generalize ptU M nm dg (x - dg) = t at e
        unfold elP
        by_cases h4 : t.1 = 0
        · rw [if_pos h4]; exact ⟨e, k.2⟩
        · rw [if_neg h4]; exact ⟨e, k.2⟩
theorem elF_ok {L : LSt} (x : Int32) (h : LOk L) : LOk (elF L x).2 := by
  unfold elF
  by_cases h1 : x ≤ 1
  · rw [if_pos h1]; exact elR_ok _ _ _ h
  · rw [if_neg h1]
    by_cases h2 : dgt (L.ty 1) = 0
    · rw [if_pos h2]; exact elR_ok _ _ _ h
    · rw [if_neg h2]; exact elR_ok _ _ _ h
theorem feedF_ok {L : LSt} (e0 : Nat → Int32) (c : Int32) (h : LOk L) : LOk (feedF e0 L c).2 := by
  unfold feedF
  by_cases h1 : L.de = 0
  · rw [if_pos h1]
    by_cases h2 : c = 10
    · rw [if_pos h2]
      by_cases h3 : nI L.wc = 0
      · rw [if_neg (fun g => g h3)]; exact tcF_ok h
      · rw [if_pos h3]
        unfold fdF
        by_cases h4 : dgt ((tcF L).ty 0) = 0
        · rw [if_pos h4]; exact ecF_ok e0 _ (tcF_ok h)
        · rw [if_neg h4]; exact elF_ok _ (tcF_ok h)
    · rw [if_neg h2]
      show LOk (keF L c)
      unfold keF
      by_cases h3 : L.wc < 15
      · rw [if_pos h3]; exact ⟨h.1, h3⟩
      · rw [if_neg h3]; exact h
  · rw [if_neg h1]; exact h
