/-! save: the cells that are written -/
theorem sh_or {x a : Nat} (hx : x < 2 ^ 23) (ha : a < 256) : (nI x <<< ((8 : Int32) &&& 31)) ||| nI a = nI (x * 256 + a) := by
  rw [pk_shlN (n := x) ((8 : Int32) &&& 31) 8 (by decide) (by omega)]
  apply Int32.toBitVec_inj.mp
  apply BitVec.eq_of_toNat_eq
  rw [Int32.toBitVec_or, BitVec.toNat_or, pk_tn (by omega), pk_tn (by omega), pk_tn (by omega)]
  have t := Nat.two_pow_add_eq_or_of_lt (b := a) (i := 8) ha x
  rw [Nat.mul_comm x (2 ^ 8), ← t]
theorem pkv_4 {le te : Nat → Int32} {p j : Nat} {n0 n1 n2 n3 : Nat} (h0 : n0 < 128) (h1 : n1 < 128) (h2 : n2 < 128) (h3 : n3 < 128) (e0 : (if le p ≤ nI (4 * j + 0) then 0 else te (p * 12 + (4 * j + 0))) = nI n0) (e1 : (if le p ≤ nI (4 * j + 1) then 0 else te (p * 12 + (4 * j + 1))) = nI n1) (e2 : (if le p ≤ nI (4 * j + 2) then 0 else te (p * 12 + (4 * j + 2))) = nI n2) (e3 : (if le p ≤ nI (4 * j + 3) then 0 else te (p * 12 + (4 * j + 3))) = nI n3) : pkv le te p j 4 = nI (((n0 * 256 + n1) * 256 + n2) * 256 + n3) := by
  have s1 : pkv le te p j 1 = nI n0 := by
    show ((nI 0 <<< ((8 : Int32) &&& 31)) ||| (if le p ≤ nI (4 * j + 0) then 0 else te (p * 12 + (4 * j + 0)))) = nI n0
    rw [e0, sh_or (by decide) (by omega), Nat.zero_mul, Nat.zero_add]
  have s2 : pkv le te p j 2 = nI (n0 * 256 + n1) := by
    show ((pkv le te p j 1 <<< ((8 : Int32) &&& 31)) ||| (if le p ≤ nI (4 * j + 1) then 0 else te (p * 12 + (4 * j + 1)))) = _
    rw [e1, s1, sh_or (by omega) (by omega)]
  have s3 : pkv le te p j 3 = nI ((n0 * 256 + n1) * 256 + n2) := by
    show ((pkv le te p j 2 <<< ((8 : Int32) &&& 31)) ||| (if le p ≤ nI (4 * j + 2) then 0 else te (p * 12 + (4 * j + 2)))) = _
    rw [e2, s2, sh_or (by omega) (by omega)]
  show ((pkv le te p j 3 <<< ((8 : Int32) &&& 31)) ||| (if le p ≤ nI (4 * j + 3) then 0 else te (p * 12 + (4 * j + 3)))) = _
  rw [e3, s3, sh_or (by omega) (by omega)]
theorem pkv_A {M : RSt} {le te : Nat → Int32} {p l d j : Nat} (hj : j < 3) (hd : d ≤ 12) (hle : le p = nI d) (hln : M.ln l = nI d) (hte : ∀ i, i < d → te (12 * p + i) = M.ch (12 * l + i)) (hasc : ∀ i, i < d → asc (M.ch (12 * l + i))) : pkv le te p j 4 = pkA M l j := by
  have key : ∀ i, i < 12 → ∃ n : Nat, n < 128 ∧ (if le p ≤ nI i then 0 else te (p * 12 + i)) = nI n ∧ aL M l i = nI n := by
    intro i hi
    unfold aL
    rw [hle, hln]
    by_cases g : d ≤ i
    · have c := (nI_leI (a := d) (b := i) (by omega) (by omega)).mpr g
      rw [if_pos c, if_pos c]
      exact ⟨0, by decide, rfl, rfl⟩
    · have c : ¬ nI d ≤ nI i := fun e => g ((nI_leI (by omega) (by omega)).mp e)
      rw [if_neg c, if_neg c, Nat.mul_comm p 12, hte i (by omega)]
      obtain ⟨n, hn, e⟩ := hasc i (by omega)
      exact ⟨n, hn, e, e⟩
  obtain ⟨n0, h0, e0, f0⟩ := key (4 * j + 0) (by omega)
  obtain ⟨n1, h1, e1, f1⟩ := key (4 * j + 1) (by omega)
  obtain ⟨n2, h2, e2, f2⟩ := key (4 * j + 2) (by omega)
  obtain ⟨n3, h3, e3, f3⟩ := key (4 * j + 3) (by omega)
  rw [pkv_4 h0 h1 h2 h3 e0 e1 e2 e3]
  have f0 : aL M l (4 * j) = nI n0 := f0
  unfold pkA
  rw [f0, f1, f2, f3, pk4]
theorem svR_sp (nu le te r0 : Nat → Int32) : ∀ k, k ≤ 10 → (∀ i, (i < 17 ∨ 17 + 4 * k ≤ i) → svR nu le te r0 k i = r0 i) ∧ ∀ p, p < k → svR nu le te r0 k (17 + 4 * p) = 16 * nu p + le p ∧ ∀ j, j < 3 → svR nu le te r0 k (17 + 4 * p + 1 + j) = pkv le te p j 4
  | 0, _ => ⟨fun _ _ => rfl, fun p h => absurd h (Nat.not_lt_zero _)⟩
  | k + 1, hk => by
    obtain ⟨i1, i2⟩ := svR_sp nu le te r0 k (by omega)
    have s : svR nu le te r0 (k + 1) = putv (putv (putv (putv (svR nu le te r0 k) (nI (17 + 4 * k)) (16 * nu k + le k)) (nI (17 + 4 * k) + 1 + 0) (pkv le te k 0 4)) (nI (17 + 4 * k) + 1 + 1) (pkv le te k 1 4)) (nI (17 + 4 * k) + 1 + 2) (pkv le te k 2 4) := rfl
    have a0 : nI (17 + 4 * k) + 1 + 0 = nI (17 + 4 * k + 1) := by rw [Int32.add_zero]; exact nI_1 _
    have a1 : nI (17 + 4 * k) + 1 + 1 = nI (17 + 4 * k + 2) := by rw [nI_1]; exact nI_add _ 1
    have a2 : nI (17 + 4 * k) + 1 + 2 = nI (17 + 4 * k + 3) := by rw [nI_1]; exact nI_add _ 2
    rw [a0, a1, a2, putv_in (by omega), putv_in (by omega), putv_in (by omega), putv_in (by omega)] at s
    rw [s]
    revert i1 i2
    generalize svR nu le te r0 k = g
    intro i1 i2
    refine ⟨fun i hi => ?_, fun p hp => ?_⟩
    · rw [pk_un (by omega), pk_un (by omega), pk_un (by omega), pk_un (by omega)]
      exact i1 i (by omega)
    · by_cases e : p = k
      · subst e
        refine ⟨?_, fun j hj => ?_⟩
        · rw [pk_un (by omega), pk_un (by omega), pk_un (by omega), pk_us]
        · have hj3 : j = 0 ∨ j = 1 ∨ j = 2 := by omega
          rcases hj3 with z | z | z
          · subst z
            rw [pk_un (by omega), pk_un (by omega)]
            exact pk_us
          · subst z
            rw [pk_un (by omega)]
            exact pk_us
          · subst z
            exact pk_us
      · obtain ⟨b1, b2⟩ := i2 p (by omega)
        refine ⟨?_, fun j hj => ?_⟩
        · rw [pk_un (by omega), pk_un (by omega), pk_un (by omega), pk_un (by omega)]
          exact b1
        · rw [pk_un (by omega), pk_un (by omega), pk_un (by omega), pk_un (by omega)]
          exact b2 j hj
theorem sv_ro {nu le te r0 : Nat → Int32} {wn : Nat} {M : RSt} {e : Nat → Int32} (hl : LN nu le te wn M.ln M.ch) (hw : wn ≤ 10) (h0 : ∀ i, 17 ≤ i → i < 96 → e i = 0) (hr : ∀ i, i < 96 → r0 i = e i) (ok : ∀ l, 1 ≤ l → l < 100 → ¬ M.ln l = -1 → ∃ d, d ≤ 12 ∧ M.ln l = nI d ∧ ∀ i, i < d → asc (M.ch (12 * l + i))) : ∀ i, i < 96 → svR nu le te r0 wn i = svN M e 99 i := by
  have a := svR_sp nu le te r0 wn hw
  have b := svN_sp M e h0 (by rw [← hl.1]; exact hw) 99 (Nat.le_refl _)
  intro i hi
  by_cases c : i < 17 ∨ 17 + 4 * wn ≤ i
  · rw [a.1 i c, b.1 i (by rw [← hl.1]; exact c)]
    exact hr i hi
  · obtain ⟨p, hp⟩ : ∃ p, p = (i - 17) / 4 := ⟨_, rfl⟩
    have plt : p < wn := by omega
    obtain ⟨l, l1, l2, l3, l4, l5, l6⟩ := LN_p hl plt
    obtain ⟨b1, b2⟩ := b.2 l l1 (by omega) l3
    obtain ⟨a1, a2⟩ := a.2 p plt
    obtain ⟨d, d1, d2, d3⟩ := ok l l1 l2 l3
    have t3 := (hl.2 l l1 l2 l3).2.2
    rw [l4] at b1 b2 t3
    by_cases z : i = 17 + 4 * p
    · rw [z, a1, b1, l5, l6]
    · obtain ⟨j, hj⟩ : ∃ j, j = i - (17 + 4 * p + 1) := ⟨_, rfl⟩
      have ei : i = 17 + 4 * p + 1 + j := by omega
      rw [ei, a2 j (by omega), b2 j (by omega)]
      rw [d2, nI_clamp (by omega)] at t3
      exact pkv_A (by omega) d1 (l6.trans d2) d2 t3 d3
