/-! load -/
theorem upk_sp (c : Int32) (a : Nat) (un : Nat → Int32) : ∀ k i, upk c a un k i = if a ≤ i ∧ i < a + k then (c >>> ((8 * (3 - nI (i - a))) &&& 31)) &&& 255 else un i
  | 0, i => by
    show un i = _
    rw [if_neg (by omega)]
  | k + 1, i => by
    show upd (upk c a un k) (a + k) ((c >>> ((8 * (3 - nI k)) &&& 31)) &&& 255) i = _
    by_cases e : i = a + k
    · rw [e, pk_us, if_pos (by omega), show a + k - a = k by omega]
    · rw [pk_un e, upk_sp c a un k i]
      by_cases g : a ≤ i ∧ i < a + k
      · rw [if_pos g, if_pos (by omega)]
      · rw [if_neg g, if_neg (by omega)]
theorem sh_eq {k : Nat} (h : k < 4) : (8 * (3 - nI k)) &&& 31 = (24 - 8 * nI k) &&& 31 := (by decide +kernel : ∀ c : Fin 4, (8 * (3 - nI c.val)) &&& 31 = (24 - 8 * nI c.val) &&& 31) ⟨k, h⟩
theorem ppU_ch {g un : Nat → Int32} {c i : Nat} (hi : i < 12) : ppU un (g (c + 1)) (g (c + 2)) (g (c + 3)) i = chV g c i := by
  unfold ppU chV
  rw [upk_sp, upk_sp, upk_sp]
  rcases Nat.lt_or_ge i 4 with z | z
  · rw [if_neg (by omega), if_neg (by omega), if_pos (by omega), sh_eq (by omega), show i - 0 = i % 4 by omega, show c + 1 + i / 4 = c + 1 by omega]
  · rcases Nat.lt_or_ge i 8 with y | y
    · rw [if_neg (by omega), if_pos (by omega), sh_eq (by omega), show i - 4 = i % 4 by omega, show c + 1 + i / 4 = c + 2 by omega]
    · rw [if_pos (by omega), sh_eq (by omega), show i - 8 = i % 4 by omega, show c + 1 + i / 4 = c + 3 by omega]
theorem TIE_pp {M : LSt} {Z : RSt} {x y1 y2 y3 : Int32} {f g : Nat → Int32} (h : TIE M Z) (l : LN (ppP M x y1 y2 y3).2.1 (ppP M x y1 y2 y3).2.2.1 (ppP M x y1 y2 y3).2.2.2 (ppP M x y1 y2 y3).1 f g) : TIE (ppF M x y1 y2 y3) (lcF Z f g) := ⟨h.1, ⟨l, h.2.1.2⟩, h.2.2⟩
theorem lc_nx (Z : RSt) (f g : Nat → Int32) : nxR (lcF Z f g) 0 = lcF (nxR Z 0) f g := rfl
theorem TIE_ldK {M : LSt} {Z : RSt} {g : Nat → Int32} {a l d : Nat} (h : TIE M (nxR Z 0)) (hg : ∀ i, i < 512 → M.g i = g i) (ha : a + 4 ≤ 512) (e : g a = nI (16 * l + d)) (l1 : 1 ≤ l) (l2 : l < 100) (hd1 : 1 ≤ d) (hd : d ≤ 12) (hc : cnL Z.ln 99 < 10) (h12 : ∀ l, 1 ≤ l → l < 100 → ¬ Z.ln l = -1 → (Z.ln l).toNatClampNeg ≤ 12) : TIE (ldK M (nI a)) (nxR (ld1 Z g a) 0) := by
  have e16 : g a / 16 = nI l := by rw [e]; exact (pk_div (d := 16) (by omega) (by decide) (by decide)).trans (by rw [show (16 * l + d) / 16 = l by omega])
  have e17 : g a - g a / 16 * 16 = nI d := by rw [e]; exact (pk_rem (d := 16) (by omega) (by decide) (by decide)).trans (by rw [show (16 * l + d) % 16 = d by omega])
  have c0 : cellv M.g (nI a) = g a := (cellv_in (by omega)).trans (hg a (by omega))
  have c1 : cellv M.g (nI a + 1) = g (a + 1) := by rw [nI_1]; exact (cellv_in (by omega)).trans (hg _ (by omega))
  have c2 : cellv M.g (nI a + 2) = g (a + 2) := by rw [show nI a + 2 = nI (a + 2) from nI_add a 2]; exact (cellv_in (by omega)).trans (hg _ (by omega))
  have c3 : cellv M.g (nI a + 3) = g (a + 3) := by rw [show nI a + 3 = nI (a + 3) from nI_add a 3]; exact (cellv_in (by omega)).trans (hg _ (by omega))
  have wn : M.wn = cnL Z.ln 99 := h.2.1.1.1
  unfold ldK ld1
  rw [c0, c1, c2, c3, e17, e16, nI_clamp (by omega), lc_nx]
  refine TIE_pp h ?_
  unfold ppP
  rw [e17, e16]
  have pt := LN_pt (f := ppU M.un (g (a + 1)) (g (a + 2)) (g (a + 3))) (w := chV g a) (n0 := 12) (fr := 0) (l := l) (d := d) (show LN M.nu M.le M.te M.wn Z.ln Z.ch from h.2.1.1) (by omega) l1 l2 hd1 hd (by omega) (by decide) (fun i hi => by rw [Nat.zero_add]; exact ppU_ch (by omega)) h12
  exact (pt.1 (Or.inr (by omega))).2
theorem TIE_ldL {L : LSt} {Y : RSt} {n f c : Nat} (h : TIE L Y) (p : FP Y.dk n f c) : ∀ k, k ≤ c → TIE (ldL (rlF L) (nI (16 * f + 1)) k) (nxR (ldN (lnAll Y (fun _ => -1)) Y.dk (16 * f) k) 0)
  | 0, _ => TIE_rl h
  | k + 1, hk => by
    have ih := TIE_ldL h p k (by omega)
    have li := ldN_LI Y p k (by omega)
    have dk := ldN_dk (lnAll Y (fun _ => -1)) Y.dk (16 * f) k
    obtain ⟨l, d, q1, q2, q3, q4, q5⟩ := p.2.2.2.2.2.2.2 k hk
    have hb : 1 + 4 * c ≤ 16 * bl c := by unfold bl; omega
    have p6 := p.2.2.2.2.2.1
    have p4 := p.2.2.2.1
    show TIE (ldK (ldL (rlF L) (nI (16 * f + 1)) k) (nI (16 * f + 1) + nI (4 * k))) (nxR (ld1 (ldN (lnAll Y (fun _ => -1)) Y.dk (16 * f) k) Y.dk (16 * f + 1 + 4 * k)) 0)
    rw [nI_add]
    revert ih li dk
    generalize ldL (rlF L) (nI (16 * f + 1)) k = M
    generalize ldN (lnAll Y (fun _ => -1)) Y.dk (16 * f) k = Z
    intro ih li dk
    refine TIE_ldK ih (fun i hi => ?_) (by omega) q4 q1 q2 (GL_1 q5) q3 (by omega) (fun l' a b c' => ?_)
    · have t := ih.1.2.2.2 i hi
      have t2 : M.g i = Z.dk i := t
      rw [t2, dk]
      rfl
    · obtain ⟨d', d1, d2, _⟩ := (li.2 l' a b).resolve_left c'
      rw [d2, nI_clamp (by omega)]
      exact d1
theorem TIE_ld {q : Nat} {L : LSt} {Y : RSt} {n : Nat} (h : TIE L Y) (ri : RI q Y) (hd : Y.de = 0) (hn : n < 8) : (lodF L (nI n)).1 = (ldR Y n).1 ∧ TIE (lodF L (nI n)).2 (ldR Y n).2 := by
  have ge : GE L.g Y.dk := h.1.2.2.2
  unfold lodF ldR
  rw [cv16 ge hn, cv17 ge hn]
  by_cases c1 : Y.dk (16 + 2 * n) = 0
  · rw [if_pos c1, if_pos c1]; exact mk2 rfl h
  rw [if_neg c1, if_neg c1]
  by_cases c2 : Y.dk (16 + 2 * n) = 16
  · have n2 : ¬ ¬ Y.dk (16 + 2 * n) = 16 := fun g => g c2
    rw [if_pos c2, if_neg n2]; exact mk2 rfl h
  rw [if_neg c2, if_pos c2]
  obtain ⟨f, c, p⟩ := RI_rld ri hd n hn c1 c2
  have p6 := p.2.2.2.2.2.1
  have p4 := p.2.2.2.1
  have p5 := p.2.2.2.2.1
  have hb : 1 + 4 * c ≤ 16 * bl c := by unfold bl; omega
  have ef : (Y.dk (17 + 2 * n)).toNatClampNeg = f := by rw [p.2.1]; exact nI_clamp (by omega)
  have ec : (Y.dk (16 * f)).toNatClampNeg = c := by rw [p.2.2.2.2.2.2.1]; exact nI_clamp (by omega)
  have e16 : Y.dk (17 + 2 * n) * 16 = nI (16 * f) := by rw [p.2.1, Nat.mul_comm 16 f]; exact pk_mul f 16
  have e17 : nI (16 * f) + 1 = nI (16 * f + 1) := nI_1 _
  have ecell : cellv L.g (nI (16 * f)) = Y.dk (16 * f) := (cellv_in (by omega)).trans (ge _ (by omega))
  have en : ldn (Y.dk (16 * f)) = c := by
    unfold ldn
    rw [ec]
    split <;> omega
  rw [ef, ec, e16, ecell, en, e17]
  exact mk2 rfl (TIE_ldL h p c (Nat.le_refl _))
