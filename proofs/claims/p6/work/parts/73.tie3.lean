/-! class and reference tied: recovery, arm, what is asked -/
theorem CR_ce {r : Int32 × DS} {Z : RSt} (f : Nat → Int32) (h : CR r Z) : CR r (ceF Z f) := h
theorem ce_dk (Z : RSt) (f : Nat → Int32) : (ceF Z f).dk = Z.dk := rfl
theorem cellv_in {g : Nat → Int32} {k : Nat} (h : k < 512) : cellv g (nI k) = g k := by
  unfold cellv
  have e1 : ¬ (512 : Int32) ≤ nI k := fun e => absurd ((nI_leI (a := 512) (by decide) (by omega)).mp e) (by omega)
  rw [if_neg (nI_pos (by omega)), if_neg e1, nI_clamp (by omega)]
theorem CR_rp {q : DS} {Y : RSt} {n : Nat} (h : DR q Y) (hd : Y.de = 0) (lg : LG Y.dk n) : ∀ k, k ≤ n → CR (rpl q k) (rpR Y k) ∧ ∀ i, 32 ≤ i → i < 144 → (rpR Y k).dk i = Y.dk i
  | 0, _ => ⟨CR_1 h hd, fun i _ _ => rfl⟩
  | k + 1, hk => by
    obtain ⟨ih, ik⟩ := CR_rp h hd lg k (by omega)
    have hn := lg.1
    obtain ⟨t, et, tt⟩ := lg.2.2 k (by omega)
    have tt : t = 1 ∨ (9 ≤ t ∧ t < 32) := tt
    have e33 : (33 : Int32) + nI k = nI (33 + k) := nI_add 33 k
    have e3 : (3 : Int32) + nI k = nI (3 + k) := nI_add 3 k
    have e48 : nI (3 + k) * 16 = nI ((3 + k) * 16) := pk_mul (3 + k) 16
    have ew : rpR Y (k + 1) = wtF (ceF (rpR Y k) (fl 0 0 16 (fun c => Y.dk (48 + 16 * k + c)) (rpR Y k).ce)) t (fun i => Y.dk (48 + 16 * k + i)) := by
      show wtF (ceF (rpR Y k) (fl 0 0 16 (fun c => Y.dk (48 + 16 * k + c)) (rpR Y k).ce)) (Y.dk (33 + k)).toNatClampNeg (fun i => Y.dk (48 + 16 * k + i)) = _
      rw [et, nI_clamp (by omega)]
    rw [ew]
    refine ⟨?_, fun i a b => ?_⟩
    · show CR (if (rpl q k).1 = 0 then rpl q k else wrD (rpl q k).2 512 (rpl q k).2.2.2.2 (cellv (rpl q k).2.2.2.2 (33 + nI k)) ((3 + nI k) * 16)) _
      have gk := ih.1.2.2.2
      rw [e33, cellv_in (by omega), gk (33 + k) (by omega), ik (33 + k) (by omega) (by omega), et, e3, e48]
      exact CR_wr (by omega) (by omega) (by decide) (fun i hi => by rw [gk _ (by omega), ik _ (by omega) (by omega), show (3 + k) * 16 + i = 48 + 16 * k + i by omega]) (CR_ce _ ih)
    · rw [wtF_dk (by omega), ce_dk]
      exact ik i a b
theorem DR_rc {L : LSt} {Y : RSt} (h : TIE L Y) : DR (L.ar, 0, L.wr, L.g) (rc1 Y) := ⟨h.1.1, rfl, h.1.2.2.1, h.1.2.2.2⟩
theorem EM_no (Y : RSt) : EM (noF Y) := ⟨rfl, rfl, rfl, rfl⟩
theorem EM_rc (Y : RSt) : EM (rc1 Y) := EM_no _
theorem TIE_am {L : LSt} {Y : RSt} (x : Int32) (h : TIE L Y) : TIE (amF L x) (arF Y x) := ⟨⟨rfl, h.1.2⟩, h.2⟩
theorem TIE_rc0 {L : LSt} {Y : RSt} (h : TIE L Y) : TIE (rc0 L) (rc1 Y) := ⟨⟨h.1.1, rfl, h.1.2.2.1, h.1.2.2.2⟩, WS_em (EM_rc Y) rfl rfl rfl rfl, h.2.2⟩
theorem EM_wk {Y Z : RSt} (k : WK Y Z) (e : EM Y) : EM Z := by
  by_cases hd : Z.de = 0
  · obtain ⟨k1, k2, k3, k4, k5⟩ := k.1 hd
    exact ⟨k1.trans e.1, k3.trans e.2.1, k4.trans e.2.2.1, k5.trans e.2.2.2⟩
  · exact k.2.1 hd
theorem fm_tie {L : LSt} {Y : RSt} (h : TIE L Y) : fmtv L.g = fmtv Y.dk := by
  have e : L.g 0 = Y.dk 0 := h.1.2.2.2 0 (by decide)
  unfold fmtv
  rw [e]
theorem TIE_rc {q : Nat} {L : LSt} {Y : RSt} {e0 : Nat → Int32} (h : TIE L Y) (ri : RI q Y) (he0 : ∀ i, i < 16 → e0 i = 0) : (rcvF e0 L).1 = (rcR Y).1 ∧ TIE (rcvF e0 L).2 (rcR Y).2 := by
  have t0 := TIE_rc0 h
  unfold rcvF rcR
  rw [fm_tie h]
  by_cases hf : fmtv Y.dk = 0
  · rw [if_pos hf, if_pos hf]
    exact ⟨rfl, TIE_am (-1) t0⟩
  rw [if_neg hf, if_neg hf]
  have e32 : cellv L.g 32 = Y.dk 32 := by
    have e := cellv_in (g := L.g) (k := 32) (by decide)
    have e2 : L.g 32 = Y.dk 32 := h.1.2.2.2 32 (by decide)
    exact e.trans e2
  unfold rpy
  have e33 : cellv ((L.ar, 0, L.wr, L.g) : DS).2.2.2 32 = Y.dk 32 := e32
  rw [e33]
  by_cases h32 : Y.dk 32 = 0
  · rw [if_pos h32, if_pos h32]
    have q1 : ¬ ((1 : Int32), ((L.ar, 0, L.wr, L.g) : DS)).1 = 0 := fun g => absurd (show (1 : Int32) = 0 from g) (by decide)
    rw [if_neg q1]
    exact ⟨rfl, TIE_am (-1) t0⟩
  · rw [if_neg h32, if_neg h32]
    obtain ⟨g, ⟨n, lg, _⟩, _⟩ := ri.2.1.1
    have hn := lg.1
    have en : rpn (Y.dk 32) = n := by
      unfold rpn
      rw [lg.2.1, nI_clamp (by omega)]
      split <;> omega
    have dd : (rc1 Y).de = 0 := rfl
    have dk1 : (rc1 Y).dk = Y.dk := rfl
    have cp := (CR_rp (DR_rc h) dd (by rw [dk1]; exact lg) n (Nat.le_refl _)).1
    have c2 := CR_wr (n0 := 16) (f := e0) (v := fun _ => 0) (n := 2) (a := 0) (by decide) (by decide) (by decide) (fun i hi => by rw [Nat.zero_add]; exact he0 i hi) cp
    have k2 := (WK_rp dd n).wt 2 (fun _ => 0)
    have em := EM_wk k2 (EM_rc Y)
    have ou := OU_wk t0.2.2 k2
    have e2 : rc2 Y = wtF (rpR (rc1 Y) n) 2 (fun _ => 0) := by unfold rc2; rw [lg.2.1, nI_clamp (by omega)]
    rw [e2, en]
    revert c2 em ou
    generalize wtF (rpR (rc1 Y) n) 2 (fun _ => 0) = M
    generalize rpl (L.ar, 0, L.wr, L.g) n = r1
    intro c2 em ou
    have n0 : nI 0 = 0 := rfl
    have n2 : nI 2 = 2 := rfl
    rw [n0, n2] at c2
    have dead : ∀ r : Int32 × DS, CR r M → r.1 = 0 → TIE (amF (dieF (stF (rc0 L) r.2)) (-1)) (arF M (-1)) := fun r c d => TIE_am (-1) ⟨c.1, WS_die em, ou⟩
    have live : ∀ r : Int32 × DS, CR r M → TIE (amF (stF (rc0 L) r.2) (-1)) (arF M (-1)) := fun r c => TIE_am (-1) ⟨c.1, WS_em em rfl rfl rfl rfl, ou⟩
    have z0 : ∀ x : DS, ((0 : Int32), x).1 = 0 := fun _ => rfl
    by_cases d1 : r1.1 = 0
    · rw [if_pos d1] at c2
      rw [if_pos d1, if_pos (z0 _), if_neg (c2.2.mp d1)]
      exact ⟨rfl, dead r1 c2 d1⟩
    · rw [if_neg d1] at c2
      rw [if_neg d1]
      revert c2
      generalize wrD r1.2 16 e0 2 0 = r2
      intro c2
      by_cases d2 : r2.1 = 0
      · rw [if_pos d2, if_pos (z0 _), if_neg (c2.2.mp d2)]
        exact ⟨rfl, dead r2 c2 d2⟩
      · have hm : M.de = 0 := Decidable.byContradiction (fun q => d2 (c2.2.mpr q))
        have q1 : ∀ x : DS, ¬ ((1 : Int32), x).1 = 0 := fun _ g => absurd (show (1 : Int32) = 0 from g) (by decide)
        rw [if_neg d2, if_neg (q1 _), if_pos hm]
        exact ⟨rfl, live r2 c2⟩
