/-! the two disks stay alike -/
def DR (q : DS) (Y : RSt) : Prop := q.1 = Y.ar ∧ q.2.1 = Y.de ∧ q.2.2.1 = Y.wr ∧ ∀ i, i < 512 → q.2.2.2 i = Y.dk i
def CR (r : Int32 × DS) (Z : RSt) : Prop := DR r.2 Z ∧ (r.1 = 0 ↔ ¬ Z.de = 0)
theorem ar_eq (x : Int32) : (if x ≤ 0 then x else x - 1) = x - (if x ≤ 0 then 0 else 1) := by
  by_cases h : x ≤ 0
  · rw [if_pos h, if_pos h]; exact (Int32.sub_zero x).symm
  · rw [if_neg h, if_neg h]
theorem wrS_in {ar de wr : Int32} {g : Nat → Int32} {n0 : Nat} {f : Nat → Int32} {n a : Nat} (hn : n < 32) (ha : a + 16 ≤ n0) (h0 : n0 < 2 ^ 30) (h : ¬ ar = 0) : wrS ar de wr g n0 f (nI n) (nI a) = (1, (if ar ≤ 0 then ar else ar - 1), de, wr + 1, va_cpy f g a (16 * n) 16) := by
  unfold wrS
  have e1 : ¬ (32 : Int32) ≤ nI n := fun e => absurd ((nI_leI (a := 32) (by decide) (by omega)).mp e) (by omega)
  have e2 : ¬ Int32.ofNat n0 - 16 < nI a := fun e => by
    have e3 : nI n0 - nI 16 = nI (n0 - 16) := pk_sub (by omega)
    have e4 : nI (n0 - 16) < nI a := by rw [← e3]; exact e
    exact absurd ((nI_ltI (by omega) (by omega)).mp e4) (by omega)
  rw [if_pos h, if_neg (nI_pos (by omega)), if_neg e1, if_neg (nI_pos (by omega)), if_neg e2]
  have e5 : nI n * 16 = nI (n * 16) := pk_mul n 16
  rw [e5, nI_clamp (by omega), nI_clamp (by omega), show (16 : Int32).toNatClampNeg = 16 by decide, Nat.mul_comm n 16]
theorem CR_wr {r : Int32 × DS} {Z : RSt} {n0 : Nat} {f v : Nat → Int32} {n a : Nat} (hn : n < 32) (ha : a + 16 ≤ n0) (h0 : n0 < 2 ^ 30) (hv : ∀ i, i < 16 → f (a + i) = v i) (h : CR r Z) : CR (if r.1 = 0 then r else wrD r.2 n0 f (nI n) (nI a)) (wtF Z n v) := by
  obtain ⟨⟨d1, d2, d3, d4⟩, d5⟩ := h
  by_cases c : r.1 = 0
  · rw [if_pos c, wt_dead (d5.mp c)]
    exact ⟨⟨d1, d2, d3, d4⟩, d5⟩
  · have de : Z.de = 0 := Decidable.byContradiction (fun g => c (d5.mpr g))
    rw [if_neg c]
    unfold wrD
    by_cases ar : Z.ar = 0
    · have e : wtF Z n v = dsF Z := by unfold wtF; rw [if_pos de, if_neg (fun g => g ar)]
      have e2 : wrS r.2.1 r.2.2.1 r.2.2.2.1 r.2.2.2.2 n0 f (nI n) (nI a) = (0, -1, 1, r.2.2.2.1, r.2.2.2.2) := by
        unfold wrS
        rw [if_neg (fun g => g (d1.trans ar))]
      rw [e, e2]
      exact ⟨⟨rfl, rfl, d3, d4⟩, fun _ => ds_de Z, fun _ => rfl⟩
    · have e : wtF Z n v = dkF (wt1 Z) (fl (16 * n) 0 16 v Z.dk) := by unfold wtF; rw [if_pos de, if_pos ar]
      rw [e, wrS_in hn ha h0 (by rw [d1]; exact ar)]
      refine ⟨⟨?_, d2, ?_, fun i hi => ?_⟩, fun g => absurd (show (1 : Int32) = 0 from g) (by decide), fun g => absurd de g⟩
      · show (if r.2.1 ≤ 0 then r.2.1 else r.2.1 - 1) = Z.ar - (if Z.ar ≤ 0 then 0 else 1)
        rw [d1]
        exact ar_eq Z.ar
      · show r.2.2.2.1 + 1 = Z.wr + 1
        rw [d3]
      · rw [dk_W]
        show va_cpy f r.2.2.2.2 a (16 * n) 16 i = fl (16 * n) 0 16 v Z.dk i
        unfold va_cpy
        by_cases g : 16 * n ≤ i ∧ i < 16 * n + 16
        · rw [if_pos g, fl_in g]
          exact hv (i - 16 * n) (by omega)
        · rw [if_neg g, fl_out (by omega)]
          exact d4 i hi
theorem CR_cmA {q : DS} {Y : RSt} {ro : Nat → Int32} (h : DR q Y) (hd : Y.de = 0) : ∀ k, k ≤ 6 → (∀ i, i < 16 * k → ro i = Y.ce i) → CR (cmA ro q k) (wA Y k)
  | 0, _, _ => ⟨h, fun g => absurd (show (1 : Int32) = 0 from g) (by decide), fun g => absurd hd g⟩
  | k + 1, hk, hro => by
    have ih := CR_cmA h hd k (by omega) (fun i hi => hro i (by omega))
    have e3 : (3 : Int32) + nI k = nI (3 + k) := nI_add 3 k
    have e4 : nI k * 16 = nI (k * 16) := pk_mul k 16
    show CR (if (cmA ro q k).1 = 0 then cmA ro q k else wrD (cmA ro q k).2 96 ro (3 + nI k) (nI k * 16)) (wtF (wA Y k) (3 + k) (fun i => Y.ce (16 * k + i)))
    rw [e3, e4]
    exact CR_wr (by omega) (by omega) (by decide) (fun i hi => by rw [Nat.mul_comm k 16]; exact hro _ (by omega)) ih
theorem CR_cmB {r : Int32 × DS} {Z : RSt} {ro hd : Nat → Int32} : ∀ k, k ≤ 6 → CR r Z → (∀ i, i < 16 * k → ro i = Z.ce i) → (∀ j, j < k → hd (1 + j) = Z.wh j ∧ vp_in (Z.wh j) 32) → CR (if r.1 = 0 then r else cmB ro hd r.2 k) (wB Z k)
  | 0, _, h, _, _ => by
    have h2 := h
    by_cases c : r.1 = 0
    · rw [if_pos c]; exact h
    · rw [if_neg c]
      exact ⟨h.1, fun g => absurd (show (1 : Int32) = 0 from g) (by decide), fun g => absurd (h.2.mpr g) c⟩
  | k + 1, hk, h, hro, hw => by
    have ih := CR_cmB (ro := ro) (hd := hd) k (by omega) h (fun i hi => hro i (by omega)) (fun j hj => hw j (by omega))
    obtain ⟨e1, e2⟩ := hw k (by omega)
    obtain ⟨t, ht, et⟩ := vp_in_of e2 (by decide)
    have e4 : nI k * 16 = nI (k * 16) := pk_mul k 16
    have st := CR_wr (r := if r.1 = 0 then r else cmB ro hd r.2 k) (n0 := 96) (f := ro) (v := fun i => Z.ce (16 * k + i)) (n := t) (a := k * 16) ht (by omega) (by decide) (fun i hi => by rw [Nat.mul_comm k 16]; exact hro _ (by omega)) ih
    have ew : wB Z (k + 1) = wtF (wB Z k) t (fun i => Z.ce (16 * k + i)) := by
      show wtF (wB Z k) (Z.wh k).toNatClampNeg (fun i => Z.ce (16 * k + i)) = _
      rw [et, nI_clamp (by omega)]
    rw [ew]
    by_cases c : r.1 = 0
    · rw [if_pos c] at st ⊢
      rw [if_pos c] at st
      exact st
    · rw [if_neg c] at st ⊢
      show CR (if (cmB ro hd r.2 k).1 = 0 then cmB ro hd r.2 k else wrD (cmB ro hd r.2 k).2 96 ro (hd (1 + k)) (nI k * 16)) _
      rw [e1, et, e4]
      exact st
theorem hd_S {Y Z : RSt} (h1 : Z.my = Y.my) (h2 : Z.wh = Y.wh) : hdS Z = hdS Y := by
  funext i
  unfold hdS
  rw [h1, h2]
def nrm (a b : Int32 × DS) : Prop := a.2 = b.2 ∧ (a.1 = 0 ↔ b.1 = 0)
theorem CR_nrm {a b : Int32 × DS} {Z : RSt} (n : nrm a b) (h : CR b Z) : CR a Z := ⟨by rw [n.1]; exact h.1, n.2.trans h.2⟩
theorem CR_cmt {q : DS} {Y : RSt} {ro hd e0 : Nat → Int32} (h : DR q Y) (hde : Y.de = 0) (hm : Y.my ≤ 6) (hro : ∀ i, i < 16 * Y.my → ro i = Y.ce i) (hhd : ∀ i, i < 16 → hd i = hdS Y i) (hw : ∀ k, k < Y.my → vp_in (Y.wh k) 32) (he0 : ∀ i, i < 16 → e0 i = 0) : CR (cmt ro hd e0 Y.my q) (cm2 Y) := by
  have c1 := CR_cmA h hde Y.my hm hro
  have sA := wA_my Y Y.my
  have c2 := CR_wr (n0 := 16) (f := hd) (v := hdS (wA Y Y.my)) (n := 2) (a := 0) (by decide) (by decide) (by decide) (fun i hi => by rw [hd_S sA.1 sA.2.1, Nat.zero_add]; exact hhd i hi) c1
  have s1 := cm1_my Y
  have c3 := CR_cmB (ro := ro) (hd := hd) Y.my hm (show CR _ (cm1 Y) from c2) (fun i hi => by rw [s1.2.2]; exact hro i hi) (fun j hj => by
    rw [s1.2.1]
    refine ⟨?_, hw j hj⟩
    rw [hhd (1 + j) (by omega)]
    unfold hdS
    rw [if_neg (by omega), if_neg (by omega), show 1 + j - 1 = j by omega])
  have c4 := CR_wr (n0 := 16) (f := e0) (v := fun _ => 0) (n := 2) (a := 0) (by decide) (by decide) (by decide) (fun i hi => by rw [Nat.zero_add]; exact he0 i hi) c3
  have e2 : cm2 Y = wtF (wB (cm1 Y) Y.my) 2 (fun _ => 0) := by unfold cm2; rw [s1.1]
  rw [e2]
  refine CR_nrm ?_ c4
  have n2 : nI 2 = 2 := rfl
  have n0 : nI 0 = 0 := rfl
  unfold cmt
  rw [n2, n0]
  generalize cmA ro q Y.my = r1
  by_cases d1 : r1.1 = 0
  · rw [if_pos d1, if_pos d1, if_pos d1, if_pos d1]
    exact ⟨rfl, fun _ => d1, fun _ => rfl⟩
  · rw [if_neg d1, if_neg d1]
    generalize wrD r1.2 16 hd 2 0 = r2
    by_cases d2 : r2.1 = 0
    · rw [if_pos d2, if_pos d2, if_pos d2]
      exact ⟨rfl, fun _ => d2, fun _ => rfl⟩
    · rw [if_neg d2, if_neg d2]
      generalize cmB ro hd r2.2 Y.my = r3
      by_cases d3 : r3.1 = 0
      · rw [if_pos d3, if_pos d3]
        exact ⟨rfl, fun _ => d3, fun _ => rfl⟩
      · rw [if_neg d3, if_neg d3]
        generalize wrD r3.2 16 e0 2 0 = r4
        by_cases d4 : r4.1 = 0
        · rw [if_pos d4]; exact ⟨rfl, fun _ => d4, fun _ => rfl⟩
        · rw [if_neg d4]; exact ⟨rfl, fun g => absurd (show (1 : Int32) = 0 from g) (by decide), fun g => absurd g d4⟩
/-! class and reference tied: format, recovery, the small calls -/
def LN (nu le te : Nat → Int32) (n : Nat) (ln ch : Nat → Int32) : Prop := n = cnL ln 99 ∧ ∀ l, 1 ≤ l → l < 100 → ¬ ln l = -1 → nu (cnL ln (l - 1)) = nI l ∧ le (cnL ln (l - 1)) = ln l ∧ ∀ i, i < (ln l).toNatClampNeg → te (12 * cnL ln (l - 1) + i) = ch (12 * l + i)
def WS (L : LSt) (Y : RSt) : Prop := LN L.nu L.le L.te L.wn Y.ln Y.ch ∧ (∀ i, i < 8 → L.va i = Y.va i) ∧ L.nx = Y.nx ∧ L.wc = Y.tn ∧ ∀ i, i < Y.tn → L.ty i = Y.tx i
def OU (L : LSt) (Y : RSt) : Prop := L.oc = nI Y.os ∧ ∀ i, i < 60 → i < Y.os → L.kf i = Y.ou i
def TIE (L : LSt) (Y : RSt) : Prop := DR (L.ar, L.de, L.wr, L.g) Y ∧ WS L Y ∧ OU L Y
def EM (Z : RSt) : Prop := Z.ln = (fun _ => -1) ∧ Z.va = (fun _ => 0) ∧ Z.nx = 0 ∧ Z.tn = 0
def WK (Y Z : RSt) : Prop := (Z.de = 0 → Z.ln = Y.ln ∧ Z.ch = Y.ch ∧ Z.va = Y.va ∧ Z.nx = Y.nx ∧ Z.tn = Y.tn) ∧ (¬ Z.de = 0 → EM Z) ∧ Z.tx = Y.tx ∧ Z.os = Y.os ∧ Z.ou = Y.ou
theorem WK_rf {Y : RSt} (h : Y.de = 0) : WK Y Y := ⟨fun _ => ⟨rfl, rfl, rfl, rfl, rfl⟩, fun g => absurd h g, rfl, rfl, rfl⟩
theorem WK_ds {Y Z : RSt} (e : Z.tx = Y.tx ∧ Z.os = Y.os ∧ Z.ou = Y.ou) : WK Y (dsF Z) := ⟨fun g => absurd g (ds_de Z), fun _ => ⟨rfl, rfl, rfl, rfl⟩, e.1, e.2.1, e.2.2⟩
theorem WK_dk {Y Z : RSt} (f : Nat → Int32) (h : WK Y Z) : WK Y (dkF (wt1 Z) f) := h
theorem WK.wt {Y Z : RSt} (h : WK Y Z) (n : Nat) (v : Nat → Int32) : WK Y (wtF Z n v) := by
  rcases wt_cases Z n v with ⟨_, e⟩ | ⟨_, e⟩ | ⟨_, e⟩ <;> rw [e]
  · exact h
  · exact WK_ds h.2.2
  · exact WK_dk _ h
theorem WK_ce {Y Z : RSt} (f : Nat → Int32) (h : WK Y Z) : WK Y (ceF Z f) := h
theorem WK_wA {Y : RSt} (h : Y.de = 0) : ∀ k, WK Y (wA Y k)
  | 0 => WK_rf h
  | k + 1 => (WK_wA h k).wt _ _
theorem WK_wB {Y Z : RSt} (h : WK Y Z) : ∀ k, WK Y (wB Z k)
  | 0 => h
  | k + 1 => (WK_wB h k).wt _ _
theorem WK_cm {Y : RSt} (h : Y.de = 0) : WK Y (cm2 Y) := (WK_wB ((WK_wA h Y.my).wt _ _ : WK Y (cm1 Y)) (cm1 Y).my).wt _ _
theorem WK_rp {Y : RSt} (h : Y.de = 0) : ∀ k, WK Y (rpR Y k)
  | 0 => WK_rf h
  | k + 1 => (WK_ce _ (WK_rp h k)).wt _ _
theorem LN_0 (nu le te ch : Nat → Int32) : LN nu le te 0 (fun _ => -1) ch := ⟨(cnL_m1 99).symm, fun l _ _ h => absurd rfl h⟩
theorem WS_em {L : LSt} {Y : RSt} (e : EM Y) (h1 : L.wn = 0) (h2 : L.nx = 0) (h3 : L.wc = 0) (h4 : L.va = fun _ => 0) : WS L Y := by
  obtain ⟨e1, e2, e3, e4⟩ := e
  unfold WS
  rw [e1, e2, e3, e4, h1, h2, h3, h4]
  exact ⟨LN_0 _ _ _ _, fun _ _ => rfl, rfl, rfl, fun i hi => absurd hi (by omega)⟩
theorem WS_wk {L : LSt} {Y Z : RSt} (h : WS L Y) (k : WK Y Z) (hd : Z.de = 0) : WS L Z := by
  obtain ⟨k1, k2, k3, k4, k5⟩ := k.1 hd
  unfold WS
  rw [k1, k2, k3, k4, k5, k.2.2.1]
  exact h
theorem OU_wk {L : LSt} {Y Z : RSt} (h : OU L Y) (k : WK Y Z) : OU L Z := by
  unfold OU
  rw [k.2.2.2.1, k.2.2.2.2]
  exact h
theorem WS_st (L : LSt) (q : DS) (Y : RSt) (h : WS L Y) : WS (stF L q) Y := h
theorem OU_st (L : LSt) (q : DS) (Y : RSt) (h : OU L Y) : OU (stF L q) Y := h
theorem OU_die (L : LSt) (Y : RSt) (h : OU L Y) : OU (dieF L) Y := h
theorem WS_die {L : LSt} {Y : RSt} (e : EM Y) : WS (dieF L) Y := WS_em e rfl rfl rfl rfl
/-! what comes of a run of writes -/
theorem TIE_end {L : LSt} {Y Z : RSt} {r : Int32 × DS} (h : TIE L Y) (k : WK Y Z) (c : CR r Z) : (r.1 = 0 → TIE (dieF (stF L r.2)) Z) ∧ (¬ r.1 = 0 → TIE (stF L r.2) Z) := by
  refine ⟨fun g => ⟨c.1, WS_die (k.2.1 (c.2.mp g)), OU_die _ _ (OU_st _ _ _ (OU_wk h.2.2 k))⟩, fun g => ?_⟩
  have hd : Z.de = 0 := Decidable.byContradiction (fun q => g (c.2.mpr q))
  exact ⟨c.1, WS_st _ _ _ (WS_wk h.2.1 k hd), OU_st _ _ _ (OU_wk h.2.2 k)⟩
theorem TIE_cm {L : LSt} {Y : RSt} {e0 : Nat → Int32} (h : TIE L Y) (hde : Y.de = 0) (hj : L.jt = Y.my) (hm : Y.my ≤ 6) (hro : ∀ i, i < 16 * Y.my → L.ro i = Y.ce i) (hhd : ∀ i, i < 16 → L.hd i = hdS Y i) (hw : ∀ k, k < Y.my → vp_in (Y.wh k) 32) (he0 : ∀ i, i < 16 → e0 i = 0) : (cmtF e0 L).1 = (dnR (cmR Y)).1 ∧ TIE (cmtF e0 L).2 (dnR (cmR Y)).2 := by
  have c := CR_cmt (e0 := e0) h.1 hde hm hro hhd hw he0
  have t := TIE_end h (WK_cm hde) c
  unfold cmtF dnR cmR
  rw [hj]
  revert c t
  generalize cmt L.ro L.hd e0 Y.my (L.ar, L.de, L.wr, L.g) = r
  generalize cm2 Y = M
  intro c t
  by_cases d : r.1 = 0
  · rw [if_pos d]
    refine ⟨?_, t.1 d⟩
    show (7 : Int32) = (if (if ¬ M.de = 0 then (0 : Int32) else 1) = 0 then 7 else 0)
    rw [if_pos (c.2.mp d), if_pos rfl]
  · rw [if_neg d]
    refine ⟨?_, t.2 d⟩
    have hd : M.de = 0 := Decidable.byContradiction (fun q => d (c.2.mpr q))
    show (0 : Int32) = (if (if ¬ M.de = 0 then (0 : Int32) else 1) = 0 then 7 else 0)
    have nd : ¬ ¬ M.de = 0 := fun q => q hd
    rw [if_neg nd, if_neg (show ¬ (1 : Int32) = 0 by decide)]
theorem TIE_th {L : LSt} {Y : RSt} (x : Int32) (h : TIE L Y) : TIE L (thF Y x) := h
theorem TIE_ce {L : LSt} {Y : RSt} (f : Nat → Int32) (h : TIE L Y) : TIE L (ceF Y f) := h
theorem TIE_de {L : LSt} {Y : RSt} (h : TIE L Y) : L.de = Y.de := h.1.2.1
theorem CR_1 {q : DS} {Y : RSt} (h : DR q Y) (hd : Y.de = 0) : CR (1, q) Y := ⟨h, fun g => absurd (show (1 : Int32) = 0 from g) (by decide), fun g => absurd hd g⟩
theorem TIE_fm {L : LSt} {Y : RSt} {e0 e2 : Nat → Int32} (h : TIE L Y) (he0 : ∀ i, i < 16 → e0 i = 0) (he2 : ∀ i, i < 16 → e2 i = hd7 i) : (fmtF e0 e2 L).1 = (fmR Y).1 ∧ TIE (fmtF e0 e2 L).2 (fmR Y).2 := by
  unfold fmtF fmR
  by_cases hd : Y.de = 0
  · rw [if_pos (TIE_de h |>.trans hd), if_pos hd]
    have hA : TIE L (fmA Y) := TIE_ce _ (TIE_th 0 h)
    have dA : (fmA Y).de = 0 := hd
    have ceA : ∀ i, i < 16 → (fmA Y).ce i = hd7 i := fun i hi => fl_all i hi
    unfold fmB
    revert hA dA ceA
    generalize fmA Y = M
    intro hA dA ceA
    have c1 := CR_wr (n0 := 16) (f := e0) (v := fun _ => 0) (n := 2) (a := 0) (by decide) (by decide) (by decide) (fun i hi => by rw [Nat.zero_add]; exact he0 i hi) (CR_1 hA.1 dA)
    have k1 := (WK_rf dA).wt 2 (fun _ => 0)
    have m1 := (wtF_my M 2 (fun _ => 0)).2.2
    revert c1 k1 m1
    generalize wtF M 2 (fun _ => 0) = M1
    intro c1 k1 m1
    have c2 := CR_wr (n0 := 16) (f := e0) (v := fun _ => 0) (n := 1) (a := 0) (by decide) (by decide) (by decide) (fun i hi => by rw [Nat.zero_add]; exact he0 i hi) c1
    have k2 := k1.wt 1 (fun _ => 0)
    have m2 := (wtF_my M1 1 (fun _ => 0)).2.2
    revert c2 k2 m2
    generalize wtF M1 1 (fun _ => 0) = M2
    intro c2 k2 m2
    have c3 := CR_wr (n0 := 16) (f := e2) (v := fun i => M2.ce (0 + i)) (n := 0) (a := 0) (by decide) (by decide) (by decide) (fun i hi => by rw [Nat.zero_add, m2, m1, he2 i hi]; exact (ceA i hi).symm) c2
    have k3 := k2.wt 0 (fun i => M2.ce (0 + i))
    revert c3 k3
    generalize wtF M2 0 (fun i => M2.ce (0 + i)) = M3
    intro c3 k3
    have t := TIE_end hA k3 c3
    have n0 : nI 0 = 0 := rfl
    have n1 : nI 1 = 1 := rfl
    have n2 : nI 2 = 2 := rfl
    have fin : ∀ r : Int32 × DS, CR r M3 → (r.1 = 0 → TIE (dieF (stF L r.2)) M3) ∧ (¬ r.1 = 0 → TIE (stF L r.2) M3) → (if r.1 = 0 then ((7 : Int32), dieF (stF L r.2)) else (0, stF L r.2)).1 = (if M3.de = 0 then (0 : Int32) else 7) ∧ TIE (if r.1 = 0 then ((7 : Int32), dieF (stF L r.2)) else (0, stF L r.2)).2 M3 := by
      intro r c t
      by_cases d : r.1 = 0
      · rw [if_pos d, if_neg (c.2.mp d)]
        exact ⟨rfl, t.1 d⟩
      · have hm : M3.de = 0 := Decidable.byContradiction (fun q => d (c.2.mpr q))
        rw [if_neg d, if_pos hm]
        exact ⟨rfl, t.2 d⟩
    have f3 := fin _ c3 t
    rw [n0, n1, n2] at f3
    have q1 : ¬ ((1 : Int32), ((L.ar, L.de, L.wr, L.g) : DS)).1 = 0 := fun g => absurd (show (1 : Int32) = 0 from g) (by decide)
    rw [if_neg q1] at f3
    refine Eq.mp ?_ f3
    clear f3 fin t c3 c2 c1
    unfold thenW wD
    show _ = ((if (wrD (L.ar, L.de, L.wr, L.g) 16 e0 2 0).1 = 0 then ((7 : Int32), dieF (stF L (wrD (L.ar, L.de, L.wr, L.g) 16 e0 2 0).2)) else if (wrD (wrD (L.ar, L.de, L.wr, L.g) 16 e0 2 0).2 16 e0 1 0).1 = 0 then ((7 : Int32), dieF (stF L (wrD (wrD (L.ar, L.de, L.wr, L.g) 16 e0 2 0).2 16 e0 1 0).2)) else if (wrD (wrD (wrD (L.ar, L.de, L.wr, L.g) 16 e0 2 0).2 16 e0 1 0).2 16 e2 0 0).1 = 0 then ((7 : Int32), dieF (stF L (wrD (wrD (wrD (L.ar, L.de, L.wr, L.g) 16 e0 2 0).2 16 e0 1 0).2 16 e2 0 0).2)) else (0, stF L (wrD (wrD (wrD (L.ar, L.de, L.wr, L.g) 16 e0 2 0).2 16 e0 1 0).2 16 e2 0 0).2)).1 = _ ∧ TIE (if (wrD (L.ar, L.de, L.wr, L.g) 16 e0 2 0).1 = 0 then ((7 : Int32), dieF (stF L (wrD (L.ar, L.de, L.wr, L.g) 16 e0 2 0).2)) else if (wrD (wrD (L.ar, L.de, L.wr, L.g) 16 e0 2 0).2 16 e0 1 0).1 = 0 then ((7 : Int32), dieF (stF L (wrD (wrD (L.ar, L.de, L.wr, L.g) 16 e0 2 0).2 16 e0 1 0).2)) else if (wrD (wrD (wrD (L.ar, L.de, L.wr, L.g) 16 e0 2 0).2 16 e0 1 0).2 16 e2 0 0).1 = 0 then ((7 : Int32), dieF (stF L (wrD (wrD (wrD (L.ar, L.de, L.wr, L.g) 16 e0 2 0).2 16 e0 1 0).2 16 e2 0 0).2)) else (0, stF L (wrD (wrD (wrD (L.ar, L.de, L.wr, L.g) 16 e0 2 0).2 16 e0 1 0).2 16 e2 0 0).2)).2 _)
    have e5 : ((1 : Int32), ((L.ar, L.de, L.wr, L.g) : DS)).2 = (L.ar, L.de, L.wr, L.g) := rfl
    rw [e5]
    generalize wrD (L.ar, L.de, L.wr, L.g) 16 e0 2 0 = r1
    by_cases d1 : r1.1 = 0
    · simp only [if_pos d1]
    · simp only [if_neg d1]
      generalize wrD r1.2 16 e0 1 0 = r2
      by_cases d2 : r2.1 = 0
      · simp only [if_pos d2]
      · simp only [if_neg d2]
  · rw [if_neg (fun g => hd ((TIE_de h).symm.trans g)), if_neg hd]
    exact ⟨rfl, TIE_th 0 h⟩
/-! class and reference tied: recovery, arm, what is asked -/
theorem CR_ce {r : Int32 × DS} {Z : RSt} (f : Nat → Int32) (h : CR r Z) : CR r (ceF Z f) := h
theorem ce_dk (Z : RSt) (f : Nat → Int32) : (ceF Z f).dk = Z.dk := rfl
theorem cellv_in {g : Nat → Int32} {k : Nat} (h : k < 512) : cellv g (nI k) = g k := by
  unfold cellv
  have e1 : ¬ (512 : Int32) ≤ nI k := fun e => absurd ((nI_leI (a := 512) (by decide) (by omega)).mp e) (by omega)
  rw [if_neg (nI_pos (by omega)), if_neg e1, nI_clamp (by omega)]
theorem CR_rp {q : DS} {Y : RSt} {n : Nat} (h : DR q Y) (hd : Y.de = 0) (lg : LG Y.dk n) : ∀ k, k ≤ n → CR (rpl q k) (rpR Y k) ∧ ∀ i, 32 ≤ i → i < 144 → (rpR Y k).dk i = Y.dk i
  | 0, _ => ⟨CR_1 h hd, fun i _ _ => rfl⟩
  | k + 1, hk => by
    obtain ⟨ih, ik⟩ := CR_rp h hd lg k (by omega)
    have hn := lg.1
    obtain ⟨t, et, tt⟩ := lg.2.2 k (by omega)
    have tt : t = 1 ∨ (9 ≤ t ∧ t < 32) := tt
    have e33 : (33 : Int32) + nI k = nI (33 + k) := nI_add 33 k
    have e3 : (3 : Int32) + nI k = nI (3 + k) := nI_add 3 k
    have e48 : nI (3 + k) * 16 = nI ((3 + k) * 16) := pk_mul (3 + k) 16
    have ew : rpR Y (k + 1) = wtF (ceF (rpR Y k) (fl 0 0 16 (fun c => Y.dk (48 + 16 * k + c)) (rpR Y k).ce)) t (fun i => Y.dk (48 + 16 * k + i)) := by
      show wtF (ceF (rpR Y k) (fl 0 0 16 (fun c => Y.dk (48 + 16 * k + c)) (rpR Y k).ce)) (Y.dk (33 + k)).toNatClampNeg (fun i => Y.dk (48 + 16 * k + i)) = _
      rw [et, nI_clamp (by omega)]
    rw [ew]
    refine ⟨?_, fun i a b => ?_⟩
    · show CR (if (rpl q k).1 = 0 then rpl q k else wrD (rpl q k).2 512 (rpl q k).2.2.2.2 (cellv (rpl q k).2.2.2.2 (33 + nI k)) ((3 + nI k) * 16)) _
      have gk := ih.1.2.2.2
      rw [e33, cellv_in (by omega), gk (33 + k) (by omega), ik (33 + k) (by omega) (by omega), et, e3, e48]
      exact CR_wr (by omega) (by omega) (by decide) (fun i hi => by rw [gk _ (by omega), ik _ (by omega) (by omega), show (3 + k) * 16 + i = 48 + 16 * k + i by omega]) (CR_ce _ ih)
    · rw [wtF_dk (by omega), ce_dk]
      exact ik i a b
theorem DR_rc {L : LSt} {Y : RSt} (h : TIE L Y) : DR (L.ar, 0, L.wr, L.g) (rc1 Y) := ⟨h.1.1, rfl, h.1.2.2.1, h.1.2.2.2⟩
theorem EM_no (Y : RSt) : EM (noF Y) := ⟨rfl, rfl, rfl, rfl⟩
theorem EM_rc (Y : RSt) : EM (rc1 Y) := EM_no _
theorem TIE_am {L : LSt} {Y : RSt} (x : Int32) (h : TIE L Y) : TIE (amF L x) (arF Y x) := ⟨⟨rfl, h.1.2⟩, h.2⟩
theorem TIE_rc0 {L : LSt} {Y : RSt} (h : TIE L Y) : TIE (rc0 L) (rc1 Y) := ⟨⟨h.1.1, rfl, h.1.2.2.1, h.1.2.2.2⟩, WS_em (EM_rc Y) rfl rfl rfl rfl, h.2.2⟩
theorem EM_wk {Y Z : RSt} (k : WK Y Z) (e : EM Y) : EM Z := by
  by_cases hd : Z.de = 0
  · obtain ⟨k1, k2, k3, k4, k5⟩ := k.1 hd
    exact ⟨k1.trans e.1, k3.trans e.2.1, k4.trans e.2.2.1, k5.trans e.2.2.2⟩
  · exact k.2.1 hd
theorem fm_tie {L : LSt} {Y : RSt} (h : TIE L Y) : fmtv L.g = fmtv Y.dk := by
  have e : L.g 0 = Y.dk 0 := h.1.2.2.2 0 (by decide)
  unfold fmtv
  rw [e]
theorem TIE_rc {q : Nat} {L : LSt} {Y : RSt} {e0 : Nat → Int32} (h : TIE L Y) (ri : RI q Y) (he0 : ∀ i, i < 16 → e0 i = 0) : (rcvF e0 L).1 = (rcR Y).1 ∧ TIE (rcvF e0 L).2 (rcR Y).2 := by
  have t0 := TIE_rc0 h
  unfold rcvF rcR
  rw [fm_tie h]
  by_cases hf : fmtv Y.dk = 0
  · rw [if_pos hf, if_pos hf]
    exact ⟨rfl, TIE_am (-1) t0⟩
  rw [if_neg hf, if_neg hf]
  have e32 : cellv L.g 32 = Y.dk 32 := by
    have e := cellv_in (g := L.g) (k := 32) (by decide)
    have e2 : L.g 32 = Y.dk 32 := h.1.2.2.2 32 (by decide)
    exact e.trans e2
  unfold rpy
  have e33 : cellv ((L.ar, 0, L.wr, L.g) : DS).2.2.2 32 = Y.dk 32 := e32
  rw [e33]
  by_cases h32 : Y.dk 32 = 0
  · rw [if_pos h32, if_pos h32]
    have q1 : ¬ ((1 : Int32), ((L.ar, 0, L.wr, L.g) : DS)).1 = 0 := fun g => absurd (show (1 : Int32) = 0 from g) (by decide)
    rw [if_neg q1]
    exact ⟨rfl, TIE_am (-1) t0⟩
  · rw [if_neg h32, if_neg h32]
    obtain ⟨g, ⟨n, lg, _⟩, _⟩ := ri.2.1.1
    have hn := lg.1
    have en : rpn (Y.dk 32) = n := by
      unfold rpn
      rw [lg.2.1, nI_clamp (by omega)]
      split <;> omega
    have dd : (rc1 Y).de = 0 := rfl
    have dk1 : (rc1 Y).dk = Y.dk := rfl
    have cp := (CR_rp (DR_rc h) dd (by rw [dk1]; exact lg) n (Nat.le_refl _)).1
    have c2 := CR_wr (n0 := 16) (f := e0) (v := fun _ => 0) (n := 2) (a := 0) (by decide) (by decide) (by decide) (fun i hi => by rw [Nat.zero_add]; exact he0 i hi) cp
    have k2 := (WK_rp dd n).wt 2 (fun _ => 0)
    have em := EM_wk k2 (EM_rc Y)
    have ou := OU_wk t0.2.2 k2
    have e2 : rc2 Y = wtF (rpR (rc1 Y) n) 2 (fun _ => 0) := by unfold rc2; rw [lg.2.1, nI_clamp (by omega)]
    rw [e2, en]
    revert c2 em ou
    generalize wtF (rpR (rc1 Y) n) 2 (fun _ => 0) = M
    generalize rpl (L.ar, 0, L.wr, L.g) n = r1
    intro c2 em ou
    have n0 : nI 0 = 0 := rfl
    have n2 : nI 2 = 2 := rfl
    rw [n0, n2] at c2
    have dead : ∀ r : Int32 × DS, CR r M → r.1 = 0 → TIE (amF (dieF (stF (rc0 L) r.2)) (-1)) (arF M (-1)) := fun r c d => TIE_am (-1) ⟨c.1, WS_die em, ou⟩
    have live : ∀ r : Int32 × DS, CR r M → TIE (amF (stF (rc0 L) r.2) (-1)) (arF M (-1)) := fun r c => TIE_am (-1) ⟨c.1, WS_em em rfl rfl rfl rfl, ou⟩
    have z0 : ∀ x : DS, ((0 : Int32), x).1 = 0 := fun _ => rfl
    by_cases d1 : r1.1 = 0
    · rw [if_pos d1] at c2
      rw [if_pos d1, if_pos (z0 _), if_neg (c2.2.mp d1)]
      exact ⟨rfl, dead r1 c2 d1⟩
    · rw [if_neg d1] at c2
      rw [if_neg d1]
      revert c2
      generalize wrD r1.2 16 e0 2 0 = r2
      intro c2
      by_cases d2 : r2.1 = 0
      · rw [if_pos d2, if_pos (z0 _), if_neg (c2.2.mp d2)]
        exact ⟨rfl, dead r2 c2 d2⟩
      · have hm : M.de = 0 := Decidable.byContradiction (fun q => d2 (c2.2.mpr q))
        have q1 : ∀ x : DS, ¬ ((1 : Int32), x).1 = 0 := fun _ g => absurd (show (1 : Int32) = 0 from g) (by decide)
        rw [if_neg d2, if_neg (q1 _), if_pos hm]
        exact ⟨rfl, live r2 c2⟩
/-! class and reference tied: rooms, lists, what is asked -/
theorem c16 (k : Nat) : (16 : Int32) + 2 * nI k = nI (16 + 2 * k) := by
  have e : (2 : Int32) * nI k = nI (2 * k) := pk_mul 2 k
  rw [e]
  exact nI_add 16 (2 * k)
theorem c17 (k : Nat) : (16 : Int32) + 2 * nI k + 1 = nI (17 + 2 * k) := by
  rw [c16]
  have e : nI (16 + 2 * k) + 1 = nI (16 + 2 * k + 1) := nI_1 _
  rw [e, show 16 + 2 * k + 1 = 17 + 2 * k by omega]
def GE (g h : Nat → Int32) : Prop := ∀ i, i < 512 → g i = h i
theorem cv16 {g h : Nat → Int32} (e : GE g h) {k : Nat} (hk : k < 8) : cellv g (16 + 2 * nI k) = h (16 + 2 * k) := by
  rw [c16, cellv_in (by omega)]
  exact e _ (by omega)
theorem cv17 {g h : Nat → Int32} (e : GE g h) {k : Nat} (hk : k < 8) : cellv g (16 + 2 * nI k + 1) = h (17 + 2 * k) := by
  rw [c17, cellv_in (by omega)]
  exact e _ (by omega)
theorem fil_eq {g h : Nat → Int32} (e : GE g h) : ∀ k, k ≤ 8 → flN g k = fiN h k
  | 0, _ => rfl
  | k + 1, hk => by
    show (if cellv g (16 + 2 * nI k) = 0 then flN g k else flN g k + 1) = fiN h k + (if h (16 + 2 * k) = 0 then 0 else 1)
    rw [cv16 e (by omega), fil_eq e k (by omega)]
    by_cases c : h (16 + 2 * k) = 0
    · rw [if_pos c, if_pos c]; exact (Int32.add_zero _).symm
    · rw [if_neg c, if_neg c]
theorem TIE_fi {L : LSt} {Y : RSt} (h : TIE L Y) : filF L = fiR Y := by
  unfold filF fiR
  rw [TIE_de h, fm_tie h, fil_eq (h := Y.dk) h.1.2.2.2 8 (Nat.le_refl _)]
  by_cases c : Y.de = 0
  · rw [if_pos c, if_pos c]
    by_cases d : fmtv Y.dk = 0
    · have nd : ¬ ¬ fmtv Y.dk = 0 := fun g => g d
      rw [if_pos d, if_neg nd]
    · rw [if_neg d, if_pos d]
  · rw [if_neg c, if_neg c]
/-! the numbers put out -/
theorem OU_out {L : LSt} {Y : RSt} {x : Int32} (h : OU L Y) (hos : Y.os < 1000000) : OU (outF L x) (coF Y x) := by
  obtain ⟨h1, h2⟩ := h
  refine ⟨?_, fun i a b => ?_⟩
  · show L.oc + 1 = nI (Y.os + 1)
    rw [h1]
    exact nI_1 _
  · have b : i < Y.os + 1 := b
    show (if L.oc < 0 then L.kf else if 60 ≤ L.oc then L.kf else upd L.kf L.oc.toNatClampNeg x) i = (if 60 ≤ Y.os then Y.ou else upd Y.ou Y.os x) i
    rw [h1, if_neg (nI_pos (by omega)), nI_clamp (by omega)]
    have e : (60 : Int32) ≤ nI Y.os ↔ 60 ≤ Y.os := nI_leI (a := 60) (by decide) (by omega)
    by_cases c : 60 ≤ Y.os
    · rw [if_pos (e.mpr c), if_pos c]; exact h2 i a (by omega)
    · rw [if_neg (fun z => c (e.mp z)), if_neg c]
      by_cases d : i = Y.os
      · rw [d, pk_us, pk_us]
      · rw [pk_un d, pk_un d]; exact h2 i a (by omega)
theorem TIE_out {L : LSt} {Y : RSt} {x : Int32} (h : TIE L Y) (hos : Y.os < 1000000) : TIE (outF L x) (coF Y x) := ⟨h.1, h.2.1, OU_out h.2.2 hos⟩
theorem TIE_ls {L : LSt} {Y : RSt} (h : TIE L Y) (hos : Y.os < 999900) : ∀ k, k ≤ 8 → TIE (lsF L k) (liN Y k)
  | 0, _ => h
  | k + 1, hk => by
    have ih := TIE_ls h hos k (by omega)
    have o := liN_os Y k
    show TIE (if cellv L.g (16 + 2 * nI k) = 0 then lsF L k else outF (outF (lsF L k) (nI k)) (cellv L.g (16 + 2 * nI k))) (if Y.dk (16 + 2 * k) = 0 then liN Y k else coF (coF (liN Y k) (nI k)) (Y.dk (16 + 2 * k)))
    rw [cv16 (h := Y.dk) h.1.2.2.2 (by omega)]
    by_cases c : Y.dk (16 + 2 * k) = 0
    · rw [if_pos c, if_pos c]; exact ih
    · rw [if_neg c, if_neg c]
      refine TIE_out (TIE_out ih (by omega)) ?_
      show (liN Y k).os + 1 < 1000000
      omega
theorem mk2 {a b : Int32} {L : LSt} {Y : RSt} (e : a = b) (h : TIE L Y) : ((a, L) : Int32 × LSt).1 = ((b, Y) : Int32 × RSt).1 ∧ TIE ((a, L) : Int32 × LSt).2 ((b, Y) : Int32 × RSt).2 := ⟨e, h⟩
/-! rooms -/
theorem blk_eq (x : Int32) : blkv x = (x + 15) / 16 := by
  unfold blkv
  have e : x + 16 - 1 = x + 15 := by
    rw [Int32.sub_eq_add_neg, Int32.add_assoc]
    rfl
  rw [e]
theorem f16 {f : Nat} (h : f < 32) : nI f * 16 / 16 = nI f := by
  have e : nI f * 16 = nI (f * 16) := pk_mul f 16
  rw [e]
  have e2 : nI (f * 16) / 16 = nI (f * 16 / 16) := pk_div (d := 16) (by omega) (by decide) (by decide)
  rw [e2, show f * 16 / 16 = f by omega]
theorem FOK_sh {h : Nat → Int32} (ok : FOK h) {k : Nat} (hk : k < 8) : ∃ f m, f < 32 ∧ m ≤ 3 ∧ h (17 + 2 * k) = nI f ∧ (h (16 + 2 * k) + 15) / 16 = nI m ∧ (m = 0 → f = 0) := by
  rcases ok.1 k hk with a | ⟨f, a⟩ | ⟨f, c, a⟩
  · exact ⟨0, 0, by decide, by decide, a.2, by rw [a.1]; decide, fun _ => rfl⟩
  · exact ⟨f, 1, a.2.2.2, by decide, a.2.1, by rw [a.1]; decide, fun e => absurd e (by decide)⟩
  · refine ⟨f, bl c, ?_, ?_, a.2.1, ?_, fun e => ?_⟩
    · have := a.2.2.2.2.2.1
      have : 1 ≤ bl c := by unfold bl; omega
      omega
    · have := a.2.2.2.1
      unfold bl; omega
    · rw [a.1]; exact blR (by have := a.2.2.2.1; omega)
    · unfold bl at e; omega
theorem busy_eq {g h : Nat → Int32} (e : GE g h) (ok : FOK h) {n m q k : Nat} (hn : n < 8) (hk : k < 8) (hq : 9 ≤ q) (hqm : q + m ≤ 64) (hm : 1 ≤ m) : busy g (nI n) (nI q) (nI q + nI m) k ↔ ∃ j, j < m ∧ ¬ usT h (nI (q + j)) (nI n) k = 0 := by
  obtain ⟨f, m', hf, hm', ef, es, e0⟩ := FOK_sh ok hk
  have ek : (nI k = nI n) ↔ k = n := nI_eq (by omega) (by omega)
  unfold busy
  rw [cv16 e hk, cv17 e hk, ef, f16 hf, blk_eq, es, nI_add, nI_add, nI_ltI (by omega) (by omega), nI_ltI (by omega) (by omega), ek]
  have eu : ∀ j, j < m → (usT h (nI (q + j)) (nI n) k = 0 ↔ (k = n ∨ q + j < f ∨ f + m' ≤ q + j)) := fun j hj => by
    unfold usT
    rw [ef, es, nI_add]
    by_cases c1 : k = n
    · rw [if_pos (ek.mpr c1)]; exact ⟨fun _ => Or.inl c1, fun _ => rfl⟩
    · rw [if_neg (fun g => c1 (ek.mp g))]
      by_cases c2 : q + j < f
      · rw [if_pos ((nI_ltI (by omega) (by omega)).mpr c2)]; exact ⟨fun _ => Or.inr (Or.inl c2), fun _ => rfl⟩
      · rw [if_neg (fun g => c2 ((nI_ltI (by omega) (by omega)).mp g))]
        by_cases c3 : f + m' ≤ q + j
        · rw [if_pos ((nI_leI (by omega) (by omega)).mpr c3)]; exact ⟨fun _ => Or.inr (Or.inr c3), fun _ => rfl⟩
        · rw [if_neg (fun g => c3 ((nI_leI (by omega) (by omega)).mp g))]
          exact ⟨fun g => absurd g (by decide), fun g => by omega⟩
  constructor
  · intro ⟨a, b, c⟩
    have hm0 : m' ≠ 0 := fun z => by have := e0 z; omega
    by_cases d : f ≤ q
    · exact ⟨0, by omega, fun g => by have := (eu 0 (by omega)).mp g; omega⟩
    · exact ⟨f - q, by omega, fun g => by have := (eu (f - q) (by omega)).mp g; omega⟩
  · intro ⟨j, hj, g⟩
    have := fun x => g ((eu j hj).mpr x)
    refine ⟨fun a => this (Or.inl a), ?_, ?_⟩
    · rcases Nat.lt_or_ge (q + j) f with a | a
      · exact absurd (Or.inr (Or.inl a)) this
      · omega
    · rcases Nat.lt_or_ge (q + j) (f + m') with a | a
      · omega
      · exact absurd (Or.inr (Or.inr a)) this
theorem usN_ex {g : Nat → Int32} {x y : Int32} : ∀ k, (∀ j, j < k → usT g x y j = 0) → usN g x y k = 0
  | 0, _ => rfl
  | k + 1, h => by
    show (if ¬ usN g x y k = 0 then 1 else usT g x y k) = 0
    have a := usN_ex k (fun j hj => h j (by omega))
    have na : ¬ ¬ usN g x y k = 0 := fun q => q a
    rw [if_neg na]
    exact h k (by omega)
theorem fr_ex {g : Nat → Int32} {q : Nat} {y : Int32} : ∀ m, (∀ j, j < m → usN g (nI (q + j)) y 8 = 0) → ¬ frN g q y m = 0
  | 0, _ => by show ¬ (1 : Int32) = 0; decide
  | m + 1, h => by
    show ¬ (if frN g q y m = 0 then 0 else if ¬ usN g (nI (q + m)) y 8 = 0 then 0 else 1) = (0 : Int32)
    have na : ¬ ¬ usN g (nI (q + m)) y 8 = 0 := fun z => z (h m (by omega))
    rw [if_neg (fr_ex m (fun j hj => h j (by omega))), if_neg na]
    decide
theorem take_eq {g h : Nat → Int32} (e : GE g h) (ok : FOK h) {n m q : Nat} (hn : n < 8) (hq : 9 ≤ q) (hqm : q + m ≤ 64) (hm : 1 ≤ m) : takenAt g (nI n) m q ↔ frN h q (nI n) m = 0 := by
  constructor
  · intro ⟨k, hk, b⟩
    obtain ⟨j, hj, u⟩ := (busy_eq e ok hn hk hq hqm hm).mp b
    exact Decidable.byContradiction (fun z => u (usN_0 8 (fr_all m z j hj) k hk))
  · intro z
    refine Classical.byContradiction (fun t => ?_)
    refine fr_ex m (fun j hj => usN_ex 8 (fun k hk => ?_)) z
    exact Decidable.byContradiction (fun u => t ⟨k, hk, (busy_eq e ok hn hk hq hqm hm).mpr ⟨j, hj, u⟩⟩)
theorem rmG_eq {g h : Nat → Int32} (e : GE g h) (ok : FOK h) {n m : Nat} (hn : n < 8) (hm : 1 ≤ m) : ∀ f q, 9 ≤ q → q + f + m ≤ 64 → rmG g (nI n) m f q = rmR h m (nI n) f q
  | 0, _, _, _ => rfl
  | f + 1, q, hq, hb => by
    have ih := rmG_eq e ok hn hm f (q + 1) (by omega) (by omega)
    have t := take_eq e ok hn hq (m := m) (by omega) hm
    unfold rmG
    show _ = (if frN h q (nI n) m = 0 then rmR h m (nI n) f (q + 1) else nI q)
    by_cases c : frN h q (nI n) m = 0
    · rw [if_pos (t.mpr c), if_pos c]; exact ih
    · rw [if_neg (fun z => c (t.mp z)), if_neg c]
theorem rm_eq {g h : Nat → Int32} (e : GE g h) (ok : FOK h) {n m : Nat} (hn : n < 8) (hm : 1 ≤ m) (hm6 : m ≤ 6) : rmF g (nI n) m = rmR h m (nI n) (24 - m) 9 := by
  unfold rmF
  rw [show 33 - m - 9 = 24 - m by omega]
  exact rmG_eq e ok hn hm (24 - m) 9 (Nat.le_refl _) (by omega)
/-! class and reference tied: transactions -/
theorem putv_in {ro : Nat → Int32} {k : Nat} {v : Int32} (h : k < 96) : putv ro (nI k) v = upd ro k v := by
  unfold putv
  have e1 : ¬ (96 : Int32) ≤ nI k := fun e => absurd ((nI_leI (a := 96) (by decide) (by omega)).mp e) (by omega)
  rw [if_neg (nI_pos (by omega)), if_neg e1, nI_clamp (by omega)]
theorem tkR_in {g h ro : Nat → Int32} (e : GE g h) {b : Nat} (hb : b < 32) : ∀ k, k ≤ 16 → ∀ i, tkR g ro 0 (nI b) k i = if i < k then h (16 * b + i) else ro i
  | 0, _, i => by rw [if_neg (by omega)]; rfl
  | k + 1, hk, i => by
    have e1 : nI 0 * 16 + nI k = nI k := by
      have a : nI 0 * 16 = nI (0 * 16) := pk_mul 0 16
      rw [a, nI_add, show 0 * 16 + k = k by omega]
    have e2 : nI b * 16 + nI k = nI (16 * b + k) := by
      have a : nI b * 16 = nI (b * 16) := pk_mul b 16
      rw [a, nI_add, Nat.mul_comm b 16]
    show putv (tkR g ro 0 (nI b) k) (nI 0 * 16 + nI k) (cellv g (nI b * 16 + nI k)) i = _
    rw [e1, e2, putv_in (by omega), cellv_in (by omega), e _ (by omega)]
    by_cases c : i = k
    · rw [c, pk_us, if_pos (by omega)]
    · rw [pk_un c, tkR_in e hb k (by omega) i]
      by_cases d : i < k
      · rw [if_pos d, if_pos (by omega)]
      · rw [if_neg d, if_neg (by omega)]
theorem bgL_ro (L : LSt) (f : Int32) : ∀ k, (bgL L f k).ro = L.ro
  | 0 => rfl
  | k + 1 => bgL_ro L f k
theorem bg_ro {L : LSt} {h : Nat → Int32} (e : GE L.g h) {n cn : Nat} {f : Int32} (hn : n < 8) : ∀ i, (bgF L (nI n) cn f).ro i = if i = 2 * n + 1 then f else if i = 2 * n then nI cn else if i < 16 then h (16 + i) else 0 := by
  intro i
  unfold bgF
  rw [bgL_ro]
  show putv (putv (tkR L.g (fun _ => 0) 0 (nI 1) 16) (2 * nI n) (nI cn)) (2 * nI n + 1) f i = _
  have e1 : (2 : Int32) * nI n = nI (2 * n) := pk_mul 2 n
  have e2 : nI (2 * n) + 1 = nI (2 * n + 1) := nI_1 _
  rw [e1, e2, putv_in (by omega), putv_in (by omega)]
  by_cases c : i = 2 * n + 1
  · rw [c, pk_us, if_pos rfl]
  · rw [pk_un c, if_neg c]
    by_cases d : i = 2 * n
    · rw [d, pk_us, if_pos rfl]
    · rw [pk_un d, if_neg d]
      exact tkR_in e (b := 1) (by decide) 16 (Nat.le_refl _) i
theorem bgL_hd (L : LSt) (n : Int32) (cn q : Nat) : ∀ k, k ≤ 5 → ∀ i, (bgL (bg1 L n cn (nI q)) (nI q) k).hd i = if i = 0 then nI (1 + k) else if i = 1 then 1 else if i < 2 + k then nI (q + (i - 2)) else 0
  | 0, _, i => by
    show upd (upd (fun _ => 0) 0 (nI 1)) 1 1 i = _
    by_cases c : i = 1
    · rw [c, pk_us, if_neg (by decide), if_pos rfl]
    · rw [pk_un c]
      by_cases d : i = 0
      · rw [d, pk_us, if_pos rfl]
      · rw [pk_un d, if_neg d, if_neg c, if_neg (by omega)]
  | k + 1, hk, i => by
    have j := bgL_jt (bg1 L n cn (nI q)) (nI q) k
    have j1 : (bgL (bg1 L n cn (nI q)) (nI q) k).jt + 1 = 1 + (k + 1) := by rw [j]; show 1 + k + 1 = _; omega
    show upd (upd (bgL (bg1 L n cn (nI q)) (nI q) k).hd 0 (nI ((bgL (bg1 L n cn (nI q)) (nI q) k).jt + 1))) ((bgL (bg1 L n cn (nI q)) (nI q) k).jt + 1) (nI q + nI k) i = _
    rw [j1, nI_add]
    by_cases c : i = 1 + (k + 1)
    · rw [c, pk_us, if_neg (by omega), if_neg (by omega), if_pos (by omega), show 1 + (k + 1) - 2 = k by omega]
    · rw [pk_un c]
      by_cases d : i = 0
      · rw [d, pk_us, if_pos rfl]
      · rw [pk_un d, bgL_hd L n cn q k (by omega) i, if_neg d, if_neg d]
        by_cases g : i = 1
        · rw [if_pos g, if_pos g]
        · rw [if_neg g, if_neg g]
          by_cases z : i < 2 + k
          · rw [if_pos z, if_pos (by omega)]
          · rw [if_neg z, if_neg (by omega)]
theorem TIE_tk {L : LSt} {Y : RSt} (b : Int32) (h : TIE L Y) : TIE (tkF L b) Y := h
theorem TIE_bg1 {L : LSt} {Y : RSt} (n : Int32) (cn : Nat) (f : Int32) (h : TIE L Y) : TIE (bg1 L n cn f) Y := h
theorem TIE_bgL {L : LSt} {Y : RSt} (f : Int32) (h : TIE L Y) : ∀ k, TIE (bgL L f k) Y
  | 0 => h
  | k + 1 => TIE_tk _ (TIE_bgL f h k)
theorem TIE_bg {L : LSt} {Y : RSt} (n : Int32) (cn : Nat) (f : Int32) (h : TIE L Y) : TIE (bgF L n cn f) Y := TIE_bgL f (TIE_bg1 n cn f h) _
theorem TIE_pj {L : LSt} {Y : RSt} (x v : Int32) (h : TIE L Y) : TIE (pjF L x v) Y := h
theorem TIE_di {L : LSt} {Y : RSt} (n : Nat) (x y : Int32) (h : TIE L Y) : TIE L (diR Y n x y) := h
theorem TIE_my {L : LSt} {Y : RSt} (x : Nat) (h : TIE L Y) : TIE L (myF Y x) := h
theorem TIE_rwC {L : LSt} {Y : RSt} (q : Nat) (z i v : Int32) (h : TIE L Y) : TIE L (rwC Y q z i v) := h
theorem TIE_wrA {L : LSt} {Y : RSt} (b i v : Int32) (h : TIE L Y) : TIE (wrA L b i v) Y := h
theorem hdS_di (Y : RSt) (n : Nat) (x y : Int32) (i : Nat) : hdS (diR Y n x y) i = if i = 0 then nI 1 else if 1 < i then 0 else upd Y.wh 0 1 (i - 1) := rfl
theorem TIE_dr {L : LSt} {Y : RSt} {n : Nat} {e0 : Nat → Int32} (h : TIE L Y) (hd : Y.de = 0) (hn : n < 8) (he0 : ∀ i, i < 16 → e0 i = 0) : (delF e0 L (nI n)).1 = (drR Y n).1 ∧ TIE (delF e0 L (nI n)).2 (drR Y n).2 := by
  have ge : GE L.g Y.dk := h.1.2.2.2
  unfold delF drR
  rw [cv16 ge hn]
  by_cases c : Y.dk (16 + 2 * n) = 0
  · have nc : ¬ ¬ Y.dk (16 + 2 * n) = 0 := fun g => g c
    rw [if_neg nc, if_neg nc]
    exact mk2 rfl h
  · rw [if_pos c, if_pos c]
    have hro := bg_ro ge (n := n) (cn := 0) (f := 0) hn
    have hhd := bgL_hd L (nI n) 0 0 0 (by decide)
    have hce := diR_c Y n 0 0
    refine TIE_cm (TIE_bg (nI n) 0 0 (TIE_di n 0 0 h)) hd (bgF_jt L (nI n) 0 0) (show 1 ≤ 6 by decide) (fun i hi => ?_) (fun i hi => ?_) (diR_wh Y n 0 0) he0
    · have hi : i < 16 * 1 := hi
      rw [hro i, hce i (by omega)]
      by_cases a : i = 2 * n + 1
      · rw [if_pos a, if_neg (by omega), if_pos a]
      · rw [if_neg a]
        by_cases b : i = 2 * n
        · rw [if_pos b, if_pos b]; rfl
        · rw [if_neg b, if_neg b, if_neg a, if_pos (by omega)]
    · have e : (bgF L (nI n) 0 0).hd i = (bgL (bg1 L (nI n) 0 (nI 0)) (nI 0) 0).hd i := rfl
      rw [e, hhd i, hdS_di]
      by_cases a : i = 0
      · rw [if_pos a, if_pos a]
      · rw [if_neg a, if_neg a]
        by_cases b : i = 1
        · rw [if_pos b, if_neg (by omega), b, show 1 - 1 = 0 from rfl, pk_us]
        · rw [if_neg b, if_neg (by omega), if_pos (by omega)]
/-! class and reference tied: records -/
theorem lt16 (i : Int32) : i < 16 ↔ i ≤ 15 := by
  rw [Int32.lt_iff_toInt_lt, Int32.le_iff_toInt_le]
  have e1 : (16 : Int32).toInt = 16 := by decide
  have e2 : (15 : Int32).toInt = 15 := by decide
  omega
theorem rfl_eq {L : LSt} {Y : RSt} {n : Nat} {i : Int32} (h : TIE L Y) (hn : n < 8) : rflF L.g (nI n) i = if ¬ fmtv Y.dk = 0 then (if i < 0 then 4 else if i ≤ 15 then (if Y.dk (16 + 2 * n) = 0 then 0 else if ¬ Y.dk (16 + 2 * n) = 16 then 4 else 0) else 4) else 8 := by
  unfold rflF
  rw [fm_tie h, cv16 (h := Y.dk) h.1.2.2.2 hn]
  by_cases c : i ≤ 15
  · rw [if_pos c, if_pos ((lt16 i).mpr c)]
  · rw [if_neg c, if_neg (fun z => c ((lt16 i).mp z))]
theorem TIE_va {L : LSt} {Y : RSt} {t : Nat} {x y : Int32} (h : TIE L Y) (e : x = y) (a : LSt) (ha : a = (L.ar, L.de, L.wr, L.g, L.jt, L.ro, L.hd, L.wn, L.nx, L.wc, L.nu, L.le, L.te, L.un, upd L.va t x, L.ty, L.en, L.at1, L.go, L.kd, L.vr, L.fi, L.lf, L.sg, L.rt, L.tg, L.tx, L.tv, L.kf, L.oc)) : TIE a (vaAll Y (upd Y.va t y)) := by
  subst ha
  subst e
  refine ⟨h.1, ⟨h.2.1.1, fun i hi => ?_, h.2.1.2.2⟩, h.2.2⟩
  show upd L.va t x i = upd Y.va t x i
  by_cases c : i = t
  · rw [c, pk_us, pk_us]
  · rw [pk_un c, pk_un c]
    exact h.2.1.2.1 i hi
theorem TIE_rr {L : LSt} {Y : RSt} {n t : Nat} {i : Int32} (h : TIE L Y) (hn : n < 8) (ht : t < 8) (hrec : Y.dk (16 + 2 * n) = 16 → ∃ f, f < 32 ∧ Y.dk (17 + 2 * n) = nI f) : (rdrF L (nI n) i (nI t)).1 = (rrR Y n i t).1 ∧ TIE (rdrF L (nI n) i (nI t)).2 (rrR Y n i t).2 := by
  have ge : GE L.g Y.dk := h.1.2.2.2
  unfold rdrF rrR
  rw [rfl_eq h hn, cv16 ge hn, cv17 ge hn]
  have z : ∀ x : Int32, ¬ x = 0 → ∀ p q : Int32 × LSt, (if x = 0 then p else q) = q := fun x hx p q => if_neg hx
  by_cases c1 : fmtv Y.dk = 0
  · have nc : ¬ ¬ fmtv Y.dk = 0 := fun g => g c1
    rw [if_neg nc, if_neg nc, z 8 (by decide)]
    exact mk2 rfl h
  rw [if_pos c1, if_pos c1]
  by_cases c2 : i < 0
  · rw [if_pos c2, if_pos c2, z 4 (by decide)]
    exact mk2 rfl h
  rw [if_neg c2, if_neg c2]
  by_cases c3 : i ≤ 15
  · have nc : ¬ ¬ i ≤ 15 := fun g => g c3
    rw [if_pos c3, if_neg nc]
    by_cases c4 : Y.dk (16 + 2 * n) = 0
    · have nc4 : ¬ ¬ Y.dk (16 + 2 * n) = 0 := fun g => g c4
      rw [if_pos c4, if_neg nc4, if_neg nc4, if_pos rfl]
      exact mk2 rfl h
    · rw [if_neg c4, if_pos c4, if_pos c4]
      by_cases c5 : Y.dk (16 + 2 * n) = 16
      · have nc5 : ¬ ¬ Y.dk (16 + 2 * n) = 16 := fun g => g c5
        rw [if_neg nc5, if_pos c5, if_pos rfl]
        obtain ⟨f, hf, ef⟩ := hrec c5
        obtain ⟨j, hj, rfl⟩ := nI_of2 (M := 15) (n := 15) (by decide) c2 c3
        refine mk2 rfl (TIE_va h ?_ _ (by rw [nI_clamp (show t < 2 ^ 31 by omega)]))
        have e : nI f * 16 + nI j = nI (16 * f + j) := by
          have a : nI f * 16 = nI (f * 16) := pk_mul f 16
          rw [a, nI_add, Nat.mul_comm f 16]
        rw [ef, e, cellv_in (by omega), nI_clamp (by omega), nI_clamp (by omega)]
        exact ge _ (by omega)
      · rw [if_pos c5, if_neg c5, z 4 (by decide)]
        exact mk2 rfl h
  · rw [if_neg c3, if_pos c3, z 4 (by decide)]
    exact mk2 rfl h
theorem hdS_rw (Y : RSt) (q : Nat) (z i v : Int32) (k : Nat) : hdS (rwC Y q z i v) k = if k = 0 then nI (Y.my + 1) else if Y.my + 1 < k then 0 else upd Y.wh Y.my (nI q) (k - 1) := rfl
theorem rwC_de (Y : RSt) (q : Nat) (z i v : Int32) : (rwC Y q z i v).de = Y.de := rfl
theorem rwC_my (Y : RSt) (q : Nat) (z i v : Int32) : (rwC Y q z i v).my = Y.my + 1 := rfl
theorem rwC_ce (Y : RSt) (q : Nat) (z i v : Int32) : (rwC Y q z i v).ce = fl (16 * Y.my) 0 16 (rcV Y q z i v) Y.ce := rfl
theorem diR_de (Y : RSt) (n : Nat) (x y : Int32) : (diR Y n x y).de = Y.de := rfl
theorem diR_my (Y : RSt) (n : Nat) (x y : Int32) : (diR Y n x y).my = 1 := rfl
theorem diR_w (Y : RSt) (n : Nat) (x y : Int32) : (diR Y n x y).wh = upd Y.wh 0 1 := rfl
theorem myF_de (Y : RSt) (x : Nat) : (myF Y x).de = Y.de := rfl
theorem myF_my (Y : RSt) (x : Nat) : (myF Y x).my = x := rfl
theorem myF_w (Y : RSt) (x : Nat) : (myF Y x).wh = Y.wh := rfl
theorem myF_ce (Y : RSt) (x : Nat) : (myF Y x).ce = Y.ce := rfl
theorem myF_dk (Y : RSt) (x : Nat) : (myF Y x).dk = Y.dk := rfl
theorem pjF_jt (L : LSt) (x v : Int32) : (pjF L x v).jt = L.jt := rfl
theorem pjF_ro (L : LSt) (x v : Int32) : (pjF L x v).ro = putv L.ro x v := rfl
theorem pjF_hd (L : LSt) (x v : Int32) : (pjF L x v).hd = L.hd := rfl
theorem wrA_jt (L : LSt) (b i v : Int32) : (wrA L b i v).jt = 1 := rfl
theorem wrA_ro (L : LSt) (b i v : Int32) : (wrA L b i v).ro = putv (tkR L.g (fun _ => 0) 0 b 16) i v := rfl
theorem wrA_hd (L : LSt) (b i v : Int32) : (wrA L b i v).hd = upd (upd (fun _ => 0) 0 (nI 1)) 1 b := rfl
theorem rcV_0 (Y : RSt) (q : Nat) (i v : Int32) (k : Nat) : rcV Y q 0 i v k = if ¬ nI k = i then 0 else v := by
  unfold rcV
  have n0 : ¬ ¬ (0 : Int32) = 0 := fun g => g rfl
  rw [if_neg n0]
theorem rcV_1 (Y : RSt) (q : Nat) (i v : Int32) (k : Nat) : rcV Y q 16 i v k = if ¬ nI k = i then Y.dk (16 * q + k) else v := by
  unfold rcV
  rw [if_pos (show ¬ (16 : Int32) = 0 by decide)]
theorem bg_hd1 (L : LSt) (n : Int32) (b : Nat) : (bgF L n 16 (nI b)).hd = (bgL (bg1 L n 16 (nI b)) (nI b) 1).hd := rfl
theorem TIE_rwN {L : LSt} {Y : RSt} {n j b : Nat} {v : Int32} {e0 : Nat → Int32} (h : TIE L Y) (ge : GE L.g Y.dk) (hd : Y.de = 0) (hn : n < 8) (hj : j ≤ 15) (hb1 : 9 ≤ b) (hb2 : b + 1 ≤ 32) (he0 : ∀ i, i < 16 → e0 i = 0) : (cmtF e0 (pjF (bgF L (nI n) 16 (nI b)) (16 + nI j) v)).1 = (dnR (cmR (rwC (diR Y n 16 (nI b)) b 0 (nI j) v))).1 ∧ TIE (cmtF e0 (pjF (bgF L (nI n) 16 (nI b)) (16 + nI j) v)).2 (dnR (cmR (rwC (diR Y n 16 (nI b)) b 0 (nI j) v))).2 := by
  have hro := bg_ro ge (n := n) (cn := 16) (f := nI b) hn
  have hhd := bgL_hd L (nI n) 16 b 1 (by decide)
  have hce := diR_c Y n 16 (nI b)
  have hjt := bgF_jt L (nI n) 16 (nI b)
  have hwh := rwC_wh (q := b) (z := 0) (i := nI j) (v := v) (by omega) (diR_wh Y n 16 (nI b))
  have t2 := TIE_pj (16 + nI j) v (TIE_bg (nI n) 16 (nI b) (TIE_rwC b 0 (nI j) v (TIE_di n 16 (nI b) h)))
  have e16 : (16 : Int32) + nI j = nI (16 + j) := nI_add 16 j
  have pro := pjF_ro (bgF L (nI n) 16 (nI b)) (16 + nI j) v
  have phd := pjF_hd (bgF L (nI n) 16 (nI b)) (16 + nI j) v
  have pjt := pjF_jt (bgF L (nI n) 16 (nI b)) (16 + nI j) v
  rw [bg_hd1] at phd
  have yde : (rwC (diR Y n 16 (nI b)) b 0 (nI j) v).de = 0 := by rw [rwC_de, diR_de]; exact hd
  have ymy : (rwC (diR Y n 16 (nI b)) b 0 (nI j) v).my = 2 := by rw [rwC_my, diR_my]
  have yce := rwC_ce (diR Y n 16 (nI b)) b 0 (nI j) v
  rw [diR_my] at yce
  have yhd := hdS_rw (diR Y n 16 (nI b)) b 0 (nI j) v
  rw [diR_my, diR_w] at yhd
  revert t2 pro phd pjt yde ymy yce yhd hwh
  generalize pjF (bgF L (nI n) 16 (nI b)) (16 + nI j) v = L2
  generalize rwC (diR Y n 16 (nI b)) b 0 (nI j) v = Y2
  intro hwh t2 pro phd pjt yde ymy yce yhd
  refine TIE_cm t2 yde (by rw [pjt, hjt, ymy]) (by rw [ymy]; decide) (fun k hk => ?_) (fun k hk => ?_) hwh he0
  · rw [ymy] at hk
    rw [pro, yce, e16, putv_in (by omega)]
    by_cases a : k < 16
    · rw [pk_un (by omega), hro k, fl_out (by omega), hce k a]
      by_cases a1 : k = 2 * n + 1
      · rw [if_pos a1, if_neg (by omega), if_pos a1]
      · rw [if_neg a1]
        by_cases a2 : k = 2 * n
        · rw [if_pos a2, if_pos a2]; rfl
        · rw [if_neg a2, if_neg a2, if_neg a1, if_pos a]
    · rw [fl_in (by omega), rcV_0]
      by_cases a1 : k = 16 + j
      · have ej : ¬ ¬ nI (k - 16 * 1) = nI j := fun g => g (by rw [a1, show 16 + j - 16 * 1 = j by omega])
        rw [if_neg ej, a1, pk_us]
      · have ej : ¬ nI (k - 16 * 1) = nI j := fun g => a1 (by have := (nI_eq (by omega) (by omega)).mp g; omega)
        rw [pk_un a1, if_pos ej, hro k, if_neg (by omega), if_neg (by omega), if_neg a]
  · rw [phd, hhd k, yhd k]
    by_cases a : k = 0
    · rw [if_pos a, if_pos a]
    · rw [if_neg a, if_neg a]
      by_cases a1 : k = 1
      · rw [if_pos a1, if_neg (by omega), a1, show 1 - 1 = 0 from rfl, pk_un (by decide), pk_us]
      · rw [if_neg a1]
        by_cases a2 : k = 2
        · rw [if_pos (by omega), if_neg (by omega), a2, show 2 - 1 = 1 from rfl, pk_us, show b + (2 - 2) = b from rfl]
        · rw [if_neg (by omega), if_pos (by omega)]
theorem rwE_ro {g h : Nat → Int32} (ge : GE g h) {M : RSt} (hM : M.dk = h) {f j : Nat} (hf : f < 32) (hj : j ≤ 15) (v : Int32) (c : Nat → Int32) {k : Nat} (hk : k < 16) : putv (tkR g (fun _ => 0) 0 (nI f) 16) (nI j) v k = fl (16 * 0) 0 16 (rcV M f 16 (nI j) v) c k := by
  rw [putv_in (by omega), fl_in (by omega), rcV_1, hM, show k - 16 * 0 = k by omega]
  by_cases a1 : k = j
  · have ej : ¬ ¬ nI k = nI j := fun g => g (by rw [a1])
    rw [if_neg ej, a1, pk_us]
  · have ej : ¬ nI k = nI j := fun g => a1 ((nI_eq (by omega) (by omega)).mp g)
    rw [pk_un a1, if_pos ej, tkR_in ge hf 16 (Nat.le_refl _) k, if_pos (by omega)]
theorem rwE_hd (w : Nat → Int32) (x : Int32) (k : Nat) : upd (upd (fun _ => 0) 0 (nI 1)) 1 x k = if k = 0 then nI (0 + 1) else if 0 + 1 < k then 0 else upd w 0 x (k - 1) := by
  by_cases a1 : k = 1
  · have h0 : ¬ k = 0 := by omega
    have h1 : ¬ 0 + 1 < k := by omega
    rw [if_neg h0, if_neg h1, a1, pk_us, show 1 - 1 = 0 from rfl, pk_us]
  · rw [pk_un a1]
    by_cases a : k = 0
    · rw [if_pos a, a, pk_us]
    · have h1 : 0 + 1 < k := by omega
      rw [pk_un a, if_neg a, if_pos h1]
theorem myF_v (Y : RSt) : ∀ k, k < (myF Y 0).my → vp_in ((myF Y 0).wh k) 32 := fun k hk => by
  rw [myF_my] at hk
  exact absurd hk (Nat.not_lt_zero _)
theorem TIE_rwE {L : LSt} {Y : RSt} {j f : Nat} {v : Int32} {e0 : Nat → Int32} (h : TIE L Y) (ge : GE L.g Y.dk) (hd : Y.de = 0) (hj : j ≤ 15) (hf2 : f < 32) (he0 : ∀ i, i < 16 → e0 i = 0) : (cmtF e0 (wrA L (nI f) (nI j) v)).1 = (dnR (cmR (rwC (myF Y 0) f 16 (nI j) v))).1 ∧ TIE (cmtF e0 (wrA L (nI f) (nI j) v)).2 (dnR (cmR (rwC (myF Y 0) f 16 (nI j) v))).2 := by
  have dM := myF_dk Y 0
  have mM := myF_my Y 0
  have eM := myF_de Y 0
  have vM := myF_v Y
  have tM := TIE_my 0 h
  revert dM mM eM vM tM
  generalize myF Y 0 = M
  intro dM mM eM vM tM
  have hwh := rwC_wh (q := f) (z := 16) (i := nI j) (v := v) hf2 vM
  have t2 := TIE_wrA (nI f) (nI j) v (TIE_rwC f 16 (nI j) v tM)
  have yde : (rwC M f 16 (nI j) v).de = 0 := by rw [rwC_de, eM]; exact hd
  have ymy : (rwC M f 16 (nI j) v).my = 1 := by rw [rwC_my, mM]
  have yce := rwC_ce M f 16 (nI j) v
  have yhd := hdS_rw M f 16 (nI j) v
  rw [mM] at yce yhd
  refine TIE_cm t2 yde (by rw [wrA_jt, ymy]) (by rw [ymy]; decide) (fun k hk => ?_) (fun k hk => ?_) hwh he0
  · rw [ymy] at hk
    rw [wrA_ro, yce]
    exact rwE_ro ge dM hf2 hj v M.ce (by omega)
  · rw [wrA_hd, yhd k]
    exact rwE_hd M.wh (nI f) k
/-! class and reference tied: W -/
theorem rw_room {g : Nat → Int32} {Y : RSt} {n : Nat} (ge : GE g Y.dk) (ok : FOK Y.dk) (hn : n < 8) : rmF g (nI n) 1 = rwB Y n := rm_eq ge ok hn (by decide) (by decide)
theorem rwB_in {Y : RSt} {n : Nat} (hn : n < 8) (h : ¬ rwB Y n = -1) : ∃ b, 9 ≤ b ∧ b + 1 ≤ 32 ∧ rwB Y n = nI b := by
  obtain ⟨b, h1, h2, e, _⟩ := rmB (m := 1) (by decide) hn h
  exact ⟨b, h1, h2, e⟩
theorem TIE_rw {q : Nat} {L : LSt} {Y : RSt} {n : Nat} {i v : Int32} {e0 : Nat → Int32} (h : TIE L Y) (ri : RI q Y) (hd : Y.de = 0) (hn : n < 8) (he0 : ∀ i, i < 16 → e0 i = 0) : (wrrF e0 L (nI n) i v).1 = (rwR Y n i v).1 ∧ TIE (wrrF e0 L (nI n) i v).2 (rwR Y n i v).2 := by
  have ge : GE L.g Y.dk := h.1.2.2.2
  have ok := (DI_fok ri.2.1 hd).2
  have hrec := RI_hrec ri hd n hn
  have er := rw_room ge ok hn
  have hB := fun c => rwB_in (Y := Y) (n := n) hn c
  have ef := rfl_eq (i := i) h hn
  have e16 := cv16 ge hn
  have e17 := cv17 ge hn
  unfold wrrF rwR
  rw [ef, e16, e17, er]
  clear ef e16 e17 er ok ri
  revert hB
  generalize rwB Y n = B
  intro hB
  have z : ∀ x : Int32, ¬ x = 0 → ∀ p q : Int32 × LSt, (if x = 0 then p else q) = q := fun x hx p q => if_neg hx
  by_cases c1 : fmtv Y.dk = 0
  · have nc : ¬ ¬ fmtv Y.dk = 0 := fun g => g c1
    rw [if_neg nc, if_neg nc, z 8 (by decide)]
    exact mk2 rfl h
  rw [if_pos c1, if_pos c1]
  by_cases c2 : i < 0
  · rw [if_pos c2, if_pos c2, z 4 (by decide)]
    exact mk2 rfl h
  rw [if_neg c2, if_neg c2]
  by_cases c3 : i ≤ 15
  · have nc : ¬ ¬ i ≤ 15 := fun g => g c3
    rw [if_pos c3, if_neg nc]
    obtain ⟨j, hj, rfl⟩ := nI_of2 (M := 15) (n := 15) (by decide) c2 c3
    by_cases c4 : Y.dk (16 + 2 * n) = 0
    · rw [if_pos c4, if_pos c4, if_pos rfl, if_pos c4]
      by_cases c5 : B = -1
      · have nc5 : ¬ ¬ B = -1 := fun g => g c5
        rw [if_neg nc5, if_neg nc5]
        exact mk2 rfl h
      · rw [if_pos c5, if_pos c5]
        obtain ⟨b, hb1, hb2, eb⟩ := hB c5
        rw [eb, nI_clamp (show b < 2 ^ 31 by omega), c4]
        exact TIE_rwN h ge hd hn hj hb1 hb2 he0
    · rw [if_neg c4]
      by_cases c5 : Y.dk (16 + 2 * n) = 16
      · have nc5 : ¬ ¬ Y.dk (16 + 2 * n) = 16 := fun g => g c5
        obtain ⟨f, hf1, hf2, ef⟩ := hrec c5
        rw [if_neg nc5, if_pos rfl, if_neg c4, if_neg c4, if_pos c5, ef, f16 hf2, nI_clamp (show f < 2 ^ 31 by omega), c5]
        exact TIE_rwE h ge hd hj hf2 he0
      · rw [if_pos c5, z 4 (by decide), if_neg c4, if_neg c5]
        exact mk2 rfl h
  · rw [if_neg c3, if_pos c3, z 4 (by decide)]
    exact mk2 rfl h
/-! class and reference tied: out and disk; the place of a line -/
theorem TIE_ot1 {L : LSt} {Y : RSt} {x : Int32} (h : TIE L Y) (hb : x < 0 ∨ L.oc ≤ x ∨ ¬ x < 60) : otR Y x = (0, thF Y 1) := by
  have e : L.oc = nI Y.os := h.2.2.1
  unfold otR
  by_cases c1 : x < 0
  · rw [if_pos c1]
  rw [if_neg c1]
  by_cases c2 : nI Y.os ≤ x
  · rw [if_pos c2]
  rw [if_neg c2]
  by_cases c3 : x < 60
  · exact absurd (by rcases hb with a | a | a; exact absurd a c1; exact absurd (by rw [← e]; exact a) c2; exact absurd c3 a) id
  · rw [if_neg c3]
theorem TIE_ot2 {L : LSt} {Y : RSt} {x : Int32} (h : TIE L Y) (hos : Y.os < 1000000) (h1 : ¬ x < 0) (h2 : ¬ L.oc ≤ x) (h3 : x < 60) : otR Y x = (L.kf x.toNatClampNeg, thF Y 0) := by
  have e : L.oc = nI Y.os := h.2.2.1
  have c2 : ¬ nI Y.os ≤ x := fun g => h2 (by rw [e]; exact g)
  unfold otR
  rw [if_neg h1, if_neg c2, if_pos h3]
  obtain ⟨j, hj, rfl⟩ := nI_of h1
  rw [nI_clamp hj]
  have b1 : j < Y.os := Nat.lt_of_not_le (fun g => c2 ((nI_leI (by omega) hj).mpr g))
  have b2 : j < 60 := (nI_ltI (b := 60) hj (by decide)).mp h3
  rw [h.2.2.2 j b2 b1]
theorem TIE_dk1 {Y : RSt} {x : Int32} (hb : x < 0 ∨ ¬ x < 512) : dkR Y x = (0, thF Y 1) := by
  unfold dkR
  by_cases c1 : x < 0
  · rw [if_pos c1]
  rw [if_neg c1]
  have c2 : ¬ x ≤ 511 := fun g => (hb.resolve_left c1) (Int32.lt_of_le_of_lt g (by decide))
  rw [if_pos c2]
theorem TIE_dk2 {L : LSt} {Y : RSt} {x : Int32} (h : TIE L Y) (h1 : ¬ x < 0) (h2 : x < 512) : dkR Y x = (cellv L.g x, thF Y 0) := by
  obtain ⟨j, hj, rfl⟩ := nI_of h1
  have b : j < 512 := (nI_ltI (b := 512) hj (by decide)).mp h2
  have c2 : ¬ ¬ nI j ≤ 511 := fun g => g ((nI_leI (b := 511) hj (by decide)).mpr (by omega))
  unfold dkR
  rw [if_neg h1, if_neg c2, cellv_in b, nI_clamp hj]
  have e : L.g j = Y.dk j := h.1.2.2.2 j b
  rw [e]
theorem plG_plc (nu : Nat → Int32) (x : Int32) : ∀ f p, (∀ i, i < p → nu i < x) → (∀ i, i < plG nu x f p → nu i < x) ∧ plG nu x f p ≤ p + f ∧ p ≤ plG nu x f p ∧ (plG nu x f p = p + f ∨ ¬ nu (plG nu x f p) < x)
  | 0, p, h => ⟨h, Nat.le_refl _, Nat.le_refl _, Or.inl rfl⟩
  | f + 1, p, h => by
    by_cases c : nu p < x
    · have e : plG nu x (f + 1) p = plG nu x f (p + 1) := if_pos c
      rw [e]
      obtain ⟨a1, a2, a3, a4⟩ := plG_plc nu x f (p + 1) (fun i hi => by
        by_cases d : i = p
        · rw [d]; exact c
        · exact h i (by omega))
      refine ⟨a1, by omega, by omega, ?_⟩
      rcases a4 with a | a
      · exact Or.inl (by omega)
      · exact Or.inr a
    · have e : plG nu x (f + 1) p = p := if_neg c
      rw [e]
      exact ⟨h, by omega, Nat.le_refl _, Or.inr c⟩
theorem plF_plc (nu : Nat → Int32) (n : Nat) (x : Int32) : (∀ i, i < plF nu n x → nu i < x) ∧ plF nu n x ≤ n ∧ (plF nu n x = n ∨ ¬ nu (plF nu n x) < x) := by
  obtain ⟨a, b, _, d⟩ := plG_plc nu x n 0 (fun i hi => absurd hi (by omega))
  unfold plF
  exact ⟨a, by omega, d.imp (fun e => by omega) id⟩
/-! class and reference tied: the next line -/
theorem LN_p {nu le te ln ch : Nat → Int32} {n p : Nat} (h : LN nu le te n ln ch) (hp : p < n) : ∃ l, 1 ≤ l ∧ l < 100 ∧ ¬ ln l = -1 ∧ cnL ln (l - 1) = p ∧ nu p = nI l ∧ le p = ln l := by
  obtain ⟨l, a, b, c, d⟩ := cnL_ex ln 99 p (by rw [← h.1]; exact hp)
  have t := h.2 l a (by omega) c
  rw [d] at t
  exact ⟨l, a, by omega, c, d, t.1, t.2.1⟩
theorem cnL_lt {f : Nat → Int32} {l l' : Nat} (h1 : 1 ≤ l) (h2 : l < l') (h3 : l' < 100) (h : ¬ f l = -1) : cnL f (l - 1) < cnL f (l' - 1) := by
  have a := (cnL_in f h1 (by omega) h).1
  have b := cnL_mono f (j := l) (l' - 1) (by omega)
  omega
theorem nlR_first {f : Nat → Int32} : ∀ g k, k + g = 100 → (∀ l, k ≤ l → l < 100 → ¬ f l = -1 → (∀ l', k ≤ l' → l' < l → f l' = -1) → nlR f g k = nI l) ∧ ((∀ l, k ≤ l → l < 100 → f l = -1) → nlR f g k = -1)
  | 0, k, h => ⟨fun l a b => absurd b (by omega), fun _ => rfl⟩
  | g + 1, k, h => by
    obtain ⟨i1, i2⟩ := nlR_first (f := f) g (k + 1) (by omega)
    by_cases c : f k = -1
    · have e : nlR f (g + 1) k = nlR f g (k + 1) := if_pos c
      rw [e]
      refine ⟨fun l a b d r => ?_, fun r => i2 (fun l a b => r l (by omega) b)⟩
      have : l ≠ k := fun z => d (by rw [z]; exact c)
      exact i1 l (by omega) b d (fun l' x y => r l' (by omega) y)
    · have e : nlR f (g + 1) k = nI k := if_neg c
      rw [e]
      refine ⟨fun l a b d r => ?_, fun r => absurd (r k (Nat.le_refl _) (by omega)) c⟩
      rcases Nat.lt_or_ge k l with z | z
      · exact absurd (r k (Nat.le_refl _) z) c
      · rw [show l = k by omega]
theorem nxS_ge {x : Int32} {l : Nat} (h1 : 1 ≤ l) (h2 : l < 100) : nxS x ≤ nI l ↔ ¬ nI l < x := by
  unfold nxS
  by_cases c : 1 ≤ x
  · rw [if_pos c]
    exact ⟨fun g => Int32.not_lt.mpr g, fun g => Int32.not_lt.mp g⟩
  · rw [if_neg c]
    have a : (1 : Int32) ≤ nI l := (nI_leI (a := 1) (by decide) (by omega)).mpr h1
    exact ⟨fun _ g => c (Int32.le_of_lt (Int32.lt_of_le_of_lt a g)), fun _ => a⟩
theorem TIE_nl {nu le te ln ch : Nat → Int32} {n : Nat} {Y : RSt} (h : LN nu le te n ln ch) (e : Y.ln = ln) : (plF nu n Y.nx < n → ∃ l, 1 ≤ l ∧ l < 100 ∧ ¬ ln l = -1 ∧ cnL ln (l - 1) = plF nu n Y.nx ∧ nlF Y = nI l) ∧ (¬ plF nu n Y.nx < n → nlF Y = -1) := by
  obtain ⟨p1, p2, p3⟩ := plF_plc nu n Y.nx
  unfold nlF
  rw [e]
  generalize plF nu n Y.nx = p at p1 p2 p3
  have lo := nxS_lo Y.nx
  have key : ∀ l, 1 ≤ l → l < 100 → ¬ ln l = -1 → (nu (cnL ln (l - 1)) < Y.nx ↔ ¬ nxS Y.nx ≤ nI l) := fun l a b c => by
    rw [(h.2 l a b c).1, nxS_ge a b]
    exact ⟨fun g z => z g, fun g => Decidable.byContradiction g⟩
  by_cases c0 : 100 ≤ nxS Y.nx
  · rw [if_pos c0]
    refine ⟨fun hp => ?_, fun _ => rfl⟩
    obtain ⟨l, a, b, c, d, e1, _⟩ := LN_p h hp
    have q : nxS Y.nx ≤ nI l := by
      rw [nxS_ge a b, ← e1]
      exact p3.resolve_left (by omega)
    exact absurd (Int32.le_trans c0 q) (fun z => absurd ((nI_leI (a := 100) (by decide) (by omega)).mp z) (by omega))
  · rw [if_neg c0]
    have h0 : ¬ nxS Y.nx < 0 := fun z => lo (Int32.lt_trans z (by decide))
    obtain ⟨k0, hk0, ek⟩ := nI_of2 (M := 99) (n := 99) (by decide) h0 (lt100 c0)
    have hk1 : 1 ≤ k0 := by
      rcases Nat.eq_zero_or_pos k0 with z | z
      · exact absurd (by rw [ek, z]; decide) lo
      · exact z
    rw [ek] at key
    rw [ek, nI_clamp (by omega)]
    have ky : ∀ l, 1 ≤ l → l < 100 → ¬ ln l = -1 → (nu (cnL ln (l - 1)) < Y.nx ↔ l < k0) := fun l a b c => by
      rw [key l a b c, nI_leI (by omega) (by omega)]
      omega
    obtain ⟨f1, f2⟩ := nlR_first (f := ln) (100 - k0) k0 (by omega)
    refine ⟨fun hp => ?_, fun hp => f2 (fun l a b => Decidable.byContradiction (fun c => ?_))⟩
    · obtain ⟨l, a, b, c, d, e1, _⟩ := LN_p h hp
      have t := ky l a b c
      rw [d] at t
      have g1 : ¬ nu p < Y.nx := p3.resolve_left (by omega)
      have g2 : k0 ≤ l := Nat.le_of_not_lt (fun z => g1 (t.mpr z))
      refine ⟨l, a, b, c, d, f1 l g2 b c (fun l' x y => Decidable.byContradiction (fun z => ?_))⟩
      have w := cnL_lt (f := ln) (l := l') (l' := l) (by omega) y b z
      rw [d] at w
      have := (ky l' (by omega) (by omega) z).mp (p1 _ w)
      omega
    · have w : cnL ln (l - 1) < n := by
        rw [h.1]
        have := (cnL_in ln (k := l) (by omega) (by omega) c).2
        omega
      have := (ky l (by omega) b c).mp (p1 _ (by omega))
      omega
/-! class and reference tied: typing, N, C -/
theorem TIE_ke {L : LSt} {Y : RSt} {x : Int32} (h : TIE L Y) : TIE (keF L x) (if 15 ≤ Y.tn then Y else keR Y x) := by
  have e : L.wc = Y.tn := h.2.1.2.2.2.1
  unfold keF
  by_cases c : 15 ≤ Y.tn
  · rw [if_pos c, if_neg (by omega)]
    exact h
  · rw [if_neg c, if_pos (by omega)]
    refine ⟨h.1, ⟨h.2.1.1, h.2.1.2.1, h.2.1.2.2.1, ?_, fun i hi => ?_⟩, h.2.2⟩
    · show L.wc + 1 = Y.tn + 1
      rw [e]
    · have hi : i < Y.tn + 1 := hi
      show upd L.ty L.wc x i = upd Y.tx Y.tn x i
      rw [e]
      by_cases d : i = Y.tn
      · rw [d, pk_us, pk_us]
      · rw [pk_un d, pk_un d]
        exact h.2.1.2.2.2.2 i (by omega)
theorem TIE_rl {L : LSt} {Y : RSt} (h : TIE L Y) : TIE (rlF L) (nxR (lnAll Y (fun _ => -1)) 0) := by
  have l0 : LN L.nu L.le L.te 0 (fun _ => -1) Y.ch := LN_0 _ _ _ _
  exact ⟨h.1, ⟨l0, h.2.1.2.1, rfl, h.2.1.2.2.2⟩, h.2.2⟩
theorem TIE_cl {L : LSt} {Y : RSt} (h : TIE L Y) : TIE (clF L) (clR Y) := by
  refine ⟨h.1, ⟨h.2.1.1, fun _ _ => rfl, rfl, h.2.1.2.2.2⟩, rfl, fun i _ b => ?_⟩
  exact absurd (show i < 0 from b) (Nat.not_lt_zero _)
theorem TIE_tc {L : LSt} {Y : RSt} (h : TIE L Y) : TIE (tcF L) (tnF Y 0) := ⟨h.1, ⟨h.2.1.1, h.2.1.2.1, h.2.1.2.2.1, rfl, fun i hi => absurd (show i < 0 from hi) (Nat.not_lt_zero _)⟩, h.2.2⟩
/-! class and reference tied: a line taken out -/
theorem cnL_rm (f : Nat → Int32) {l : Nat} (hl : 1 ≤ l) : ∀ k, cnL (upd f l (-1)) k + (if k < l then 0 else if f l = -1 then 0 else 1) = cnL f k
  | 0 => by rw [if_pos (by omega)]; rfl
  | k + 1 => by
    have ih := cnL_rm f hl k
    show cnL (upd f l (-1)) k + (if upd f l (-1) (k + 1) = -1 then 0 else 1) + _ = cnL f k + (if f (k + 1) = -1 then 0 else 1)
    by_cases c : k + 1 = l
    · rw [if_pos (show k < l by omega)] at ih
      rw [if_neg (show ¬ k + 1 < l by omega), c, pk_us, if_pos rfl]
      omega
    · rw [pk_un c]
      by_cases d : k + 1 < l
      · rw [if_pos (show k < l by omega)] at ih
        rw [if_pos d]
        omega
      · rw [if_neg (show ¬ k < l by omega)] at ih
        rw [if_neg d]
        omega
theorem plF_at {nu le te ln ch : Nat → Int32} {n l : Nat} (h : LN nu le te n ln ch) (h1 : 1 ≤ l) (h2 : l < 100) (hl : ¬ ln l = -1) : plF nu n (nI l) = cnL ln (l - 1) := by
  have t := h.2 l h1 h2 hl
  have b := (cnL_in ln h1 (by omega) hl).2
  refine (plF_eq ⟨?_, fun i hi => ?_, Or.inr ⟨?_, ?_⟩⟩).symm
  · rw [h.1]; omega
  · obtain ⟨l', a, b', c, d, e1, _⟩ := LN_p h (p := i) (by rw [h.1]; omega)
    rw [e1]
    refine nI_lt ?_ (by omega)
    rcases Nat.lt_or_ge l' l with z | z
    · exact z
    · have := cnL_mono ln (j := l - 1) (l' - 1) (by omega)
      omega
  · rw [h.1]; omega
  · rw [t.1]
    exact nI_nlt (Nat.le_refl _) (by omega)
theorem LN_rm {nu le te ln ch : Nat → Int32} {n l : Nat} (h : LN nu le te n ln ch) (h1 : 1 ≤ l) (h2 : l < 100) (h12 : ∀ l, 1 ≤ l → l < 100 → ¬ ln l = -1 → (ln l).toNatClampNeg ≤ 12) : LN (rmv nu le te n (nI l) (plF nu n (nI l))).2.1 (rmv nu le te n (nI l) (plF nu n (nI l))).2.2.1 (rmv nu le te n (nI l) (plF nu n (nI l))).2.2.2 (rmv nu le te n (nI l) (plF nu n (nI l))).1 (upd ln l (-1)) ch := by
  have rk := cnL_rm ln h1
  unfold rmv
  by_cases c : ln l = -1
  · have e : upd ln l (-1) = ln := by
      funext i
      by_cases d : i = l
      · rw [d, pk_us, c]
      · rw [pk_un d]
    have no : ¬ (plF nu n (nI l) < n ∧ nu (plF nu n (nI l)) = nI l) := fun ⟨a, b⟩ => by
      obtain ⟨l', a1, b1, c1, _, e1, _⟩ := LN_p h a
      have : l' = l := (nI_eq (by omega) (by omega)).mp (e1.symm.trans b)
      exact c1 (by rw [this]; exact c)
    rw [if_neg no, e]
    exact h
  · have t := h.2 l h1 h2 c
    have b := (cnL_in ln h1 (by omega) c)
    rw [plF_at h h1 h2 c]
    have hp : cnL ln (l - 1) < n := by rw [h.1]; omega
    rw [if_pos ⟨hp, t.1⟩]
    have r99 := rk 99
    rw [if_neg (show ¬ 99 < l by omega), if_neg c] at r99
    refine ⟨by show n - 1 = _; rw [h.1]; omega, fun l' a1 a2 a3 => ?_⟩
    have hne : l' ≠ l := fun z => a3 (by rw [z, pk_us])
    rw [pk_un hne] at a3 ⊢
    obtain ⟨t1, t2, t3⟩ := h.2 l' a1 a2 a3
    have b' := (cnL_in ln a1 (by omega) a3).2
    have r' := rk (l' - 1)
    show va_cpy nu nu (cnL ln (l - 1) + 1) (cnL ln (l - 1)) (n - (cnL ln (l - 1) + 1)) (cnL (upd ln l (-1)) (l' - 1)) = nI l' ∧ va_cpy le le (cnL ln (l - 1) + 1) (cnL ln (l - 1)) (n - (cnL ln (l - 1) + 1)) (cnL (upd ln l (-1)) (l' - 1)) = ln l' ∧ ∀ i, i < (ln l').toNatClampNeg → va_cpy te te ((cnL ln (l - 1) + 1) * 12) (cnL ln (l - 1) * 12) ((n - (cnL ln (l - 1) + 1)) * 12) (12 * cnL (upd ln l (-1)) (l' - 1) + i) = ch (12 * l' + i)
    have hd := h12 l' a1 a2 a3
    unfold va_cpy
    rcases Nat.lt_or_ge l' l with z | z
    · rw [if_pos (show l' - 1 < l by omega)] at r'
      have w := cnL_lt (f := ln) a1 z h2 a3
      have r2 : cnL (upd ln l (-1)) (l' - 1) = cnL ln (l' - 1) := by omega
      rw [r2, if_neg (by omega), if_neg (by omega)]
      exact ⟨t1, t2, fun i hi => by rw [if_neg (by omega)]; exact t3 i hi⟩
    · rw [if_neg (show ¬ l' - 1 < l by omega), if_neg c] at r'
      have w := cnL_lt (f := ln) h1 (show l < l' by omega) a2 c
      have r2 : cnL (upd ln l (-1)) (l' - 1) = cnL ln (l' - 1) - 1 := by omega
      have hn := h.1
      rw [r2, if_pos (by omega), if_pos (by omega), show cnL ln (l - 1) + 1 + (cnL ln (l' - 1) - 1 - cnL ln (l - 1)) = cnL ln (l' - 1) by omega]
      exact ⟨t1, t2, fun i hi => by
        rw [if_pos (by omega), show (cnL ln (l - 1) + 1) * 12 + (12 * (cnL ln (l' - 1) - 1) + i - cnL ln (l - 1) * 12) = 12 * cnL ln (l' - 1) + i by omega]
        exact t3 i hi⟩
/-! class and reference tied: a line put in -/
theorem cnL_pu (f : Nat → Int32) {l : Nat} {x : Int32} (hl : 1 ≤ l) (hx : ¬ x = -1) : ∀ k, cnL (upd f l x) k = cnL f k + (if k < l then 0 else if f l = -1 then 1 else 0)
  | 0 => by rw [if_pos (by omega)]; rfl
  | k + 1 => by
    have ih := cnL_pu f hl hx k
    show cnL (upd f l x) k + (if upd f l x (k + 1) = -1 then 0 else 1) = cnL f k + (if f (k + 1) = -1 then 0 else 1) + _
    by_cases c : k + 1 = l
    · rw [if_pos (show k < l by omega)] at ih
      rw [if_neg (show ¬ k + 1 < l by omega), c, pk_us, if_neg hx, ih]
      by_cases d : f l = -1
      · rw [if_pos d, if_pos d]
      · rw [if_neg d, if_neg d]
    · rw [pk_un c, ih]
      by_cases d : k + 1 < l
      · rw [if_pos (show k < l by omega), if_pos d]
        omega
      · rw [if_neg (show ¬ k < l by omega), if_neg d]
        omega
theorem cnL_ne {f : Nat → Int32} {l l' : Nat} (a1 : 1 ≤ l) (a2 : l < 100) (b1 : 1 ≤ l') (b2 : l' < 100) (h : ¬ f l = -1) (h' : ¬ f l' = -1) (hne : l' ≠ l) : cnL f (l' - 1) ≠ cnL f (l - 1) := by
  rcases Nat.lt_or_ge l' l with z | z
  · have := cnL_lt (f := f) b1 z a2 h'
    omega
  · have := cnL_lt (f := f) a1 (show l < l' by omega) b2 h
    omega
theorem LN_put1 {nu le te ln ch ch' f v : Nat → Int32} {n l d fr : Nat} (h : LN nu le te n ln ch) (h1 : 1 ≤ l) (h2 : l < 100) (hl : ¬ ln l = -1) (hd : d ≤ 12) (hv : ∀ i, i < d → f (fr + i) = v i) (hc : ∀ i, i < d → ch' (12 * l + i) = v i) (ho : ∀ l', l' ≠ l → ∀ i, i < 12 → ch' (12 * l' + i) = ch (12 * l' + i)) (h12 : ∀ l, 1 ≤ l → l < 100 → ¬ ln l = -1 → (ln l).toNatClampNeg ≤ 12) : LN (upd nu (cnL ln (l - 1)) (nI l)) (upd le (cnL ln (l - 1)) (nI d)) (va_cpy f te fr (cnL ln (l - 1) * 12) d) n (upd ln l (nI d)) ch' := by
  have nd : ¬ nI d = -1 := fun e => absurd (show nI d < 0 by rw [e]; decide) (nI_pos (by omega))
  have rk := fun k => (cnL_pu ln h1 nd k).trans (by rw [if_neg hl]; split <;> rfl : _ = cnL ln k)
  refine ⟨by rw [rk]; exact h.1, fun l' a1 a2 a3 => ?_⟩
  rw [rk]
  by_cases c : l' = l
  · subst c
    rw [pk_us, pk_us, pk_us, nI_clamp (by omega)]
    refine ⟨rfl, rfl, fun i hi => ?_⟩
    unfold va_cpy
    rw [if_pos (by omega), show fr + (12 * cnL ln (l' - 1) + i - cnL ln (l' - 1) * 12) = fr + i by omega, hv i hi, hc i hi]
  · rw [pk_un c] at a3 ⊢
    have ne := cnL_ne h1 h2 a1 a2 hl a3 c
    obtain ⟨t1, t2, t3⟩ := h.2 l' a1 a2 a3
    have hd' := h12 l' a1 a2 a3
    rw [pk_un ne, pk_un ne]
    refine ⟨t1, t2, fun i hi => ?_⟩
    unfold va_cpy
    rw [if_neg (by omega), ho l' c i (by omega)]
    exact t3 i hi
theorem LN_put2 {nu le te ln ch ch' f v : Nat → Int32} {n l d fr p : Nat} (h : LN nu le te n ln ch) (h1 : 1 ≤ l) (h2 : l < 100) (hl : ln l = -1) (hp : p = cnL ln (l - 1)) (hd : d ≤ 12) (hv : ∀ i, i < d → f (fr + i) = v i) (hc : ∀ i, i < d → ch' (12 * l + i) = v i) (ho : ∀ l', l' ≠ l → ∀ i, i < 12 → ch' (12 * l' + i) = ch (12 * l' + i)) (h12 : ∀ l, 1 ≤ l → l < 100 → ¬ ln l = -1 → (ln l).toNatClampNeg ≤ 12) : LN (upd (va_cpy nu nu p (p + 1) (n - p)) p (nI l)) (upd (va_cpy le le p (p + 1) (n - p)) p (nI d)) (va_cpy f (va_cpy te te (p * 12) ((p + 1) * 12) ((n - p) * 12)) fr (p * 12) d) (n + 1) (upd ln l (nI d)) ch' := by
  have nd : ¬ nI d = -1 := fun e => absurd (show nI d < 0 by rw [e]; decide) (nI_pos (by omega))
  have rk := cnL_pu ln h1 nd
  have r99 := rk 99
  rw [if_neg (show ¬ 99 < l by omega), if_pos hl] at r99
  refine ⟨by rw [r99, h.1], fun l' a1 a2 a3 => ?_⟩
  have r' := rk (l' - 1)
  by_cases c : l' = l
  · subst c
    rw [if_pos (show l' - 1 < l' by omega)] at r'
    have e : cnL (upd ln l' (nI d)) (l' - 1) = p := by omega
    rw [e, pk_us, pk_us, pk_us, nI_clamp (by omega)]
    refine ⟨rfl, rfl, fun i hi => ?_⟩
    unfold va_cpy
    rw [if_pos (by omega), show fr + (12 * p + i - p * 12) = fr + i by omega, hv i hi, hc i hi]
  · rw [pk_un c] at a3 ⊢
    obtain ⟨t1, t2, t3⟩ := h.2 l' a1 a2 a3
    have hd' := h12 l' a1 a2 a3
    have b' := (cnL_in ln a1 (by omega) a3)
    have hn := h.1
    rcases Nat.lt_or_ge l' l with z | z
    · rw [if_pos (show l' - 1 < l by omega)] at r'
      have w := cnL_mono ln (j := l') (l - 1) (by omega)
      have e : cnL (upd ln l (nI d)) (l' - 1) = cnL ln (l' - 1) := by omega
      have lt : cnL ln (l' - 1) < p := by omega
      rw [e, pk_un (by omega), pk_un (by omega)]
      unfold va_cpy
      rw [if_neg (by omega), if_neg (by omega)]
      refine ⟨t1, t2, fun i hi => ?_⟩
      rw [if_neg (by omega), if_neg (by omega), ho l' c i (by omega)]
      exact t3 i hi
    · rw [if_neg (show ¬ l' - 1 < l by omega), if_pos hl] at r'
      have w := cnL_mono ln (j := l - 1) (l' - 1) (by omega)
      have e : cnL (upd ln l (nI d)) (l' - 1) = cnL ln (l' - 1) + 1 := by omega
      have ge : p ≤ cnL ln (l' - 1) := by omega
      rw [e, pk_un (by omega), pk_un (by omega)]
      unfold va_cpy
      rw [if_pos (by omega), if_pos (by omega), show p + (cnL ln (l' - 1) + 1 - (p + 1)) = cnL ln (l' - 1) by omega]
      refine ⟨t1, t2, fun i hi => ?_⟩
      rw [if_neg (by omega), if_pos (by omega), show p * 12 + (12 * (cnL ln (l' - 1) + 1) + i - (p + 1) * 12) = 12 * cnL ln (l' - 1) + i by omega, ho l' c i (by omega)]
      exact t3 i hi
