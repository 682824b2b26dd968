/-! class and reference tied: format, recovery, the small calls -/
def LN (nu le te : Nat → Int32) (n : Nat) (ln ch : Nat → Int32) : Prop := n = cnL ln 99 ∧ ∀ l, 1 ≤ l → l < 100 → ¬ ln l = -1 → nu (cnL ln (l - 1)) = nI l ∧ le (cnL ln (l - 1)) = ln l ∧ ∀ i, i < (ln l).toNatClampNeg → te (12 * cnL ln (l - 1) + i) = ch (12 * l + i)
def WS (L : LSt) (Y : RSt) : Prop := LN L.nu L.le L.te L.wn Y.ln Y.ch ∧ (∀ i, i < 8 → L.va i = Y.va i) ∧ L.nx = Y.nx ∧ L.wc = Y.tn ∧ ∀ i, i < Y.tn → L.ty i = Y.tx i
def OU (L : LSt) (Y : RSt) : Prop := L.oc = nI Y.os ∧ ∀ i, i < 60 → i < Y.os → L.kf i = Y.ou i
def TIE (L : LSt) (Y : RSt) : Prop := DR (L.ar, L.de, L.wr, L.g) Y ∧ WS L Y ∧ OU L Y
def EM (Z : RSt) : Prop := Z.ln = (fun _ => -1) ∧ Z.va = (fun _ => 0) ∧ Z.nx = 0 ∧ Z.tn = 0
def WK (Y Z : RSt) : Prop := (Z.de = 0 → Z.ln = Y.ln ∧ Z.ch = Y.ch ∧ Z.va = Y.va ∧ Z.nx = Y.nx ∧ Z.tn = Y.tn) ∧ (¬ Z.de = 0 → EM Z) ∧ Z.tx = Y.tx ∧ Z.os = Y.os ∧ Z.ou = Y.ou
theorem WK_rf {Y : RSt} (h : Y.de = 0) : WK Y Y := ⟨fun _ => ⟨rfl, rfl, rfl, rfl, rfl⟩, fun g => absurd h g, rfl, rfl, rfl⟩
theorem WK_ds {Y Z : RSt} (e : Z.tx = Y.tx ∧ Z.os = Y.os ∧ Z.ou = Y.ou) : WK Y (dsF Z) := ⟨fun g => absurd g (ds_de Z), fun _ => ⟨rfl, rfl, rfl, rfl⟩, e.1, e.2.1, e.2.2⟩
theorem WK_dk {Y Z : RSt} (f : Nat → Int32) (h : WK Y Z) : WK Y (dkF (wt1 Z) f) := h
theorem WK.wt {Y Z : RSt} (h : WK Y Z) (n : Nat) (v : Nat → Int32) : WK Y (wtF Z n v) := by
  rcases wt_cases Z n v with ⟨_, e⟩ | ⟨_, e⟩ | ⟨_, e⟩ <;> rw [e]
  · exact h
  · exact WK_ds h.2.2
  · exact WK_dk _ h
theorem WK_ce {Y Z : RSt} (f : Nat → Int32) (h : WK Y Z) : WK Y (ceF Z f) := h
theorem WK_wA {Y : RSt} (h : Y.de = 0) : ∀ k, WK Y (wA Y k)
  | 0 => WK_rf h
  | k + 1 => (WK_wA h k).wt _ _
theorem WK_wB {Y Z : RSt} (h : WK Y Z) : ∀ k, WK Y (wB Z k)
  | 0 => h
  | k + 1 => (WK_wB h k).wt _ _
theorem WK_cm {Y : RSt} (h : Y.de = 0) : WK Y (cm2 Y) := (WK_wB ((WK_wA h Y.my).wt _ _ : WK Y (cm1 Y)) (cm1 Y).my).wt _ _
theorem WK_rp {Y : RSt} (h : Y.de = 0) : ∀ k, WK Y (rpR Y k)
  | 0 => WK_rf h
  | k + 1 => (WK_ce _ (WK_rp h k)).wt _ _
theorem LN_0 (nu le te ch : Nat → Int32) : LN nu le te 0 (fun _ => -1) ch := ⟨(cnL_m1 99).symm, fun l _ _ h => absurd rfl h⟩
theorem WS_em {L : LSt} {Y : RSt} (e : EM Y) (h1 : L.wn = 0) (h2 : L.nx = 0) (h3 : L.wc = 0) (h4 : L.va = fun _ => 0) : WS L Y := by
  obtain ⟨e1, e2, e3, e4⟩ := e
  unfold WS
  rw [e1, e2, e3, e4, h1, h2, h3, h4]
  exact ⟨LN_0 _ _ _ _, fun _ _ => rfl, rfl, rfl, fun i hi => absurd hi (by omega)⟩
theorem WS_wk {L : LSt} {Y Z : RSt} (h : WS L Y) (k : WK Y Z) (hd : Z.de = 0) : WS L Z := by
  obtain ⟨k1, k2, k3, k4, k5⟩ := k.1 hd
  unfold WS
  rw [k1, k2, k3, k4, k5, k.2.2.1]
  exact h
theorem OU_wk {L : LSt} {Y Z : RSt} (h : OU L Y) (k : WK Y Z) : OU L Z := by
  unfold OU
  rw [k.2.2.2.1, k.2.2.2.2]
  exact h
theorem WS_st (L : LSt) (q : DS) (Y : RSt) (h : WS L Y) : WS (stF L q) Y := h
theorem OU_st (L : LSt) (q : DS) (Y : RSt) (h : OU L Y) : OU (stF L q) Y := h
theorem OU_die (L : LSt) (Y : RSt) (h : OU L Y) : OU (dieF L) Y := h
theorem WS_die {L : LSt} {Y : RSt} (e : EM Y) : WS (dieF L) Y := WS_em e rfl rfl rfl rfl
/-! what comes of a run of writes -/
theorem TIE_end {L : LSt} {Y Z : RSt} {r : Int32 × DS} (h : TIE L Y) (k : WK Y Z) (c : CR r Z) : (r.1 = 0 → TIE (dieF (stF L r.2)) Z) ∧ (¬ r.1 = 0 → TIE (stF L r.2) Z) := by
  refine ⟨fun g => ⟨c.1, WS_die (k.2.1 (c.2.mp g)), OU_die _ _ (OU_st _ _ _ (OU_wk h.2.2 k))⟩, fun g => ?_⟩
  have hd : Z.de = 0 := Decidable.byContradiction (fun q => g (c.2.mpr q))
  exact ⟨c.1, WS_st _ _ _ (WS_wk h.2.1 k hd), OU_st _ _ _ (OU_wk h.2.2 k)⟩
theorem TIE_cm {L : LSt} {Y : RSt} {e0 : Nat → Int32} (h : TIE L Y) (hde : Y.de = 0) (hj : L.jt = Y.my) (hm : Y.my ≤ 6) (hro : ∀ i, i < 16 * Y.my → L.ro i = Y.ce i) (hhd : ∀ i, i < 16 → L.hd i = hdS Y i) (hw : ∀ k, k < Y.my → vp_in (Y.wh k) 32) (he0 : ∀ i, i < 16 → e0 i = 0) : (cmtF e0 L).1 = (dnR (cmR Y)).1 ∧ TIE (cmtF e0 L).2 (dnR (cmR Y)).2 := by
  have c := CR_cmt (e0 := e0) h.1 hde hm hro hhd hw he0
  have t := TIE_end h (WK_cm hde) c
  unfold cmtF dnR cmR
  rw [hj]
  revert c t
  generalize cmt L.ro L.hd e0 Y.my (L.ar, L.de, L.wr, L.g) = r
  generalize cm2 Y = M
  intro c t
  by_cases d : r.1 = 0
  · rw [if_pos d]
    refine ⟨?_, t.1 d⟩
    show (7 : Int32) = (if (if ¬ M.de = 0 then (0 : Int32) else 1) = 0 then 7 else 0)
    rw [if_pos (c.2.mp d), if_pos rfl]
  · rw [if_neg d]
    refine ⟨?_, t.2 d⟩
    have hd : M.de = 0 := Decidable.byContradiction (fun q => d (c.2.mpr q))
    show (0 : Int32) = (if (if ¬ M.de = 0 then (0 : Int32) else 1) = 0 then 7 else 0)
    have nd : ¬ ¬ M.de = 0 := fun q => q hd
    rw [if_neg nd, if_neg (show ¬ (1 : Int32) = 0 by decide)]
theorem TIE_th {L : LSt} {Y : RSt} (x : Int32) (h : TIE L Y) : TIE L (thF Y x) := h
theorem TIE_ce {L : LSt} {Y : RSt} (f : Nat → Int32) (h : TIE L Y) : TIE L (ceF Y f) := h
theorem TIE_de {L : LSt} {Y : RSt} (h : TIE L Y) : L.de = Y.de := h.1.2.1
theorem CR_1 {q : DS} {Y : RSt} (h : DR q Y) (hd : Y.de = 0) : CR (1, q) Y := ⟨h, fun g => absurd (show (1 : Int32) = 0 from g) (by decide), fun g => absurd hd g⟩
theorem TIE_fm {L : LSt} {Y : RSt} {e0 e2 : Nat → Int32} (h : TIE L Y) (he0 : ∀ i, i < 16 → e0 i = 0) (he2 : ∀ i, i < 16 → e2 i = hd7 i) : (fmtF e0 e2 L).1 = (fmR Y).1 ∧ TIE (fmtF e0 e2 L).2 (fmR Y).2 := by
  unfold fmtF fmR
  by_cases hd : Y.de = 0
  · rw [if_pos (TIE_de h |>.trans hd), if_pos hd]
    have hA : TIE L (fmA Y) := TIE_ce _ (TIE_th 0 h)
    have dA : (fmA Y).de = 0 := hd
    have ceA : ∀ i, i < 16 → (fmA Y).ce i = hd7 i := fun i hi => fl_all i hi
    unfold fmB
    revert hA dA ceA
    generalize fmA Y = M
    intro hA dA ceA
    have c1 := CR_wr (n0 := 16) (f := e0) (v := fun _ => 0) (n := 2) (a := 0) (by decide) (by decide) (by decide) (fun i hi => by rw [Nat.zero_add]; exact he0 i hi) (CR_1 hA.1 dA)
    have k1 := (WK_rf dA).wt 2 (fun _ => 0)
    have m1 := (wtF_my M 2 (fun _ => 0)).2.2
    revert c1 k1 m1
    generalize wtF M 2 (fun _ => 0) = M1
    intro c1 k1 m1
    have c2 := CR_wr (n0 := 16) (f := e0) (v := fun _ => 0) (n := 1) (a := 0) (by decide) (by decide) (by decide) (fun i hi => by rw [Nat.zero_add]; exact he0 i hi) c1
    have k2 := k1.wt 1 (fun _ => 0)
    have m2 := (wtF_my M1 1 (fun _ => 0)).2.2
    revert c2 k2 m2
    generalize wtF M1 1 (fun _ => 0) = M2
    intro c2 k2 m2
    have c3 := CR_wr (n0 := 16) (f := e2) (v := fun i => M2.ce (0 + i)) (n := 0) (a := 0) (by decide) (by decide) (by decide) (fun i hi => by rw [Nat.zero_add, m2, m1, he2 i hi]; exact (ceA i hi).symm) c2
    have k3 := k2.wt 0 (fun i => M2.ce (0 + i))
    revert c3 k3
    generalize wtF M2 0 (fun i => M2.ce (0 + i)) = M3
    intro c3 k3
    have t := TIE_end hA k3 c3
    have n0 : nI 0 = 0 := rfl
    have n1 : nI 1 = 1 := rfl
    have n2 : nI 2 = 2 := rfl
    have fin : ∀ r : Int32 × DS, CR r M3 → (r.1 = 0 → TIE (dieF (stF L r.2)) M3) ∧ (¬ r.1 = 0 → TIE (stF L r.2) M3) → (if r.1 = 0 then ((7 : Int32), dieF (stF L r.2)) else (0, stF L r.2)).1 = (if M3.de = 0 then (0 : Int32) else 7) ∧ TIE (if r.1 = 0 then ((7 : Int32), dieF (stF L r.2)) else (0, stF L r.2)).2 M3 := by
      intro r c t
      by_cases d : r.1 = 0
      · rw [if_pos d, if_neg (c.2.mp d)]
        exact ⟨rfl, t.1 d⟩
      · have hm : M3.de = 0 := Decidable.byContradiction (fun q => d (c.2.mpr q))
        rw [if_neg d, if_pos hm]
        exact ⟨rfl, t.2 d⟩
    have f3 := fin _ c3 t
    rw [n0, n1, n2] at f3
    have q1 : ¬ ((1 : Int32), ((L.ar, L.de, L.wr, L.g) : DS)).1 = 0 := fun g => absurd (show (1 : Int32) = 0 from g) (by decide)
    rw [if_neg q1] at f3
    refine Eq.mp ?_ f3
    clear f3 fin t c3 c2 c1
    unfold thenW wD
    show _ = ((if (wrD (L.ar, L.de, L.wr, L.g) 16 e0 2 0).1 = 0 then ((7 : Int32), dieF (stF L (wrD (L.ar, L.de, L.wr, L.g) 16 e0 2 0).2)) else if (wrD (wrD (L.ar, L.de, L.wr, L.g) 16 e0 2 0).2 16 e0 1 0).1 = 0 then ((7 : Int32), dieF (stF L (wrD (wrD (L.ar, L.de, L.wr, L.g) 16 e0 2 0).2 16 e0 1 0).2)) else if (wrD (wrD (wrD (L.ar, L.de, L.wr, L.g) 16 e0 2 0).2 16 e0 1 0).2 16 e2 0 0).1 = 0 then ((7 : Int32), dieF (stF L (wrD (wrD (wrD (L.ar, L.de, L.wr, L.g) 16 e0 2 0).2 16 e0 1 0).2 16 e2 0 0).2)) else (0, stF L (wrD (wrD (wrD (L.ar, L.de, L.wr, L.g) 16 e0 2 0).2 16 e0 1 0).2 16 e2 0 0).2)).1 = _ ∧ TIE (if (wrD (L.ar, L.de, L.wr, L.g) 16 e0 2 0).1 = 0 then ((7 : Int32), dieF (stF L (wrD (L.ar, L.de, L.wr, L.g) 16 e0 2 0).2)) else if (wrD (wrD (L.ar, L.de, L.wr, L.g) 16 e0 2 0).2 16 e0 1 0).1 = 0 then ((7 : Int32), dieF (stF L (wrD (wrD (L.ar, L.de, L.wr, L.g) 16 e0 2 0).2 16 e0 1 0).2)) else if (wrD (wrD (wrD (L.ar, L.de, L.wr, L.g) 16 e0 2 0).2 16 e0 1 0).2 16 e2 0 0).1 = 0 then ((7 : Int32), dieF (stF L (wrD (wrD (wrD (L.ar, L.de, L.wr, L.g) 16 e0 2 0).2 16 e0 1 0).2 16 e2 0 0).2)) else (0, stF L (wrD (wrD (wrD (L.ar, L.de, L.wr, L.g) 16 e0 2 0).2 16 e0 1 0).2 16 e2 0 0).2)).2 _)
    have e5 : ((1 : Int32), ((L.ar, L.de, L.wr, L.g) : DS)).2 = (L.ar, L.de, L.wr, L.g) := rfl
    rw [e5]
    generalize wrD (L.ar, L.de, L.wr, L.g) 16 e0 2 0 = r1
    by_cases d1 : r1.1 = 0
    · simp only [if_pos d1]
    · simp only [if_neg d1]
      generalize wrD r1.2 16 e0 1 0 = r2
      by_cases d2 : r2.1 = 0
      · simp only [if_pos d2]
      · simp only [if_neg d2]
  · rw [if_neg (fun g => hd ((TIE_de h).symm.trans g)), if_neg hd]
    exact ⟨rfl, TIE_th 0 h⟩
