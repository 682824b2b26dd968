/-! a line entered -/
theorem tn_lc (Z : RSt) (f g : Nat → Int32) : tnF (lcF Z f g) 0 = lcF (tnF Z 0) f g := rfl
theorem tn_la (Z : RSt) (f : Nat → Int32) : tnF (lnAll Z f) 0 = lcF (tnF Z 0) f Z.ch := rfl
theorem TIE_liS {M : LSt} {Y : RSt} {u : PV} (h : TIE M Y) (l : LN u.2.1 u.2.2.1 u.2.2.2 u.1 Y.ln Y.ch) : TIE (liF M u) Y := ⟨h.1, ⟨l, h.2.1.2⟩, h.2.2⟩
theorem mk9 {a : Int32} {N : LSt} {r2 : RSt} (h : TIE N (tnF r2 0)) : ((a, N) : Int32 × LSt).1 = ((a, r2) : Int32 × RSt).1 ∧ TIE ((a, N) : Int32 × LSt).2 (tnF ((a, r2) : Int32 × RSt).2 0) := ⟨rfl, h⟩
theorem sR0_le (X : RSt) : (sR0 X).1 ≤ 0 := by
  have t := st0_1 X
  unfold sR0
  revert t
  generalize st0 X = w
  intro t
  exact t
theorem sR0_go (X : RSt) : (sR0 X).2.go = tgo (st0 X).2 := by
  unfold sR0
  generalize st0 X = w
  rfl
theorem elQ_tr {M : LSt} {Z r2 : RSt} {a d : Nat} (u : RV) (h : TIE M (tnF Z 0)) (s2 : smP (gtF Z 0 a d) r2) : TIE (smU M u) (tnF r2 0) := by
  have s3 : r2 = mix (gtF Z 0 a d) r2 := s2
  rw [s3]
  exact h
theorem TIE_pu {q : Nat} {M : LSt} {Z r2 : RSt} {l a d : Nat} {r1 : Int32} {u : RV} (h : TIE M (tnF Z 0)) (tr : TIE (smU M u) (tnF r2 0)) (ri : RI q Z) (h1 : 1 ≤ l) (h2 : l < 100) (hd1 : 1 ≤ d) (c12 : d ≤ 12) (had : a + d ≤ 15) (hty : ∀ i, i < a + d → M.ty i = Z.tx i) (eln : r2.ln = Z.ln) (ech : r2.ch = Z.ch) (etx : r2.tx = Z.tx) (le0 : r1 ≤ 0) (x2 : ¬ r2.go = 0) : (elP (smU M u) (ptv M.nu M.le M.te M.wn (nI l) 15 M.ty (nI a) (nI d) (plF M.nu M.wn (nI l)))).1 = (liK r2 l a d r1).1 ∧ TIE (elP (smU M u) (ptv M.nu M.le M.te M.wn (nI l) 15 M.ty (nI a) (nI d) (plF M.nu M.wn (nI l)))).2 (tnF (liK r2 l a d r1).2 0) := by
  have n12 : ¬ ¬ nI d ≤ 12 := fun g => g ((nI_leI (b := 12) (by omega) (by decide)).mpr c12)
  have wn : M.wn = cnL Z.ln 99 := h.2.1.1.1
  have big := ri.1.2.1
  have pt := LN_pt (f := M.ty) (w := liT r2 a d) (n0 := 15) (fr := a) (l := l) (d := d) (show LN M.nu M.le M.te M.wn Z.ln Z.ch from h.2.1.1) (by rw [wn]; exact big) h1 h2 hd1 c12 had (by decide) (fun i hi => by
    unfold liT
    rw [if_neg (by omega), etx]
    exact hty (a + i) (by omega)) (RI_12 ri)
  revert pt
  generalize ptv M.nu M.le M.te M.wn (nI l) 15 M.ty (nI a) (nI d) (plF M.nu M.wn (nI l)) = v
  intro pt
  revert tr
  generalize smU M u = N
  intro tr
  have yes : (¬ Z.ln l = -1 ∨ ¬ M.wn = 10) → (elP N v).1 = 0 ∧ TIE (elP N v).2 (tnF (li3 r2 l a d) 0) := fun g => by
    obtain ⟨p1, p2⟩ := pt.1 g
    have ee : elP N v = (0, liF N v.2) := if_neg (by rw [p1]; decide)
    rw [ee]
    unfold li3
    rw [tn_lc, eln, ech]
    exact ⟨rfl, TIE_li tr p2⟩
  unfold liK
  rw [if_neg x2, if_neg n12, if_pos le0, eln]
  by_cases c1 : Z.ln l = -1
  · have nc : ¬ ¬ Z.ln l = -1 := fun g => g c1
    rw [if_neg nc]
    by_cases c2 : M.wn = 10
    · have n10 : ¬ ¬ nI (cnL Z.ln 99) = 10 := fun g => g (by rw [← wn, c2]; rfl)
      rw [if_neg n10, pt.2 c1 c2]
      have ee : elP N (0, M.wn, M.nu, M.le, M.te) = (9, liF N (M.wn, M.nu, M.le, M.te)) := if_pos rfl
      rw [ee]
      have lr : LN M.nu M.le M.te M.wn r2.ln r2.ch := by
        rw [eln, ech]
        exact h.2.1.1
      exact mk9 (TIE_liS (u := (M.wn, M.nu, M.le, M.te)) tr lr)
    · have n10 : ¬ nI (cnL Z.ln 99) = 10 := fun g => c2 (wn.trans ((nI_eq (b := 10) (by omega) (by decide)).mp g))
      rw [if_pos n10]
      exact yes (Or.inr c2)
  · rw [if_pos c1]
    exact yes (Or.inl c1)
theorem liK_b {r2 : RSt} {l a d : Nat} {r1 : Int32} (h : r2.go = 0 ∨ ¬ nI d ≤ 12) : liK r2 l a d r1 = (2, r2) := by
  unfold liK
  by_cases z : r2.go = 0
  · rw [if_pos z]
  · rw [if_neg z, if_pos (h.resolve_left z)]
theorem el_2 {M : LSt} {r2 : RSt} {l a d : Nat} {r1 : Int32} {w : Int32 × LSt} (e : w = (2, M)) (tr : TIE M (tnF r2 0)) (h : r2.go = 0 ∨ ¬ nI d ≤ 12) : w.1 = (liK r2 l a d r1).1 ∧ TIE w.2 (tnF (liK r2 l a d r1).2 0) := by
  rw [e, liK_b h]
  exact mk9 tr
theorem TIE_elQ {q : Nat} {M : LSt} {Z : RSt} {l a d : Nat} (h : TIE M (tnF Z 0)) (ri : RI q Z) (h1 : 1 ≤ l) (h2 : l < 100) (hd1 : 1 ≤ d) (had : a + d ≤ 15) (hty : ∀ i, i < a + d → M.ty i = Z.tx i) : (elQ M (nI l) (nI a) (nI d) (rdU M 15 M.ty (nI a) (nI d))).1 = (liK (sR0 (gtF Z 0 a d)).2 l a d (sR0 (gtF Z 0 a d)).1).1 ∧ TIE (elQ M (nI l) (nI a) (nI d) (rdU M 15 M.ty (nI a) (nI d))).2 (tnF (liK (sR0 (gtF Z 0 a d)).2 l a d (sR0 (gtF Z 0 a d)).1).2 0) := by
  have s2 := sm_sR0 (gtF Z 0 a d)
  have le0 := sR0_le (gtF Z 0 a d)
  have ego := sR0_go (gtF Z 0 a d)
  have fx := sm_fx s2
  have etx0 := sm_tx s2
  by_cases c12 : d ≤ 12
  · have G0 : GDs (va_cpy M.ty M.tx a 0 d) (va_cpy M.va M.tv 0 0 8) d 0 (gtF Z 0 a d) := by
      refine gt_G (fun i hi => ?_) (fun i hi => ?_)
      · rw [if_pos rfl, pk_cpy_in (Nat.zero_le _) (by omega), Nat.sub_zero]
        exact (hty (a + i) (by omega)).symm
      · rw [pk_cpy_in (Nat.zero_le _) (by omega), Nat.sub_zero, Nat.zero_add]
        exact (h.2.1.2.1 i hi).symm
    have st := STM (vr := M.vr) (fi := M.fi) (lf := M.lf) (sg := M.sg) (rt := M.rt) (tg := M.tg) hd1 c12 G0
    have st : (rdA d (rdF (vlD (va_cpy M.ty M.tx a 0 d) (va_cpy M.va M.tv 0 0 8) d 12) (va_cpy M.ty M.tx a 0 d) d (kdT (va_cpy M.ty M.tx a 0 d) d) M.vr M.fi M.lf M.sg M.rt M.tg (atT (kdT (va_cpy M.ty M.tx a 0 d) d)) 1) = 1 ∧ ¬ (sR0 (gtF Z 0 a d)).2.go = 0) ∨ (rdA d (rdF (vlD (va_cpy M.ty M.tx a 0 d) (va_cpy M.va M.tv 0 0 8) d 12) (va_cpy M.ty M.tx a 0 d) d (kdT (va_cpy M.ty M.tx a 0 d) d) M.vr M.fi M.lf M.sg M.rt M.tg (atT (kdT (va_cpy M.ty M.tx a 0 d) d)) 1) = 0 ∧ (sR0 (gtF Z 0 a d)).2.go = 0) := by
      rw [ego]
      exact Or.imp (fun t => ⟨t.1, t.2.1⟩) id st
    rw [rdU_ok hd1 c12 had (by decide)]
    unfold rdG
    clear ego G0
    revert s2 le0 fx etx0 st
    generalize sR0 (gtF Z 0 a d) = r
    generalize rdF (vlD (va_cpy M.ty M.tx a 0 d) (va_cpy M.va M.tv 0 0 8) d 12) (va_cpy M.ty M.tx a 0 d) d (kdT (va_cpy M.ty M.tx a 0 d) d) M.vr M.fi M.lf M.sg M.rt M.tg (atT (kdT (va_cpy M.ty M.tx a 0 d) d)) 1 = u
    generalize kdT (va_cpy M.ty M.tx a 0 d) d = kc
    generalize va_cpy M.ty M.tx a 0 d = T
    generalize va_cpy M.va M.tv 0 0 8 = W
    intro s2 le0 fx etx0 st
    obtain ⟨r1, r2⟩ := r
    have s2 : smP (gtF Z 0 a d) r2 := s2
    have tr := elQ_tr ((kc, u), d, T, W) h s2
    rcases st with ⟨x1, x2⟩ | ⟨x1, x2⟩
    · have x2 : ¬ r2.go = 0 := x2
      rw [x1]
      have e : elQ M (nI l) (nI a) (nI d) (1, ((kc, u), d, T, W)) = elP (smU M ((kc, u), d, T, W)) (ptv M.nu M.le M.te M.wn (nI l) 15 M.ty (nI a) (nI d) (plF M.nu M.wn (nI l))) := if_pos (show ¬ (1 : Int32) = 0 by decide)
      rw [e]
      exact TIE_pu h tr ri h1 h2 hd1 c12 had hty fx.2.1 fx.2.2.1 etx0 le0 x2
    · have x2 : r2.go = 0 := x2
      rw [x1]
      exact el_2 (if_neg (fun g => g rfl) : elQ M (nI l) (nI a) (nI d) (0, ((kc, u), d, T, W)) = (2, smU M ((kc, u), d, T, W))) tr (Or.inl x2)
  · have q0 := rdU_no (L := M) (n0 := 15) (f := M.ty) (fr := nI a) (d := d) (by omega) (by omega)
    have n12 : ¬ nI d ≤ 12 := fun g => c12 ((nI_leI (b := 12) (by omega) (by decide)).mp g)
    clear ego
    revert q0 s2
    generalize rdU M 15 M.ty (nI a) (nI d) = u
    generalize sR0 (gtF Z 0 a d) = r
    intro s2 q0
    obtain ⟨r1, r2⟩ := r
    have s2 : smP (gtF Z 0 a d) r2 := s2
    have tr := elQ_tr u.2 h s2
    exact el_2 (if_neg (fun g => g q0) : elQ M (nI l) (nI a) (nI d) u = (2, smU M u.2)) tr (Or.inr n12)
theorem TIE_el {q : Nat} {L : LSt} {Y : RSt} (h : TIE L Y) (ri : RI q Y) (hn1 : 1 ≤ Y.tn) (hdg : ¬ dgt (Y.tx 0) = 0) : (elF (tcF L) (nI Y.tn)).1 = (liR Y).1 ∧ TIE (elF (tcF L) (nI Y.tn)).2 (tnF (liR Y).2 0) := by
  have hn := ri.1.1
  obtain ⟨a, l, a1, a2, a3, hl, e1, e2, sm, eg, ee⟩ := li_1 h hn1 hn hdg
  have r1 := RI_li1 ri
  rw [ee]
  unfold liR li2
  revert e1 e2 sm eg r1
  generalize li1 Y = w
  intro e1 e2 sm eg r1
  obtain ⟨w1, Z⟩ := w
  have e1 : w1 = nI l := e1
  have e2 : Z.at1 = a := e2
  have sm : smP (gtF Y 0 0 Y.tn) Z := sm
  have r1 : RI q Z := r1
  have eg : Z.go = 0 ↔ l = 0 := eg
  have tn : Z.tn = Y.tn := (sm_fx sm).1
  have etx0 := sm_tx sm
  have etx : Z.tx = Y.tx := etx0
  have tz : TIE (tcF L) (tnF Z 0) := TIE_tc (TIE_sm (TIE_gt 0 0 Y.tn h) sm)
  subst e1
  show (elR (tcF L) (nI Y.tn) (nI a) (nI l)).1 = (if ¬ Z.go = 0 then (if ¬ nI (Z.tn - Z.at1) = 0 then liK (sR0 (gtF Z 0 Z.at1 (Z.tn - Z.at1))).2 (nI l).toNatClampNeg Z.at1 (Z.tn - Z.at1) (sR0 (gtF Z 0 Z.at1 (Z.tn - Z.at1))).1 else (0, lnAll Z (upd Z.ln (nI l).toNatClampNeg (-1)))) else (2, Z)).1 ∧ TIE (elR (tcF L) (nI Y.tn) (nI a) (nI l)).2 (tnF (if ¬ Z.go = 0 then (if ¬ nI (Z.tn - Z.at1) = 0 then liK (sR0 (gtF Z 0 Z.at1 (Z.tn - Z.at1))).2 (nI l).toNatClampNeg Z.at1 (Z.tn - Z.at1) (sR0 (gtF Z 0 Z.at1 (Z.tn - Z.at1))).1 else (0, lnAll Z (upd Z.ln (nI l).toNatClampNeg (-1)))) else (2, Z)).2 0)
  rw [nI_clamp (by omega), e2, tn]
  unfold elR
  by_cases c1 : l = 0
  · have ng : ¬ ¬ Z.go = 0 := fun g => g (eg.mpr c1)
    have nl : ¬ ¬ nI l = 0 := fun g => g (by rw [c1]; rfl)
    rw [if_neg ng, if_neg nl]
    exact ⟨rfl, tz⟩
  · have gz : ¬ Z.go = 0 := fun g => c1 (eg.mp g)
    have nl : ¬ nI l = 0 := fun g => c1 ((nI_eq (b := 0) (by omega) (by decide)).mp g)
    rw [if_pos gz, if_pos nl]
    by_cases c2 : Y.tn = a
    · have n1 : ¬ ¬ nI (Y.tn - a) = 0 := fun g => g (by rw [show Y.tn - a = 0 by omega]; rfl)
      have n2 : ¬ ¬ nI Y.tn = nI a := fun g => g (by rw [c2])
      rw [if_neg n1, if_neg n2]
      exact ⟨rfl, TIE_li (u := rmv (tcF L).nu (tcF L).le (tcF L).te (tcF L).wn (nI l) (plF (tcF L).nu (tcF L).wn (nI l))) tz (LN_rm tz.2.1.1 (by omega) (by omega) (RI_12 r1))⟩
    · have n1 : ¬ nI (Y.tn - a) = 0 := fun g => absurd ((nI_eq (b := 0) (by omega) (by decide)).mp g) (by omega)
      have n2 : ¬ nI Y.tn = nI a := fun g => c2 ((nI_eq (by omega) (by omega)).mp g)
      have e3 : nI Y.tn - nI a = nI (Y.tn - a) := pk_sub a3
      rw [if_pos n1, if_pos n2, e3]
      exact TIE_elQ tz r1 (by omega) (by omega) (by omega) (by omega) (fun i hi => by
        rw [etx]
        exact h.2.1.2.2.2.2 i (by omega))
