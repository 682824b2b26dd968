/-! a line put in or taken out: the whole call -/
theorem plF_no {nu le te ln ch : Nat → Int32} {n l : Nat} (h : LN nu le te n ln ch) (h1 : 1 ≤ l) (h2 : l < 100) (hl : ln l = -1) : plF nu n (nI l) = cnL ln (l - 1) := by
  have le99 := cnL_mono ln (j := l - 1) 99 (by omega)
  refine (plF_eq ⟨by rw [h.1]; exact le99, fun i hi => ?_, ?_⟩).symm
  · obtain ⟨l', a, b', c, d, e1, _⟩ := LN_p h (p := i) (by rw [h.1]; omega)
    rw [e1]
    refine nI_lt ?_ (by omega)
    rcases Nat.lt_or_ge l' l with z | z
    · exact z
    · have := cnL_mono ln (j := l - 1) (l' - 1) (by omega)
      omega
  · rcases Nat.lt_or_ge (cnL ln (l - 1)) n with z | z
    · refine Or.inr ⟨z, ?_⟩
      obtain ⟨l', a, b', c, d, e1, _⟩ := LN_p h z
      rw [e1]
      refine nI_nlt ?_ (by omega)
      rcases Nat.lt_or_ge l' l with y | y
      · have i1 := (cnL_in ln a (by omega) c).1
        have i2 := cnL_mono ln (j := l') (l - 1) (by omega)
        omega
      · exact y
    · exact Or.inl (by rw [h.1] at z ⊢; omega)
theorem num_no {nu le te ln ch : Nat → Int32} {n l p : Nat} (h : LN nu le te n ln ch) (h1 : 1 ≤ l) (h2 : l < 100) (hl : ln l = -1) (hn : n ≤ 10) (hp : p ≤ n) : ¬ numv nu n (nI p) = nI l := by
  intro g
  rcases Nat.lt_or_ge p n with z | z
  · rw [num_p z hn] at g
    obtain ⟨l', a, b', c, d, e1, _⟩ := LN_p h z
    have : l' = l := (nI_eq (by omega) (by omega)).mp (e1.symm.trans g)
    exact c (by rw [this]; exact hl)
  · unfold numv at g
    rw [if_neg (nI_pos (by omega)), if_pos ((nI_leI (by omega) (by omega)).mpr z)] at g
    have : 0 = l := (nI_eq (a := 0) (by decide) (by omega)).mp g
    omega
theorem pt_ok {n0 fr d : Nat} (h : fr + d ≤ n0) (h4 : n0 < 1000) : nI fr ≤ Int32.ofNat n0 - nI d := by
  have e3 : nI n0 - nI d = nI (n0 - d) := pk_sub (by omega)
  show nI fr ≤ nI n0 - nI d
  rw [e3]
  exact (nI_leI (by omega) (by omega)).mpr (by omega)
theorem LN_pt {nu le te ln ch f w : Nat → Int32} {n l d n0 fr : Nat} (h : LN nu le te n ln ch) (hn : n ≤ 10) (h1 : 1 ≤ l) (h2 : l < 100) (hd1 : 1 ≤ d) (hd : d ≤ 12) (hfr : fr + d ≤ n0) (hn0 : n0 < 1000) (hv : ∀ i, i < d → f (fr + i) = w i) (h12 : ∀ l, 1 ≤ l → l < 100 → ¬ ln l = -1 → (ln l).toNatClampNeg ≤ 12) : ((¬ ln l = -1 ∨ ¬ n = 10) → (ptv nu le te n (nI l) n0 f (nI fr) (nI d) (plF nu n (nI l))).1 = 1 ∧ LN (ptv nu le te n (nI l) n0 f (nI fr) (nI d) (plF nu n (nI l))).2.2.1 (ptv nu le te n (nI l) n0 f (nI fr) (nI d) (plF nu n (nI l))).2.2.2.1 (ptv nu le te n (nI l) n0 f (nI fr) (nI d) (plF nu n (nI l))).2.2.2.2 (ptv nu le te n (nI l) n0 f (nI fr) (nI d) (plF nu n (nI l))).2.1 (upd ln l (nI d)) (fl (12 * l) 0 12 w ch)) ∧ (ln l = -1 → n = 10 → ptv nu le te n (nI l) n0 f (nI fr) (nI d) (plF nu n (nI l)) = (0, n, nu, le, te)) := by
  have n1 : ¬ nI d < 1 := fun g => absurd ((nI_ltI (b := 1) (by omega) (by decide)).mp g) (by omega)
  have n2 : ¬ 12 < nI d := fun g => absurd ((nI_ltI (a := 12) (by decide) (by omega)).mp g) (by omega)
  have hc : ∀ i, i < d → fl (12 * l) 0 12 w ch (12 * l + i) = w i := fun i hi => by
    rw [fl12 (by omega), show 12 * l + i - 12 * l = i by omega]
  have ho : ∀ l', l' ≠ l → ∀ i, i < 12 → fl (12 * l) 0 12 w ch (12 * l' + i) = ch (12 * l' + i) := fun l' hl' i hi => fl12o (by omega)
  unfold ptv
  rw [if_neg n1, if_neg n2, if_neg (nI_pos (by omega)), if_pos (pt_ok hfr hn0), nI_clamp (show fr < 2 ^ 31 by omega), nI_clamp (show d < 2 ^ 31 by omega)]
  by_cases c : ln l = -1
  · have ep := plF_no h h1 h2 c
    have nn := num_no (p := plF nu n (nI l)) h h1 h2 c hn (plF_plc nu n (nI l)).2.1
    rw [if_neg nn]
    refine ⟨fun g => ?_, fun _ e => ?_⟩
    · have n10 : ¬ n = 10 := g.resolve_left (fun q => q c)
      have n10' : ¬ nI n = 10 := fun e => n10 ((nI_eq (b := 10) (by omega) (by decide)).mp e)
      rw [if_pos n10']
      exact ⟨rfl, LN_put2 h h1 h2 c ep hd hv hc ho h12⟩
    · have n10' : ¬ ¬ nI n = 10 := fun g => g (by rw [e]; rfl)
      rw [if_neg n10']
  · have ep := plF_at h h1 h2 c
    have t := h.2 l h1 h2 c
    have lt : cnL ln (l - 1) < n := by
      have := (cnL_in ln h1 (by omega) c).2
      rw [h.1]; omega
    rw [ep, num_p lt hn, if_pos t.1]
    exact ⟨fun _ => ⟨rfl, LN_put1 h h1 h2 c hd hv hc ho h12⟩, fun g => absurd g c⟩
theorem RI_12 {q : Nat} {Y : RSt} (h : RI q Y) : ∀ l, 1 ≤ l → l < 100 → ¬ Y.ln l = -1 → (Y.ln l).toNatClampNeg ≤ 12 := fun l a b c => by
  obtain ⟨d, d1, d2, _⟩ := (h.1.2.2 l a b).resolve_left c
  rw [d2, nI_clamp (by omega)]
  exact d1
theorem TIE_li {M : LSt} {Y : RSt} {u : PV} {f g : Nat → Int32} (h : TIE M Y) (l : LN u.2.1 u.2.2.1 u.2.2.2 u.1 f g) : TIE (liF M u) (lcF Y f g) := ⟨h.1, ⟨l, h.2.1.2⟩, h.2.2⟩
theorem st0_1 (X : RSt) : (st0 X).1 ≤ 0 := by
  unfold st0
  repeat' split
  all_goals first | exact (show (0 : Int32) ≤ 0 by decide) | exact (show (-1 : Int32) ≤ 0 by decide)
theorem li_1 {L : LSt} {Y : RSt} (h : TIE L Y) (hn1 : 1 ≤ Y.tn) (hn : Y.tn ≤ 15) (hdg : ¬ dgt (Y.tx 0) = 0) : ∃ a l, 1 ≤ a ∧ a ≤ 2 ∧ a ≤ Y.tn ∧ l ≤ 99 ∧ (li1 Y).1 = nI l ∧ (li1 Y).2.at1 = a ∧ smP (gtF Y 0 0 Y.tn) (li1 Y).2 ∧ ((li1 Y).2.go = 0 ↔ l = 0) ∧ elF (tcF L) (nI Y.tn) = elR (tcF L) (nI Y.tn) (nI a) (nI l) := by
  have G : GDs Y.tx Y.va Y.tn 0 (gtF Y 0 0 Y.tn) := gt_G (fun i _ => by rw [if_pos rfl, Nat.zero_add]) (fun _ _ => rfl)
  have t := ln_dg (tx := Y.tx) (en := Y.tn) 2 0 (gtF Y 0 0 Y.tn) G.2.2.2.1 (Nat.zero_le _)
  rw [show (gtF Y 0 0 Y.tn).at1 = 0 from rfl] at t
  have sm : smP (gtF Y 0 0 Y.tn) (li1 Y).2 := sm_ln _
  obtain ⟨l, hl, el⟩ := lnF_in (gtF Y 0 0 Y.tn)
  have e1 : (li1 Y).1 = (lnS 2 0 (gtF Y 0 0 Y.tn)).1 := rfl
  have e2 : (li1 Y).2 = goF (lnS 2 0 (gtF Y 0 0 Y.tn)).2 (if (lnS 2 0 (gtF Y 0 0 Y.tn)).2.go = 0 then 0 else if (lnS 2 0 (gtF Y 0 0 Y.tn)).1 ≤ 0 then 0 else 1) := rfl
  rw [t.1] at e1 e2
  have el : (li1 Y).1 = nI l := el
  have ty0 : L.ty 0 = Y.tx 0 := h.2.1.2.2.2.2 0 (by omega)
  have z10 : ∀ x : Int32, 10 * 0 + x - 48 = x - 48 := fun x => by
    rw [show (10 : Int32) * 0 = 0 by decide, Int32.zero_add]
  have p0 : pk Y.tx Y.tn 0 = Y.tx 0 := if_pos hn1
  have d2 : dgN Y.tx Y.tn 2 0 0 = if dgt (pk Y.tx Y.tn 1) = 0 then (Y.tx 0 - 48, 1) else (10 * (Y.tx 0 - 48) + pk Y.tx Y.tn 1 - 48, 2) := by
    have s1 : dgN Y.tx Y.tn 2 0 0 = if dgt (pk Y.tx Y.tn 0) = 0 then (0, 0) else dgN Y.tx Y.tn 1 1 (10 * 0 + pk Y.tx Y.tn 0 - 48) := rfl
    rw [s1, p0, if_neg hdg, z10]
    rfl
  have fin : ∀ (N : Int32) (a : Nat), dgN Y.tx Y.tn 2 0 0 = (N, a) → N = nI l ∧ (li1 Y).2.at1 = a ∧ ((li1 Y).2.go = 0 ↔ l = 0) := fun N a e => by
    rw [e] at e1 e2
    have e1 : (li1 Y).1 = N := e1
    have eN : N = nI l := e1.symm.trans el
    have e2 : (li1 Y).2 = goF (atN (gtF Y 0 0 Y.tn) a) (if (1 : Int32) = 0 then 0 else if N ≤ 0 then 0 else 1) := e2
    rw [if_neg (show ¬ (1 : Int32) = 0 by decide), eN] at e2
    refine ⟨eN, by rw [e2]; rfl, ?_⟩
    rw [e2]
    show (if nI l ≤ 0 then (0 : Int32) else 1) = 0 ↔ l = 0
    by_cases z : l = 0
    · rw [z, if_pos (by decide)]
      exact ⟨fun _ => rfl, fun _ => rfl⟩
    · have nz : ¬ nI l ≤ 0 := fun g => absurd ((nI_leI (a := l) (b := 0) (by omega) (by decide)).mp g) (by omega)
      rw [if_neg nz]
      exact ⟨fun g => absurd g (by decide), fun g => absurd g z⟩
  unfold elF
  show ∃ a l, 1 ≤ a ∧ a ≤ 2 ∧ a ≤ Y.tn ∧ l ≤ 99 ∧ (li1 Y).1 = nI l ∧ (li1 Y).2.at1 = a ∧ smP (gtF Y 0 0 Y.tn) (li1 Y).2 ∧ ((li1 Y).2.go = 0 ↔ l = 0) ∧ (if nI Y.tn ≤ 1 then elR (tcF L) (nI Y.tn) 1 (L.ty 0 - 48) else if dgt (L.ty 1) = 0 then elR (tcF L) (nI Y.tn) 1 (L.ty 0 - 48) else elR (tcF L) (nI Y.tn) 2 (10 * (L.ty 0 - 48) + L.ty 1 - 48)) = elR (tcF L) (nI Y.tn) (nI a) (nI l)
  rw [ty0]
  by_cases c : nI Y.tn ≤ 1
  · have tn1 : Y.tn = 1 := by
      have := (nI_leI (b := 1) (by omega) (by decide)).mp c
      omega
    have pk1 : pk Y.tx Y.tn 1 = -1 := pk_end (by omega)
    rw [pk1, if_pos (by decide)] at d2
    obtain ⟨f1, f2, f3⟩ := fin _ _ d2
    refine ⟨1, l, by omega, by omega, by omega, hl, el, f2, sm, f3, ?_⟩
    rw [if_pos c, f1]
    rfl
  · have tn2 : 1 < Y.tn := by
      rcases Nat.lt_or_ge 1 Y.tn with g | g
      · exact g
      · exact absurd ((nI_leI (b := 1) (by omega) (by decide)).mpr g) c
    have pk1 : pk Y.tx Y.tn 1 = Y.tx 1 := if_pos tn2
    have ty1 : L.ty 1 = Y.tx 1 := h.2.1.2.2.2.2 1 tn2
    rw [pk1] at d2
    rw [if_neg c, ty1]
    by_cases c2 : dgt (Y.tx 1) = 0
    · rw [if_pos c2] at d2
      obtain ⟨f1, f2, f3⟩ := fin _ _ d2
      refine ⟨1, l, by omega, by omega, by omega, hl, el, f2, sm, f3, ?_⟩
      rw [if_pos c2, f1]
      rfl
    · rw [if_neg c2] at d2
      obtain ⟨f1, f2, f3⟩ := fin _ _ d2
      refine ⟨2, l, by omega, by omega, by omega, hl, el, f2, sm, f3, ?_⟩
      rw [if_neg c2, f1]
      rfl
