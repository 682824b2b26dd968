/-! a piece -/
theorem vrb_m (c : Int32) : vrb c = mvr c := by
  unfold vrb mvr
  by_cases a : c < 65
  · rw [if_pos a, if_pos a]
  · rw [if_neg a, if_neg a]
    have t : (73 ≤ c) ↔ (72 < c) := by
      rw [Int32.le_iff_toInt_le, Int32.lt_iff_toInt_lt]
      have e1 : (73 : Int32).toInt = 73 := by decide
      have e2 : (72 : Int32).toInt = 72 := by decide
      omega
    by_cases b : 72 < c
    · rw [if_pos b, if_pos (t.mpr b)]
    · rw [if_neg b, if_neg (fun g => b (t.mp g))]
theorem KP_pcX {X : RSt} {m : Nat} {g : Int32} {n : Nat} {v : Int32} : KP X.sn X.nn X (pcG (atN X m) g n v) := by
  refine ⟨rfl, fun _ _ => rfl, fun i hi => ?_⟩
  show upd X.nb X.nn v i = X.nb i
  exact pk_un (by omega)
theorem pg_v {g c : Int32} {k : Nat} (hg : ¬ g = 0) (hm : ¬ mvr c = 0) : pgo g c k = 1 := by
  unfold pgo
  rw [if_neg hg, if_pos hm]
theorem pg_d {g c : Int32} {k : Nat} (hg : ¬ g = 0) (hm : mvr c = 0) (h1 : 1 ≤ k) (h2 : k ≤ 5) : pgo g c k = 1 := by
  unfold pgo
  have e1 : ¬ nI k ≤ 0 := fun e => absurd ((nI_leI (b := 0) (by omega) (by decide)).mp e) (by omega)
  have e2 : ¬ 6 ≤ nI k := fun e => absurd ((nI_leI (a := 6) (by decide) (by omega)).mp e) (by omega)
  have nm : ¬ ¬ mvr c = 0 := fun q => q hm
  rw [if_neg hg, if_neg nm, if_neg e1, if_neg e2]
theorem pg_6 {g c : Int32} (hm : mvr c = 0) : pgo g c 6 = 0 := by
  unfold pgo
  have nm : ¬ ¬ mvr c = 0 := fun q => q hm
  by_cases hg : g = 0
  · rw [if_pos hg]
  · rw [if_neg hg, if_neg nm, if_neg (by decide), if_pos (by decide)]
theorem pg_0 {g c : Int32} (hm : mvr c = 0) : pgo g c 0 = 0 := by
  unfold pgo
  have nm : ¬ ¬ mvr c = 0 := fun q => q hm
  by_cases hg : g = 0
  · rw [if_pos hg]
  · rw [if_neg hg, if_neg nm, if_pos (by decide)]
theorem pd_0 {X : RSt} (h : dgt (hrF X) = 0) : pdS 6 (pv0 X) 0 X = (pv0 X, 0, X) := by
  show (if dgt (hrF X) = 0 then (pv0 X, 0, X) else _) = _
  rw [if_pos h]
theorem pc_np {tx va : Nat → Int32} {en D o : Nat} {X : RSt} (val : Option (Nat → Int32 → PR)) (hm : PM tx va en D o X) (h40 : ¬ pk tx en X.at1 = 40) : QP tx en o X (pcF val tx va en X.at1 1) := by
  obtain ⟨hD, hA, hT, hV, hg, ho⟩ := hm
  have hh := TT_hr hT
  have hA' : X.at1 ≤ X.en := by rw [hT.1]; exact hA
  have pn := pi_no (X := X) (by rw [hh]; exact h40)
  unfold pcF
  by_cases d : dgt (pk tx en X.at1) = 0
  · rw [if_pos d, if_neg h40]
    rw [pd_0 (by rw [hh]; exact d), pc2_G] at pn
    unfold variableF
    rw [vrb_m]
    by_cases m : mvr (pk tx en X.at1) = 0
    · rw [if_neg (fun q => q m)]
      refine Or.inr ⟨pc_bad hA' hg pn ?_, Or.inl rfl⟩
      show pgo X.go (hrF X) 0 = 0
      exact pg_0 (by rw [hh]; exact m)
    · rw [if_pos m]
      have lt : X.at1 < en := pk_ltE (mvr_n1 m)
      have hmh : ¬ mvr (hrF X) = 0 := by rw [hh]; exact m
      rw [if_neg hmh] at pn
      refine Or.inl ⟨rfl, pcG (atN X X.at1) (pgo X.go (hrF X) 0) (X.at1 + 1) (pv0 X), ⟨?_, 1, Nat.le_refl _, fun f => vl_pc1 hg pn⟩, KP_pcX, ?_, rfl, Nat.lt_succ_self _, rfl, rfl, ?_⟩
      · show X.at1 + 1 ≤ X.en
        rw [hT.1]; exact lt
      · show ¬ pgo X.go (hrF X) 0 = 0
        rw [pg_v hg hmh]
        decide
      · show upd X.nb X.nn (pv0 X) X.nn = va (pk tx en X.at1 - 65).toNatClampNeg
        rw [pk_us]
        unfold pv0
        rw [if_neg hmh, hh]
        obtain ⟨j, hj, e⟩ := vp_in_of (mvr_in m) (by decide)
        rw [e, nI_clamp (by omega)]
        exact hV j hj
  · rw [if_neg d]
    have m : mvr (pk tx en X.at1) = 0 := Decidable.byContradiction (fun q => d (mvr_dg q))
    have mh : mvr (hrF X) = 0 := by rw [hh]; exact m
    have p0 : pv0 X = 0 := by unfold pv0; rw [if_pos mh]
    have t := dg_pd (tx := tx) (en := en) 5 0 0 X hT
    rw [p0, show pdS 6 0 0 X = pdS (5 + 1) 0 0 X from rfl] at pn
    revert t
    generalize dgN tx en 5 X.at1 0 = r
    obtain ⟨r1, r2⟩ := r
    intro t
    obtain ⟨t1, t2, t3, t4, t5, t6⟩ := t
    have t1 : X.at1 ≤ r2 := t1
    have t2 : r2 ≤ X.at1 + 5 := t2
    have t4 : X.at1 < r2 := t4 d (by decide)
    have t3 : r2 ≤ en := t3 t4
    by_cases q : dgt (pk tx en r2) = 0
    · rw [t5 q, pc2_G, if_pos mh] at pn
      refine Or.inl ⟨rfl, pcG (atN X r2) (pgo X.go (hrF X) (0 + (r2 - X.at1))) (r2 + 0) r1, ⟨?_, 1, ?_, fun f => vl_pc1 hg pn⟩, KP_pcX, ?_, rfl, t4, rfl, rfl, ?_⟩
      · show r2 ≤ X.en
        rw [hT.1]; exact t3
      · show X.at1 + 1 ≤ r2
        omega
      · show ¬ pgo X.go (hrF X) (0 + (r2 - X.at1)) = 0
        rw [pg_d hg mh (by omega) (by omega)]
        decide
      · show upd X.nb X.nn r1 X.nn = r1
        exact pk_us
    · obtain ⟨v', Z, z1, z2⟩ := t6 q
      rw [z1, pc2_G] at pn
      refine Or.inr ⟨pc_bad hA' hg pn ?_, Or.inr q⟩
      show pgo Z.go (hrF X) (0 + 5 + 1) = 0
      exact pg_6 mh
theorem ex_0 {tx : Nat → Int32} {en : Nat} {c : Int32} {a : Nat} : (expF tx en c a 0).2 = 0 := by
  unfold expF
  split <;> rfl
theorem vb_0 {tx : Nat → Int32} {en a : Nat} : (variableF tx en a 0).2.2 = 0 := by
  unfold variableF
  split <;> rfl
theorem pc_0 {tx va : Nat → Int32} {en : Nat} (val : Option (Nat → Int32 → PR)) (hv : ∀ V, val = some V → ∀ a, (V a 0).2.2 = 0) (a : Nat) : (pcF val tx va en a 0).2.2 = 0 := by
  unfold pcF
  by_cases d : dgt (pk tx en a) = 0
  · rw [if_pos d]
    by_cases e : pk tx en a = 40
    · rw [if_pos e]
      cases val with
      | none => rfl
      | some V =>
        show (expF tx en 41 (V (a + 1) 0).2.1 (V (a + 1) 0).2.2).2 = 0
        rw [hv V rfl]
        exact ex_0
    · rw [if_neg e]
      exact vb_0
  · rw [if_neg d]
theorem CP_none {tx va : Nat → Int32} {en : Nat} : CP tx va en 0 (pcF none tx va en) := by
  refine ⟨pc_0 none (fun V e => by cases e), fun o X hm => pc_np none hm ?_⟩
  rw [pk_end (by have := hm.1; omega)]
  decide
theorem lv0 {x : Int32} (h1 : ¬ x = 42) (h2 : ¬ x = 43) (h3 : ¬ x = 45) : lvl x ≤ 0 := by
  unfold lvl
  rw [if_pos h1, if_neg h2, if_pos h3]
  decide
theorem CP_some {tx va : Nat → Int32} {en D : Nat} {V : Nat → Int32 → PR} (hv : CV tx va en D V) : CP tx va en (D + 1) (pcF (some V) tx va en) := by
  refine ⟨pc_0 (some V) (fun V' e => by cases e; exact hv.1), fun o X hm => ?_⟩
  by_cases c : pk tx en X.at1 = 40
  · obtain ⟨hD, hA, hT, hV, hg, ho⟩ := hm
    have hh : hrF X = 40 := (TT_hr hT).trans c
    have lt : X.at1 < en := pk_ltE (by rw [c]; decide)
    have sm0 : smP X (pc1 X) := rfl
    have y0 : YS o 1 X (o + 1) 1 (pc1 X) := ⟨by show X.at1 + 1 ≤ X.en; rw [hT.1]; exact lt, 1, Nat.le_refl _, fun f => vl_pc0 hg (pi_op hh)⟩
    have top : (pc1 X).sg X.sn = 40 := by
      show upd X.sg X.sn 40 X.sn = 40
      exact pk_us
    have pp := hv.2 (o + 1) (pc1 X) ⟨by show en ≤ X.at1 + 1 + D; omega, lt, TT_sm hT sm0, VV_sm hV sm0, hg, by show o + 1 + en ≤ X.at1 + 1 + 1000; omega⟩ (Or.inr (by show (pc1 X).sg (X.sn + 1 - 1) = 40; rw [show X.sn + 1 - 1 = X.sn by omega]; exact top))
    have e : pcF (some V) tx va en X.at1 1 = ((V (X.at1 + 1) 1).1, expF tx en 41 (V (X.at1 + 1) 1).2.1 (V (X.at1 + 1) 1).2.2) := by
      unfold pcF
      rw [if_pos (by rw [c]; decide), if_pos c]
    rw [e]
    have a1 : (pc1 X).at1 = X.at1 + 1 := rfl
    have k0 : ∀ i, i < X.sn → (pc1 X).sg i = X.sg i := fun i hi => by
      show upd X.sg X.sn 40 i = X.sg i
      exact pk_un (by omega)
    have n0 : (pc1 X).nb = X.nb := rfl
    have n1 : (pc1 X).nn = X.nn := rfl
    have s1 : (pc1 X).sn = X.sn + 1 := rfl
    have en0 : (pc1 X).en = X.en := rfl
    have hT0 := TT_sm hT sm0
    rw [a1] at pp
    revert pp
    generalize V (X.at1 + 1) 1 = r
    obtain ⟨r1, r2, r3⟩ := r
    intro pp
    rcases pp with ⟨p1, Z, p2, p3, p4, p5, p6, p7, p8, p9, p10⟩ | pb
    · have p1 : r3 = 1 := p1
      have p5 : Z.at1 = r2 := p5
      subst p1 p5
      have p7 : VSb Z (pc1 X).sn (pc1 X).nn r1 := p7
      rw [s1, n1] at p7
      rw [s1, n1] at p3
      have smZ := sm0.tr p3.1
      have enZ : Z.en = X.en := sm_en smZ
      have hhZ : hrF Z = pk tx en Z.at1 := TT_hr (TT_sm hT smZ)
      have yZ := y0.tr p2 en0
      by_cases q : pk tx en Z.at1 = 41
      · have ltZ : Z.at1 < en := pk_ltE (by rw [q]; decide)
        obtain ⟨W, ⟨w1, w2, w3, w4, w5, w6⟩, rd⟩ := VS_red p7
        have wt : W.sg X.sn = 40 := (w1.2.1 X.sn (by omega)).trans ((p3.2.1 X.sn (by omega)).trans top)
        have er : rdP Z.sn Z = W := by
          obtain ⟨f', _, b⟩ := rd.1 Z.sn (Nat.le_refl _)
          rw [b]
          refine rdP_b ?_
          rw [w4, show X.sn + 1 - 1 = X.sn by omega]
          exact wt
        have ex : expF tx en 41 Z.at1 1 = (Z.at1 + 1, 1) := if_neg (fun g => g q)
        show QP tx en o X (r1, expF tx en 41 Z.at1 1)
        rw [ex]
        have yc : YS (o + 1) 0 Z o 0 (cpF W) := by
          refine ⟨?_, 1, ?_, fun f => ?_⟩
          · show W.at1 + 1 ≤ Z.en
            rw [w2, enZ, hT.1]; exact ltZ
          · show Z.at1 + 1 ≤ W.at1 + 1
            omega
          · rw [vl_cp p4 (hhZ.trans q) (by omega) (by omega), er, show o + 1 - 1 = o by omega]
        refine Or.inl ⟨rfl, cpF W, yZ.tr yc enZ, ⟨(smZ.tr w1.1).tr (sm_cp W), fun i hi => ?_, fun i hi => ?_⟩, ?_, ?_, ?_, ?_, w5, w6⟩
        · exact (w1.2.1 i (by omega)).trans ((p3.2.1 i (by omega)).trans (k0 i hi))
        · exact (w1.2.2 i hi).trans ((p3.2.2 i hi).trans (by rw [n0]))
        · show ¬ W.go = 0
          rw [w3]; exact p4
        · show W.at1 + 1 = Z.at1 + 1
          rw [w2]
        · show X.at1 < W.at1 + 1
          rw [a1] at p6
          omega
        · show W.sn - 1 = X.sn
          omega
      · have ex : expF tx en 41 Z.at1 1 = (Z.at1, 0) := if_pos q
        show QP tx en o X (r1, expF tx en 41 Z.at1 1)
        rw [ex]
        refine Or.inr ⟨yZ.bad enZ (fun f _ => ?_), Or.inl rfl⟩
        rw [vl_st p4 (by rw [hhZ]; exact lv0 p8 p9 p10) (Or.inl (by rw [hhZ]; exact q))]
        exact Or.inr (fun z => absurd ((nI_eq (b := 0) (by omega) (by decide)).mp z) (by omega))
    · refine Or.inr ⟨y0.bad en0 pb.1, Or.inl ?_⟩
      show (expF tx en 41 r2 r3).2 = 0
      rcases pb.2 with z | z
      · have z : r3 = 0 := z
        rw [z]
        exact ex_0
      · have z : ¬ dgt (pk tx en r2) = 0 := z
        unfold expF
        rw [if_pos (dg_ne z (by decide))]
  · exact pc_np (some V) hm c
theorem CV_all {tx va : Nat → Int32} {en : Nat} (hen : en ≤ 12) : ∀ D, CV tx va en D (vlD tx va en D)
  | 0 => CV_of hen (CQ_of hen CP_none)
  | D + 1 => CV_of hen (CQ_of hen (CP_some (CV_all hen D)))
