/-! pieces, products, values: descent and yard go alike -/
def BDc (tx : Nat → Int32) (en o : Nat) (X : RSt) (r : PR) : Prop := YB o 1 X ∧ (r.2.2 = 0 ∨ ¬ dgt (pk tx en r.2.1) = 0)
def QP (tx : Nat → Int32) (en o : Nat) (X : RSt) (r : PR) : Prop := (r.2.2 = 1 ∧ ∃ Z, YS o 1 X o 0 Z ∧ KP X.sn X.nn X Z ∧ ¬ Z.go = 0 ∧ Z.at1 = r.2.1 ∧ X.at1 < Z.at1 ∧ Z.sn = X.sn ∧ Z.nn = X.nn + 1 ∧ Z.nb X.nn = r.1) ∨ BDc tx en o X r
def QR (tx : Nat → Int32) (en o : Nat) (X : RSt) (r : PR) : Prop := (r.2.2 = 1 ∧ ∃ Z, YS o 1 X o 0 Z ∧ KP X.sn X.nn X Z ∧ ¬ Z.go = 0 ∧ Z.at1 = r.2.1 ∧ X.at1 < Z.at1 ∧ PSb Z X.sn X.nn r.1 ∧ ¬ pk tx en r.2.1 = 42) ∨ BDc tx en o X r
def QV (tx : Nat → Int32) (en o : Nat) (X : RSt) (r : PR) : Prop := (r.2.2 = 1 ∧ ∃ Z, YS o 1 X o 0 Z ∧ KP X.sn X.nn X Z ∧ ¬ Z.go = 0 ∧ Z.at1 = r.2.1 ∧ X.at1 < Z.at1 ∧ VSb Z X.sn X.nn r.1 ∧ ¬ pk tx en r.2.1 = 42 ∧ ¬ pk tx en r.2.1 = 43 ∧ ¬ pk tx en r.2.1 = 45) ∨ BDc tx en o X r
def PM (tx va : Nat → Int32) (en D o : Nat) (X : RSt) : Prop := en ≤ X.at1 + D ∧ X.at1 ≤ en ∧ TT tx en X ∧ VV va X ∧ ¬ X.go = 0 ∧ o + en ≤ X.at1 + 1000
def CP (tx va : Nat → Int32) (en D : Nat) (pc : Nat → Int32 → PR) : Prop := (∀ a, (pc a 0).2.2 = 0) ∧ ∀ o X, PM tx va en D o X → QP tx en o X (pc X.at1 1)
def CQ (tx va : Nat → Int32) (en D : Nat) (pr : Nat → Int32 → PR) : Prop := (∀ a, (pr a 0).2.2 = 0) ∧ ∀ o X, PM tx va en D o X → (X.sn = 0 ∨ lvl (X.sg (X.sn - 1)) < 2) → QR tx en o X (pr X.at1 1)
def CV (tx va : Nat → Int32) (en D : Nat) (V : Nat → Int32 → PR) : Prop := (∀ a, (V a 0).2.2 = 0) ∧ ∀ o X, PM tx va en D o X → (X.sn = 0 ∨ X.sg (X.sn - 1) = 40) → QV tx en o X (V X.at1 1)
theorem prL_bad {pc : Nat → Int32 → PR} {tx : Nat → Int32} {en : Nat} (hp : ∀ a, (pc a 0).2.2 = 0) : ∀ f (q : PR), q.2.2 = 0 → (prL pc tx en f q).2.2 = 0
  | 0, _, h => h
  | f + 1, q, h => by
    show (if ¬ pk tx en q.2.1 = 42 then q else prL pc tx en f (q.1 * (pc (q.2.1 + 1) q.2.2).1, (pc (q.2.1 + 1) q.2.2).2)).2.2 = 0
    by_cases c : pk tx en q.2.1 = 42
    · rw [if_neg (fun g => g c)]
      exact prL_bad hp f _ (by show (pc (q.2.1 + 1) q.2.2).2.2 = 0; rw [h]; exact hp _)
    · rw [if_pos c]; exact h
theorem prL_st {pc : Nat → Int32 → PR} {tx : Nat → Int32} {en : Nat} {q : PR} (h : ¬ pk tx en q.2.1 = 42) : ∀ f, prL pc tx en f q = q
  | 0 => rfl
  | f + 1 => if_pos h
theorem prL_bd {pc : Nat → Int32 → PR} {tx : Nat → Int32} {en o : Nat} {X : RSt} (hp : ∀ a, (pc a 0).2.2 = 0) {q : PR} (h : BDc tx en o X q) (f : Nat) : BDc tx en o X (prL pc tx en f q) := by
  refine ⟨h.1, ?_⟩
  rcases h.2 with e | e
  · exact Or.inl (prL_bad hp f q e)
  · rw [prL_st (dg_ne e (by decide)) f]
    exact Or.inr e
theorem PRL {tx va : Nat → Int32} {en D : Nat} {pc : Nat → Int32 → PR} (hp : CP tx va en D pc) {o : Nat} {X : RSt} (hm : PM tx va en D o X) (hb : X.sn = 0 ∨ lvl (X.sg (X.sn - 1)) < 2) : ∀ f (v : Int32) (Z : RSt), en ≤ Z.at1 + f → YS o 1 X o 0 Z → KP X.sn X.nn X Z → ¬ Z.go = 0 → X.at1 < Z.at1 → PSb Z X.sn X.nn v → QR tx en o X (prL pc tx en f (v, Z.at1, 1))
  | 0, v, Z, hf, y, k, g, lt, ps => by
    have no : ¬ pk tx en Z.at1 = 42 := by rw [pk_end (by omega)]; decide
    exact Or.inl ⟨rfl, Z, y, k, g, rfl, lt, ps, no⟩
  | f + 1, v, Z, hf, y, k, g, lt, ps => by
    by_cases c : pk tx en Z.at1 = 42
    · obtain ⟨hD, hA, hT, hV, hg, ho⟩ := hm
      have hh : hrF Z = 42 := (TT_hr (TT_sm hT k.1)).trans c
      have ltE : Z.at1 < en := pk_ltE (by rw [c]; decide)
      obtain ⟨W, sg, rd⟩ := PS_red ps
      have hb2 : X.sn = 0 ∨ lvl (Z.sg (X.sn - 1)) < lvl 42 := by
        by_cases z : X.sn = 0
        · exact Or.inl z
        · exact Or.inr (by rw [k.2.1 (X.sn - 1) (by omega)]; exact hb.resolve_left z)
      have os := op_st (o := o) hh (by decide) g sg rd trivial hb2
      have e : prL pc tx en (f + 1) (v, Z.at1, 1) = prL pc tx en f (v * (pc (Z.at1 + 1) 1).1, (pc (Z.at1 + 1) 1).2) := if_neg (fun q => q c)
      rw [e]
      revert os
      generalize psF W 42 = Z1
      intro os
      obtain ⟨s1, s2, s3, s4, s5, s6, s7, s8⟩ := os
      have sm1 := k.1.tr s2.1
      have en1 : Z1.en = X.en := sm_en sm1
      have y1 : YS o 1 X o 1 Z1 := y.tr s1 (sm_en k.1)
      have pp := hp.2 o Z1 ⟨by omega, by omega, TT_sm hT sm1, VV_sm hV sm1, s3, by omega⟩
      rw [← s4]
      revert pp
      generalize pc Z1.at1 1 = r
      obtain ⟨r1, r2, r3⟩ := r
      intro pp
      rcases pp with ⟨p1, Z2, p2, p3, p4, p5, p6, p7, p8, p9⟩ | pb
      · have p1 : r3 = 1 := p1
        have p5 : Z2.at1 = r2 := p5
        have p9 : Z2.nb Z1.nn = r1 := p9
        subst p1 p5
        show QR tx en o X (prL pc tx en f (v * r1, Z2.at1, 1))
        refine PRL hp ⟨hD, hA, hT, hV, hg, ho⟩ hb f (v * r1) Z2 (by omega) (y1.tr p2 en1) ((k.tr s2).tr (p3.lo (by omega) (by omega))) p4 (by omega) (Or.inr ⟨p7.trans s5, (p3.2.1 X.sn (by omega)).trans s6, ?_, ?_⟩)
        · rw [p8, s7]
        · rw [p3.2.2 X.nn (by omega), s8, ← s7, p9]
      · have b2 : BDc tx en o X (v * r1, r2, r3) := ⟨y1.bad en1 pb.1, pb.2⟩
        exact Or.inr (prL_bd hp.1 b2 f)
    · rw [prL_st (q := (v, Z.at1, 1)) c (f + 1)]
      exact Or.inl ⟨rfl, Z, y, k, g, rfl, lt, ps, c⟩
theorem CQ_of {tx va : Nat → Int32} {en D : Nat} {pc : Nat → Int32 → PR} (hen : en ≤ 12) (hp : CP tx va en D pc) : CQ tx va en D (fun a g => prL pc tx en 12 (pc a g)) := by
  refine ⟨fun a => prL_bad hp.1 12 _ (hp.1 a), fun o X hm hb => ?_⟩
  have pp := hp.2 o X hm
  show QR tx en o X (prL pc tx en 12 (pc X.at1 1))
  revert pp
  generalize pc X.at1 1 = r
  obtain ⟨r1, r2, r3⟩ := r
  intro pp
  rcases pp with ⟨p1, Z2, p2, p3, p4, p5, p6, p7, p8, p9⟩ | pb
  · have p1 : r3 = 1 := p1
    have p5 : Z2.at1 = r2 := p5
    subst p1 p5
    exact PRL hp hm hb 12 r1 Z2 (by omega) p2 p3 p4 p6 (Or.inl ⟨p7, p8, p9⟩)
  · exact Or.inr (prL_bd hp.1 pb 12)
theorem vlL_bad {pr : Nat → Int32 → PR} {tx : Nat → Int32} {en : Nat} (hp : ∀ a, (pr a 0).2.2 = 0) : ∀ f (q : PR), q.2.2 = 0 → (vlL pr tx en f q).2.2 = 0
  | 0, _, h => h
  | f + 1, q, h => by
    have h2 : (pr (q.2.1 + 1) q.2.2).2.2 = 0 := by rw [h]; exact hp _
    show (if pk tx en q.2.1 = 43 then vlL pr tx en f (q.1 + (pr (q.2.1 + 1) q.2.2).1, (pr (q.2.1 + 1) q.2.2).2) else if ¬ pk tx en q.2.1 = 45 then q else vlL pr tx en f (q.1 - (pr (q.2.1 + 1) q.2.2).1, (pr (q.2.1 + 1) q.2.2).2)).2.2 = 0
    by_cases c : pk tx en q.2.1 = 43
    · rw [if_pos c]
      exact vlL_bad hp f _ h2
    · rw [if_neg c]
      by_cases d : pk tx en q.2.1 = 45
      · rw [if_neg (fun g => g d)]
        exact vlL_bad hp f _ h2
      · rw [if_pos d]; exact h
theorem vlL_st {pr : Nat → Int32 → PR} {tx : Nat → Int32} {en : Nat} {q : PR} (h1 : ¬ pk tx en q.2.1 = 43) (h2 : ¬ pk tx en q.2.1 = 45) : ∀ f, vlL pr tx en f q = q
  | 0 => rfl
  | f + 1 => (if_neg h1).trans (if_pos h2)
theorem vlL_bd {pr : Nat → Int32 → PR} {tx : Nat → Int32} {en o : Nat} {X : RSt} (hp : ∀ a, (pr a 0).2.2 = 0) {q : PR} (h : BDc tx en o X q) (f : Nat) : BDc tx en o X (vlL pr tx en f q) := by
  refine ⟨h.1, ?_⟩
  rcases h.2 with e | e
  · exact Or.inl (vlL_bad hp f q e)
  · rw [vlL_st (dg_ne e (by decide)) (dg_ne e (by decide)) f]
    exact Or.inr e
theorem op43 (x y : Int32) : opF 43 x y = x + y := by
  unfold opF
  rw [if_neg (by decide)]
theorem op45 (x y : Int32) : opF 45 x y = x - y := by
  unfold opF
  rw [if_pos (by decide), if_neg (by decide)]
theorem VLL {tx va : Nat → Int32} {en D : Nat} {pr : Nat → Int32 → PR} (hp : CQ tx va en D pr) {o : Nat} {X : RSt} (hm : PM tx va en D o X) (hb : X.sn = 0 ∨ X.sg (X.sn - 1) = 40) : ∀ f (v : Int32) (Z : RSt), en ≤ Z.at1 + f → YS o 1 X o 0 Z → KP X.sn X.nn X Z → ¬ Z.go = 0 → X.at1 < Z.at1 → VSb Z X.sn X.nn v → ¬ pk tx en Z.at1 = 42 → QV tx en o X (vlL pr tx en f (v, Z.at1, 1))
  | 0, v, Z, hf, y, k, g, lt, vs, n42 => by
    have e : pk tx en Z.at1 = -1 := pk_end (by omega)
    have n43 : ¬ pk tx en Z.at1 = 43 := by rw [e]; decide
    have n45 : ¬ pk tx en Z.at1 = 45 := by rw [e]; decide
    exact Or.inl ⟨rfl, Z, y, k, g, rfl, lt, vs, n42, n43, n45⟩
  | f + 1, v, Z, hf, y, k, g, lt, vs, n42 => by
    have st : ∀ x : Int32, (x = 43 ∨ x = 45) → pk tx en Z.at1 = x → QV tx en o X (vlL pr tx en f (opF x v (pr (Z.at1 + 1) 1).1, (pr (Z.at1 + 1) 1).2)) := by
      intro x hx c
      obtain ⟨hD, hA, hT, hV, hg, ho⟩ := hm
      have hh : hrF Z = x := (TT_hr (TT_sm hT k.1)).trans c
      have lx : lvl x = 1 := by rcases hx with e | e <;> rw [e] <;> decide
      have ltE : Z.at1 < en := pk_ltE (by rw [c]; rcases hx with e | e <;> rw [e] <;> decide)
      obtain ⟨W, sg, rd⟩ := VS_red vs
      have hb2 : X.sn = 0 ∨ lvl (Z.sg (X.sn - 1)) < lvl x := by
        by_cases z : X.sn = 0
        · exact Or.inl z
        · exact Or.inr (by rw [k.2.1 (X.sn - 1) (by omega), hb.resolve_left z, lx]; decide)
      have os := op_st (o := o) hh (by rw [lx]; decide) g sg rd lx hb2
      revert os
      generalize psF W x = Z1
      intro os
      obtain ⟨s1, s2, s3, s4, s5, s6, s7, s8⟩ := os
      have sm1 := k.1.tr s2.1
      have en1 : Z1.en = X.en := sm_en sm1
      have y1 : YS o 1 X o 1 Z1 := y.tr s1 (sm_en k.1)
      have tp : Z1.sn = 0 ∨ lvl (Z1.sg (Z1.sn - 1)) < 2 := Or.inr (by rw [s5, show X.sn + 1 - 1 = X.sn by omega, s6, lx]; decide)
      have pp := hp.2 o Z1 ⟨by omega, by omega, TT_sm hT sm1, VV_sm hV sm1, s3, by omega⟩ tp
      rw [← s4]
      revert pp
      generalize pr Z1.at1 1 = r
      obtain ⟨r1, r2, r3⟩ := r
      intro pp
      rcases pp with ⟨p1, Z2, p2, p3, p4, p5, p6, p7, p8⟩ | pb
      · have p1 : r3 = 1 := p1
        have p5 : Z2.at1 = r2 := p5
        subst p1 p5
        have p7 : PSb Z2 Z1.sn Z1.nn r1 := p7
        rw [s5, s7] at p7
        show QV tx en o X (vlL pr tx en f (opF x v r1, Z2.at1, 1))
        refine VLL hp ⟨hD, hA, hT, hV, hg, ho⟩ hb f (opF x v r1) Z2 (by omega) (y1.tr p2 en1) ((k.tr s2).tr (p3.lo (by omega) (by omega))) p4 (by omega) (Or.inr ⟨x, r1, hx, (p3.2.1 X.sn (by omega)).trans s6, p7, ?_⟩) p8
        rw [p3.2.2 X.nn (by omega), s8]
      · have b2 : BDc tx en o X (opF x v r1, r2, r3) := ⟨y1.bad en1 pb.1, pb.2⟩
        exact Or.inr (vlL_bd hp.1 b2 f)
    by_cases c : pk tx en Z.at1 = 43
    · have e : vlL pr tx en (f + 1) (v, Z.at1, 1) = vlL pr tx en f (v + (pr (Z.at1 + 1) 1).1, (pr (Z.at1 + 1) 1).2) := if_pos c
      have t := st 43 (Or.inl rfl) c
      rw [op43] at t
      rw [e]
      exact t
    · by_cases d : pk tx en Z.at1 = 45
      · have e : vlL pr tx en (f + 1) (v, Z.at1, 1) = vlL pr tx en f (v - (pr (Z.at1 + 1) 1).1, (pr (Z.at1 + 1) 1).2) := (if_neg c).trans (if_neg (fun q => q d))
        have t := st 45 (Or.inr rfl) d
        rw [op45] at t
        rw [e]
        exact t
      · rw [vlL_st (q := (v, Z.at1, 1)) c d (f + 1)]
        exact Or.inl ⟨rfl, Z, y, k, g, rfl, lt, vs, n42, c, d⟩
theorem CV_of {tx va : Nat → Int32} {en D : Nat} {pr : Nat → Int32 → PR} (hen : en ≤ 12) (hp : CQ tx va en D pr) : CV tx va en D (fun a g => vlL pr tx en 12 (pr a g)) := by
  refine ⟨fun a => vlL_bad hp.1 12 _ (hp.1 a), fun o X hm hb => ?_⟩
  have hb2 : X.sn = 0 ∨ lvl (X.sg (X.sn - 1)) < 2 := hb.imp id (fun e => by rw [e]; decide)
  have pp := hp.2 o X hm hb2
  show QV tx en o X (vlL pr tx en 12 (pr X.at1 1))
  revert pp
  generalize pr X.at1 1 = r
  obtain ⟨r1, r2, r3⟩ := r
  intro pp
  rcases pp with ⟨p1, Z2, p2, p3, p4, p5, p6, p7, p8⟩ | pb
  · have p1 : r3 = 1 := p1
    have p5 : Z2.at1 = r2 := p5
    subst p1 p5
    exact VLL hp hm hb 12 r1 Z2 (by omega) p2 p3 p4 p6 (Or.inl p7) p8
  · exact Or.inr (vlL_bd hp.1 pb 12)
