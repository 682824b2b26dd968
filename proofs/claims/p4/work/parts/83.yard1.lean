/-! the yard, step by step -/
def TT (tx : Nat → Int32) (en : Nat) (X : RSt) : Prop := X.en = en ∧ ∀ i, i < en → TX X i = tx i
def VV (va : Nat → Int32) (X : RSt) : Prop := ∀ i, i < 8 → X.va i = va i
theorem TT_hr {tx : Nat → Int32} {en : Nat} {X : RSt} (h : TT tx en X) : hrF X = pk tx en X.at1 := by
  rw [hr_TX, h.1]
  unfold pk
  by_cases g : X.at1 < en
  · rw [if_pos g, if_pos g, h.2 _ g]
  · rw [if_neg g, if_neg g]
theorem TT_sm {tx : Nat → Int32} {en : Nat} {X Z : RSt} (h : TT tx en X) (s : smP X Z) : TT tx en Z := ⟨(sm_en s).trans h.1, fun i hi => (TX_sm s i).trans (h.2 i hi)⟩
theorem sm_vv {Y Z : RSt} (h : smP Y Z) : Z.va = Y.va := (congrArg RSt.va (show Z = mix Y Z from h) : RSt.va Z = RSt.va (mix Y Z))
theorem VV_sm {va : Nat → Int32} {X Z : RSt} (h : VV va X) (s : smP X Z) : VV va Z := fun i hi => by rw [sm_vv s]; exact h i hi
theorem pk_ltE {tx : Nat → Int32} {en a : Nat} (h : ¬ pk tx en a = -1) : a < en := by
  unfold pk at h
  by_cases g : a < en
  · exact g
  · rw [if_neg g] at h
    exact absurd rfl h
theorem pk_end {tx : Nat → Int32} {en a : Nat} (h : en ≤ a) : pk tx en a = -1 := if_neg (by omega)
theorem dg_ne {x c : Int32} (h : ¬ dgt x = 0) (hc : dgt c = 0) : ¬ x = c := fun e => h (by rw [e]; exact hc)
def KP (s n : Nat) (X Z : RSt) : Prop := smP X Z ∧ (∀ i, i < s → Z.sg i = X.sg i) ∧ ∀ i, i < n → Z.nb i = X.nb i
theorem KP.tr {s n : Nat} {X Y Z : RSt} (h : KP s n X Y) (g : KP s n Y Z) : KP s n X Z := ⟨h.1.tr g.1, fun i hi => (g.2.1 i hi).trans (h.2.1 i hi), fun i hi => (g.2.2 i hi).trans (h.2.2 i hi)⟩
theorem KP.lo {s n s' n' : Nat} {X Z : RSt} (h : KP s n X Z) (a : s' ≤ s) (b : n' ≤ n) : KP s' n' X Z := ⟨h.1, fun i hi => h.2.1 i (by omega), fun i hi => h.2.2 i (by omega)⟩
theorem KP_rf (s n : Nat) (X : RSt) : KP s n X X := ⟨sm_rf X, fun _ _ => rfl, fun _ _ => rfl⟩
def YS (o : Nat) (w : Int32) (X : RSt) (o' : Nat) (w' : Int32) (Z : RSt) : Prop := Z.at1 ≤ X.en ∧ ∃ k, X.at1 + k ≤ Z.at1 ∧ ∀ f, vlR (f + k) o w 1 X = vlR f o' w' 1 Z
def bdQ (q : Nat × RSt) : Prop := q.2.go = 0 ∨ ¬ nI q.1 = 0
def YB (o : Nat) (w : Int32) (X : RSt) : Prop := ∀ f, X.en + 1 - X.at1 ≤ f → bdQ (vlR f o w 1 X)
theorem YS.tr {o o' o'' : Nat} {w w' w'' : Int32} {X Y Z : RSt} (h : YS o w X o' w' Y) (g : YS o' w' Y o'' w'' Z) (e : Y.en = X.en) : YS o w X o'' w'' Z := by
  obtain ⟨a1, k, a2, a3⟩ := h
  obtain ⟨b1, j, b2, b3⟩ := g
  refine ⟨by rw [← e]; exact b1, j + k, by omega, fun f => ?_⟩
  rw [← Nat.add_assoc, a3, b3]
theorem YS.bad {o o' : Nat} {w w' : Int32} {X Y : RSt} (h : YS o w X o' w' Y) (e : Y.en = X.en) (g : YB o' w' Y) : YB o w X := fun f hf => by
  obtain ⟨a1, k, a2, a3⟩ := h
  obtain ⟨j, rfl⟩ : ∃ j, f = j + k := ⟨f - k, by omega⟩
  rw [a3]
  exact g j (by omega)
theorem vl_s (f o : Nat) (w m : Int32) (X : RSt) : vlR (f + 1) o w m X = (if m = 0 then (o, X) else if X.go = 0 then (o, X) else if w = 0 then (if lvl (hrF X) ≤ 0 then (if ¬ hrF X = 41 then vlR f o w 0 X else if nI o ≤ 0 then vlR f o w 0 X else vlR f (o - 1) w m (cpF (rdP X.sn X))) else vlR f o 1 m (psF (rdL X.sn (hrF X) X) (hrF X))) else vlR f (if (piR X).1 = 0 then o + 1 else o) (if (piR X).1 = 0 then 1 else 0) m (piR X).2) := rfl
theorem vl_go {f o : Nat} {w : Int32} {X : RSt} (h : X.go = 0) : vlR f o w 1 X = (o, X) := by
  cases f with
  | zero => rfl
  | succ f => rw [vl_s, if_neg (show ¬ (1 : Int32) = 0 by decide), if_pos h]
theorem vl_op {f o : Nat} {X : RSt} (hg : ¬ X.go = 0) (hl : ¬ lvl (hrF X) ≤ 0) : vlR (f + 1) o 0 1 X = vlR f o 1 1 (psF (rdL X.sn (hrF X) X) (hrF X)) := by
  rw [vl_s, if_neg (show ¬ (1 : Int32) = 0 by decide), if_neg hg, if_pos (show (0 : Int32) = 0 from rfl), if_neg hl]
theorem vl_st {f o : Nat} {X : RSt} (hg : ¬ X.go = 0) (hl : lvl (hrF X) ≤ 0) (h : ¬ hrF X = 41 ∨ o = 0) : vlR f o 0 1 X = (o, X) := by
  cases f with
  | zero => rfl
  | succ f =>
    have m0 : vlR f o 0 0 X = (o, X) := by
      cases f with
      | zero => rfl
      | succ f => rw [vl_s, if_pos (show (0 : Int32) = 0 from rfl)]
    rw [vl_s, if_neg (show ¬ (1 : Int32) = 0 by decide), if_neg hg, if_pos (show (0 : Int32) = 0 from rfl), if_pos hl]
    by_cases c : hrF X = 41
    · have nc : ¬ ¬ hrF X = 41 := fun g => g c
      have o0 := h.resolve_left nc
      rw [if_neg nc, if_pos (show nI o ≤ 0 by rw [o0]; decide)]
      exact m0
    · rw [if_pos c]
      exact m0
theorem vl_cp {f o : Nat} {X : RSt} (hg : ¬ X.go = 0) (h : hrF X = 41) (ho : 0 < o) (hb : o < 2 ^ 30) : vlR (f + 1) o 0 1 X = vlR f (o - 1) 0 1 (cpF (rdP X.sn X)) := by
  have n1 : ¬ nI o ≤ 0 := fun g => absurd ((nI_leI (b := 0) (by omega) (by decide)).mp g) (by omega)
  have nh : ¬ ¬ hrF X = 41 := fun g => g h
  rw [vl_s, if_neg (show ¬ (1 : Int32) = 0 by decide), if_neg hg, if_pos (show (0 : Int32) = 0 from rfl), if_pos (show lvl (hrF X) ≤ 0 by rw [h]; decide), if_neg nh, if_neg n1]
theorem vl_pc {f o : Nat} {X : RSt} (hg : ¬ X.go = 0) : vlR (f + 1) o 1 1 X = vlR f (if (piR X).1 = 0 then o + 1 else o) (if (piR X).1 = 0 then 1 else 0) 1 (piR X).2 := by
  rw [vl_s, if_neg (show ¬ (1 : Int32) = 0 by decide), if_neg hg, if_neg (show ¬ (1 : Int32) = 0 by decide)]
theorem vl_pc1 {f o : Nat} {X Z : RSt} (hg : ¬ X.go = 0) (h : piR X = (1, Z)) : vlR (f + 1) o 1 1 X = vlR f o 0 1 Z := by
  rw [vl_pc hg, h]
  show vlR f (if (1 : Int32) = 0 then o + 1 else o) (if (1 : Int32) = 0 then 1 else 0) 1 Z = _
  rw [if_neg (show ¬ (1 : Int32) = 0 by decide), if_neg (show ¬ (1 : Int32) = 0 by decide)]
theorem vl_pc0 {f o : Nat} {X Z : RSt} (hg : ¬ X.go = 0) (h : piR X = (0, Z)) : vlR (f + 1) o 1 1 X = vlR f (o + 1) 1 1 Z := by
  rw [vl_pc hg, h]
  show vlR f (if (0 : Int32) = 0 then o + 1 else o) (if (0 : Int32) = 0 then 1 else 0) 1 Z = _
  rw [if_pos (show (0 : Int32) = 0 from rfl), if_pos (show (0 : Int32) = 0 from rfl)]
theorem pi_op {X : RSt} (h : hrF X = 40) : piR X = (0, pc1 X) := by
  unfold piR
  rw [if_neg (fun g => g h)]
theorem pi_no {X : RSt} (h : ¬ hrF X = 40) : piR X = (1, pc2 (hrF X) (pdS 6 (pv0 X) 0 X)) := by
  unfold piR
  rw [if_pos h]
theorem pc_bad {o : Nat} {X Z : RSt} (hA : X.at1 ≤ X.en) (hg : ¬ X.go = 0) (h : piR X = (1, Z)) (hz : Z.go = 0) : YB o 1 X := fun f hf => by
  obtain ⟨j, rfl⟩ : ∃ j, f = j + 1 := ⟨f - 1, by omega⟩
  rw [vl_pc1 hg h, vl_go hz]
  exact Or.inl hz
theorem dg_pd {tx : Nat → Int32} {en : Nat} : ∀ (f : Nat) (v : Int32) (k : Nat) (X : RSt), TT tx en X → X.at1 ≤ (dgN tx en f X.at1 v).2 ∧ (dgN tx en f X.at1 v).2 ≤ X.at1 + f ∧ (X.at1 < (dgN tx en f X.at1 v).2 → (dgN tx en f X.at1 v).2 ≤ en) ∧ (¬ dgt (pk tx en X.at1) = 0 → 0 < f → X.at1 < (dgN tx en f X.at1 v).2) ∧ (dgt (pk tx en (dgN tx en f X.at1 v).2) = 0 → pdS (f + 1) v k X = ((dgN tx en f X.at1 v).1, k + ((dgN tx en f X.at1 v).2 - X.at1), atN X (dgN tx en f X.at1 v).2)) ∧ (¬ dgt (pk tx en (dgN tx en f X.at1 v).2) = 0 → ∃ v' Z, pdS (f + 1) v k X = (v', k + f + 1, Z) ∧ smP X Z)
  | 0, v, k, X, h => by
    have e : pdS 1 v k X = if dgt (hrF X) = 0 then (v, k, X) else (10 * v + hrF X - 48, k + 1, atF X) := rfl
    have e0 : dgN tx en 0 X.at1 v = (v, X.at1) := rfl
    rw [TT_hr h] at e
    rw [e0]
    refine ⟨Nat.le_refl _, Nat.le_refl _, fun g => absurd g (Nat.lt_irrefl _), fun _ g => absurd g (Nat.lt_irrefl _), fun g => ?_, fun g => ?_⟩
    · have g : dgt (pk tx en X.at1) = 0 := g
      show pdS 1 v k X = (v, k + (X.at1 - X.at1), atN X X.at1)
      rw [e, if_pos g, Nat.sub_self]
      rfl
    · have g : ¬ dgt (pk tx en X.at1) = 0 := g
      exact ⟨_, _, by rw [e, if_neg g], sm_at X⟩
  | f + 1, v, k, X, h => by
    have e : pdS (f + 1 + 1) v k X = if dgt (hrF X) = 0 then (v, k, X) else pdS (f + 1) (10 * v + hrF X - 48) (k + 1) (atF X) := rfl
    have e2 : dgN tx en (f + 1) X.at1 v = if dgt (pk tx en X.at1) = 0 then (v, X.at1) else dgN tx en f (X.at1 + 1) (10 * v + pk tx en X.at1 - 48) := rfl
    rw [TT_hr h] at e
    by_cases g : dgt (pk tx en X.at1) = 0
    · rw [if_pos g] at e e2
      rw [e, e2]
      refine ⟨Nat.le_refl _, by show X.at1 ≤ X.at1 + (f + 1); omega, fun q => absurd q (Nat.lt_irrefl _), fun q => absurd g q, fun _ => ?_, fun q => absurd g q⟩
      show (v, k, X) = (v, k + (X.at1 - X.at1), atN X X.at1)
      rw [Nat.sub_self]
      rfl
    · rw [if_neg g] at e e2
      have ih := dg_pd f (10 * v + pk tx en X.at1 - 48) (k + 1) (atF X) (TT_sm h (sm_at X))
      have a1 : (atF X).at1 = X.at1 + 1 := rfl
      rw [a1] at ih
      rw [e, e2]
      revert ih
      generalize dgN tx en f (X.at1 + 1) (10 * v + pk tx en X.at1 - 48) = r
      intro ih
      obtain ⟨i1, i2, i3, _, i4, i5⟩ := ih
      have lt : X.at1 < en := pk_ltE (dg_n1 g)
      refine ⟨by omega, by omega, fun _ => ?_, fun _ _ => by omega, fun q => ?_, fun q => ?_⟩
      · rcases Nat.lt_or_ge (X.at1 + 1) r.2 with z | z
        · exact i3 z
        · omega
      · rw [i4 q, show k + 1 + (r.2 - (X.at1 + 1)) = k + (r.2 - X.at1) by omega]
        rfl
      · obtain ⟨v', Z, z1, z2⟩ := i5 q
        exact ⟨v', Z, by rw [z1, show k + 1 + f + 1 = k + (f + 1) + 1 by omega], (sm_at X).tr z2⟩
