/-! a value, whole -/
def TV (tx : Nat → Int32) (en : Nat) (Y : RSt) (r : PR) : Prop := (r.2.2 = 1 ∧ ¬ (vaF Y).2.go = 0 ∧ (vaF Y).2.at1 = r.2.1 ∧ r.2.1 ≤ en ∧ (vaF Y).1 = r.1) ∨ ((vaF Y).2.go = 0 ∧ (r.2.2 = 0 ∨ ¬ dgt (pk tx en r.2.1) = 0))
theorem va2_ok {Y Z : RSt} {v : Int32} (e : vlR 20 0 1 1 (vs0 Y) = (0, Z)) (g : ¬ Z.go = 0) (vs : VSb Z 0 0 v) : ∃ W, va2 Y = W ∧ W.go = 1 ∧ W.at1 = Z.at1 ∧ W.nb 0 = v := by
  have vg : vgo Z.go 0 = 1 := by
    unfold vgo
    have n0 : ¬ ¬ nI 0 = 0 := fun q => q rfl
    rw [if_neg g, if_neg n0]
  have e1 : va1 (0, Z) = goF Z 1 := by
    show goF Z (vgo Z.go 0) = goF Z 1
    rw [vg]
  have vs' : VSb (goF Z 1) 0 0 v := vs
  obtain ⟨W, sg, rd⟩ := VS_red vs'
  obtain ⟨f', _, b⟩ := rd.2.1 (show ¬ (1 : Int32) = 0 by decide) (goF Z 1).sn (Nat.le_refl _)
  refine ⟨W, ?_, sg.2.2.1, sg.2.1, sg.2.2.2.2.2⟩
  unfold va2
  rw [e, e1, b]
  exact rdE_b sg.2.2.2.1
theorem va2_bd {Y : RSt} (b : bdQ (vlR 20 0 1 1 (vs0 Y))) : (va2 Y).go = 0 := by
  unfold va2
  revert b
  generalize vlR 20 0 1 1 (vs0 Y) = q
  intro b
  have e : (va1 q).go = 0 := by
    show vgo q.2.go q.1 = 0
    unfold vgo
    by_cases c : q.2.go = 0
    · rw [if_pos c]
    · rw [if_neg c, if_pos (b.resolve_left c)]
  revert e
  generalize va1 q = A
  intro e
  have t : ∀ n, (rdE n A).go = 0 := fun n => by
    cases n with
    | zero => exact e
    | succ n =>
      show (if A.go = 0 then A else if A.sn = 0 then A else rdE n (reF A)).go = 0
      rw [if_pos e]
      exact e
  exact t _
theorem VT {tx va : Nat → Int32} {en : Nat} {Y : RSt} (hen : en ≤ 12) (hA : Y.at1 ≤ en) (hT : TT tx en Y) (hV : VV va Y) (hg : ¬ Y.go = 0) : TV tx en Y (vlD tx va en 12 Y.at1 1) := by
  have x0 : smP Y (vs0 Y) := rfl
  have q := (CV_all (tx := tx) (va := va) hen 12).2 0 (vs0 Y) ⟨by show en ≤ Y.at1 + 12; omega, hA, TT_sm hT x0, VV_sm hV x0, hg, by show 0 + en ≤ Y.at1 + 1000; omega⟩ (Or.inl rfl)
  have a0 : (vs0 Y).at1 = Y.at1 := rfl
  have n0 : (vs0 Y).en = Y.en := rfl
  have s0 : (vs0 Y).sn = 0 := rfl
  have m0 : (vs0 Y).nn = 0 := rfl
  have hE := hT.1
  rw [a0] at q
  revert q
  generalize vlD tx va en 12 Y.at1 1 = r
  intro q
  rcases q with ⟨q1, Z, y, k, g, ea, lt, vs, n1, n2, n3⟩ | ⟨b1, b2⟩
  · obtain ⟨le, j, hj, hv⟩ := y
    have hz : hrF Z = pk tx en r.2.1 := by rw [← ea]; exact TT_hr (TT_sm (TT_sm hT x0) k.1)
    have eZ : vlR 20 0 1 1 (vs0 Y) = (0, Z) := by
      have t := hv (20 - j)
      rw [show 20 - j + j = 20 by omega] at t
      rw [t]
      exact vl_st g (by rw [hz]; exact lv0 n1 n2 n3) (Or.inr rfl)
    rw [s0, m0] at vs
    obtain ⟨W, w1, w2, w3, w4⟩ := va2_ok eZ g vs
    refine Or.inl ⟨q1, ?_, ?_, ?_, ?_⟩
    · show ¬ (va2 Y).go = 0
      rw [w1, w2]; decide
    · show (va2 Y).at1 = r.2.1
      rw [w1, w3]; exact ea
    · rw [← ea, ← hE, ← n0]; exact le
    · show (if (va2 Y).go = 0 then 0 else (va2 Y).nb 0) = r.1
      rw [w1, w2, if_neg (by decide)]; exact w4
  · exact Or.inr ⟨va2_bd (b1 20 (by show Y.en + 1 - Y.at1 ≤ 20; omega)), b2⟩
theorem V0 {tx va : Nat → Int32} {en : Nat} (hen : en ≤ 12) (a : Nat) : (vlD tx va en 12 a 0).2.2 = 0 := (CV_all (tx := tx) (va := va) hen 12).1 a
