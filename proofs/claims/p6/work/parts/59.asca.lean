/-! once bad, bad to the end; a good text is of small signs -/
theorem mu_go {Y : RSt} {x : Int32} (h : ¬ (muF Y x).go = 0) : ¬ Y.go = 0 := fun e => h (by
  show andI (taF Y x).2.go (taF Y x).1 = 0
  have e2 : (taF Y x).2.go = Y.go := by unfold taF; split <;> rfl
  unfold andI
  rw [e2, if_pos e])
theorem mu_in {Y : RSt} {x : Int32} (h : ¬ (muF Y x).go = 0) : hrF Y = x := Decidable.byContradiction (fun e => h (by
  show andI (taF Y x).2.go (taF Y x).1 = 0
  unfold taF andI
  rw [if_neg e]
  show (if Y.go = 0 then (0 : Int32) else if (0 : Int32) = 0 then 0 else 1) = 0
  split <;> rfl))
theorem dg_go {Y : RSt} (h : ¬ (dgF Y).2.go = 0) : ¬ Y.go = 0 ∧ ¬ hrF Y < 48 ∧ ¬ 55 < hrF Y := by
  have h : ¬ (if Y.go = 0 then (0 : Int32) else if hrF Y < 48 then 0 else if 55 < hrF Y then 0 else 1) = 0 := h
  refine ⟨fun e => h (by rw [if_pos e]), fun e => h ?_, fun e => h ?_⟩
  · rw [if_pos e]; split <;> rfl
  · rw [if_pos e]; split
    · rfl
    · split <;> rfl
theorem lnS_go : ∀ (f : Nat) (n : Int32) (Y : RSt), (lnS f n Y).2.go = Y.go
  | 0, _, _ => rfl
  | f + 1, n, Y => by
    unfold lnS
    split
    · rfl
    · exact lnS_go f _ _
theorem ln_go {Y : RSt} (h : ¬ (lnF Y).2.go = 0) : ¬ Y.go = 0 := fun e => h (by
  show (if (lnS 2 0 Y).2.go = 0 then (0 : Int32) else if (lnS 2 0 Y).1 ≤ 0 then 0 else 1) = 0
  rw [lnS_go, if_pos e])
theorem va_bad {Y : RSt} (h : Y.go = 0) : (vaF Y).2.go = 0 ∧ (vaF Y).2.at1 = Y.at1 := by
  have e1 : vlR 20 0 1 1 (vs0 Y) = (0, vs0 Y) := by
    unfold vlR
    rw [if_neg (by decide), if_pos (show (vs0 Y).go = 0 from h)]
  have e2 : va1 (vlR 20 0 1 1 (vs0 Y)) = goF (vs0 Y) 0 := by
    rw [e1]
    show goF (vs0 Y) (vgo (vs0 Y).go 0) = _
    unfold vgo
    rw [if_pos (show (vs0 Y).go = 0 from h)]
  unfold vaF va2
  rw [e2]
  exact ⟨rfl, rfl⟩
theorem va_go {Y : RSt} (h : ¬ (vaF Y).2.go = 0) : ¬ Y.go = 0 := fun e => h (va_bad e).1
