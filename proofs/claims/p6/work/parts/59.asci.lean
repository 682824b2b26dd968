theorem go_mk {a : Int32} {A : RSt} (h : ¬ ((a, A) : Int32 × RSt).2.go = 0) : ¬ A.go = 0 := h
theorem tgo_g {Z : RSt} (h : ¬ tgo Z = 0) : ¬ Z.go = 0 := fun e => h (by unfold tgo; rw [if_pos e])
theorem sR0_g {X : RSt} (h : ¬ (sR0 X).2.go = 0) : ¬ (st0 X).2.go = 0 := by
  unfold sR0 at h
  revert h
  generalize st0 X = w
  intro h
  exact tgo_g h
theorem asB_WR {c d : Int32} (hc : c = 87 ∨ c = 82) : asB c d = 0 := by
  unfold asB
  rcases hc with e | e
  · rw [e, if_pos (by decide)]
  · rw [e, if_pos (by decide)]
theorem st0_W {X : RSt} (e : hrF X = 87) : st0 X = (0, (vaF (iW3 X)).2) := by
  have na : ¬ ¬ asB (hrF X) (bhF X) = 0 := fun q => q (asB_WR (Or.inl e))
  unfold st0
  rw [if_neg na, if_neg (by rw [e]; decide), if_neg (by rw [e]; decide), if_neg (by rw [e]; decide), if_neg (by rw [e]; decide), if_pos e]
theorem st0_R {X : RSt} (e : hrF X = 82) : st0 X = (0, iR4 X) := by
  have na : ¬ ¬ asB (hrF X) (bhF X) = 0 := fun q => q (asB_WR (Or.inr e))
  unfold st0
  rw [if_neg na, if_neg (by rw [e]; decide), if_neg (by rw [e]; decide), if_neg (by rw [e]; decide), if_neg (by rw [e]; decide), if_neg (by rw [e]; decide), if_pos e]
theorem iR4_g {X : RSt} (h : ¬ (iR4 X).go = 0) : ¬ (iW3 X).go = 0 ∧ ¬ mvr (hrF (iW3 X)) = 0 := by
  unfold iR4 at h
  revert h
  generalize iW3 X = M
  intro h
  exact rgo_go (show ¬ rgo M.go (hrF M) = 0 from h)
theorem iW3_g {X : RSt} (h : ¬ (iW3 X).go = 0) : ¬ (dgF (atF X)).2.go = 0 := by
  unfold iW3 iW2 at h
  exact mu_go (x := 44) (va_go (mu_go (x := 44) h))
theorem dig8 {c : Int32} (h1 : ¬ c < 48) (h2 : ¬ 55 < c) : ∃ j : Nat, j < 8 ∧ c - 48 = nI j := by
  have h0 : ¬ c < 0 := fun g => h1 (Int32.lt_trans g (by decide))
  obtain ⟨j, hj, e⟩ := nI_of2 (M := 55) (n := 55) (by decide) h0 (Int32.not_lt.mp h2)
  have h48 : 48 ≤ j := by
    rcases Nat.lt_or_ge j 48 with g | g
    · exact absurd (by rw [e]; exact nI_lt (b := 48) g (by decide)) h1
    · exact g
  refine ⟨j - 48, by omega, ?_⟩
  rw [e]
  exact pk_sub (b := 48) h48
