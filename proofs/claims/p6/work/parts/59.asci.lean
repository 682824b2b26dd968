theorem GL_wr {X : RSt} {t : Nat → Int32} {d : Nat} (hd : d ≤ 15) (s : SI X (mkT t d)) (g : GL t d) (hrec : ∀ n, n < 8 → X.dk (16 + 2 * n) = 16 → ∃ f, f < 32 ∧ X.dk (17 + 2 * n) = nI f) : wrP X := by
  intro hc
  have g0 : ¬ (sR0 X).2.go = 0 := by rw [(s.xsR0 hd).2]; exact g
  have g1 : ¬ tgo (st0 X).2 = 0 := g0
  have g2 : ¬ (st0 X).2.go = 0 := fun e => g1 (by unfold tgo; rw [if_pos e])
  have na : asB (hrF X) (bhF X) = 0 := by
    unfold asB
    rw [if_pos (by rcases hc with e | e <;> rw [e] <;> decide)]
  have key : ¬ (iW3 X).go = 0 ∧ (hrF X = 82 → ¬ mvr (hrF (iW3 X)) = 0) := by
    unfold st0 at g2
    rw [if_neg (fun q => q na)] at g2
    rcases hc with e | e
    · rw [e, if_neg (by decide), if_neg (by decide), if_neg (by decide), if_neg (by decide), if_pos rfl] at g2
      exact ⟨va_go g2, fun e2 => absurd (e.symm.trans e2) (by decide)⟩
    · rw [e, if_neg (by decide), if_neg (by decide), if_neg (by decide), if_neg (by decide), if_neg (by decide), if_pos rfl] at g2
      have q : ¬ rgo (iW3 X).go (hrF (iW3 X)) = 0 := g2
      exact ⟨(rgo_go q).1, fun _ => (rgo_go q).2⟩
  have k2 : ¬ (dgF (atF X)).2.go = 0 := mu_go (va_go (mu_go key.1))
  have k3 := dg_go k2
  obtain ⟨j, hj, ej⟩ : ∃ j : Nat, j < 8 ∧ hrF (atF X) = nI (48 + j) := by
    have h0 : ¬ hrF (atF X) < 0 := fun g => k3.2.1 (Int32.lt_trans g (by decide))
    obtain ⟨j, hj, e⟩ := nI_of2 (M := 55) (n := 55) (by decide) h0 (Int32.not_lt.mp k3.2.2)
    have h48 : 48 ≤ j := by
      rcases Nat.lt_or_ge j 48 with g | g
      · exact absurd (by rw [e]; exact nI_lt (b := 48) g (by decide)) k3.2.1
      · exact g
    exact ⟨j - 48, by omega, by rw [e, show 48 + (j - 48) = j by omega]⟩
  refine ⟨j, hj, ?_, hrec j hj, fun e => ?_⟩
  · show hrF (atF X) - 48 = nI j
    rw [ej]
    have e2 : nI (48 + j) - 48 = nI (48 + j - 48) := pk_sub (b := 48) (by omega)
    rw [e2, show 48 + j - 48 = j by omega]
  · exact vp_in_of (mvr_in (key.2 e)) (by decide)
