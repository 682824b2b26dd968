theorem GL_wr {X : RSt} {t : Nat → Int32} {d : Nat} (hd : d ≤ 15) (s : SI X (mkT t d)) (g : GL t d) (hrec : ∀ n, n < 8 → X.dk (16 + 2 * n) = 16 → ∃ f, f < 32 ∧ X.dk (17 + 2 * n) = nI f) : wrP X := by
  intro hc
  have e0 := (s.xsR0 hd).2
  have g0 : ¬ (sR0 X).2.go = 0 := fun e => g (by rw [← e0]; exact e)
  have g2 := sR0_g g0
  have key : ¬ (iW3 X).go = 0 ∧ (hrF X = 82 → ¬ mvr (hrF (iW3 X)) = 0) := by
    rcases hc with e | e
    · rw [st0_W e] at g2
      exact ⟨va_go (go_mk g2), fun e2 => absurd (e.symm.trans e2) (by decide)⟩
    · rw [st0_R e] at g2
      have q := iR4_g (go_mk g2)
      exact ⟨q.1, fun _ => q.2⟩
  have k3 := dg_go (iW3_g key.1)
  obtain ⟨j, hj, ej⟩ := dig8 k3.2.1 k3.2.2
  exact ⟨j, hj, ej, hrec j hj, fun e => vp_in_of (mvr_in (key.2 e)) (by decide)⟩
