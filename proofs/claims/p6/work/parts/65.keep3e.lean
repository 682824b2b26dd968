theorem RI_wr {q : Nat} {Y : RSt} (h : RI q Y) (hd : Y.de = 0) {l : Nat} (h1 : 1 ≤ l) (h2 : l < 100) (hn : ¬ Y.ln l = -1) : ∃ d, d ≤ 12 ∧ Y.ln l = nI d ∧ wrP (gtF Y 1 (12 * l) d) := by
  obtain ⟨d, d1, d2, d3⟩ := (h.1.2.2 l h1 h2).resolve_left hn
  refine ⟨d, d1, d2, GL_wr (d := d) (t := fun i => Y.ch (12 * l + i)) (by omega) (GL_of rfl rfl rfl (fun i hi => ?_)) d3 (fun n hn e => ?_)⟩
  · show (if (1 : Int32) = 0 then _ else Y.ch (12 * l + i)) = Y.ch (12 * l + i)
    rw [if_neg (by decide)]
  · obtain ⟨f, f1, f2, f3⟩ := RI_hrec h hd n hn e
    exact ⟨f, f2, f3⟩
def JK (q k : Nat) (Y : RSt) : Prop := RI (q + k) Y ∧ Y.de = 0 ∧ q + k < 1000000
theorem JK_sp {q k : Nat} {Y : RSt} (h : JK q k Y) : SP Y := by
  refine ⟨by have := h.1.2.2; have := h.2.2; omega, fun l hl e => ?_⟩
  rcases nlF_in Y with g | ⟨l', a, b, c, d⟩
  · exact absurd (show nI l < 0 by rw [← e, g]; decide) (nI_pos (by omega))
  · have : l = l' := (nI_eq (by omega) (by omega)).mp (e.symm.trans c)
    subst this
    exact RI_wr h.1 h.2.1 a b d
theorem JK_nx {q k : Nat} {Y : RSt} (h : RI (q + k) Y) (hd : Y.de = 0) (hn : ¬ nlF Y = -1) : RI (q + k + 1) (sN Y (nlF Y).toNatClampNeg).2 ∧ ((sN Y (nlF Y).toNatClampNeg).1 = 0 → (sN Y (nlF Y).toNatClampNeg).2.de = 0) := by
  obtain ⟨l, a, b, c, d⟩ := (nlF_in Y).resolve_left hn
  rw [c, nI_clamp (by omega)]
  obtain ⟨d9, e1, e2, e3⟩ := RI_wr h hd a b d
  unfold sN
  rw [e2, nI_clamp (by omega)]
  have r := RI_st1 (Y := gtF Y 1 (12 * l) d9) (h.fx ⟨rfl, rfl, rfl, rfl, rfl⟩ h.2.2) hd e3 (nI (l + 1))
  have f := tl1_fx (st1 (gtF Y 1 (12 * l) d9) (nI (l + 1))).2.2 (st1 (gtF Y 1 (12 * l) d9) (nI (l + 1))).1 (st1 (gtF Y 1 (12 * l) d9) (nI (l + 1))).2.1
  unfold sR1
  revert r f
  generalize st1 (gtF Y 1 (12 * l) d9) (nI (l + 1)) = w
  intro r f
  exact ⟨r.1.fx f.1 (by rw [f.2]; exact r.1.2.2), fun e => f.1.2.2.2.2.trans (r.2 e)⟩
theorem RI_ssL {q : Nat} : ∀ (f k : Nat) {Y : RSt}, RI (q + k) Y → Y.de = 0 → RI (q + k + f) (ssL f Y).2
  | 0, _, _, h, _ => h
  | f + 1, k, Y, h, hd => by
    unfold ssL
    by_cases c1 : nlF Y = -1
    · rw [if_pos c1]
      exact (h.up (q' := q + k + (f + 1)) (by omega)).fx ⟨rfl, rfl, rfl, rfl, rfl⟩ (by have := h.2.2; show Y.os ≤ q + k + (f + 1); omega)
    · rw [if_neg c1]
      have r := JK_nx h hd c1
      revert r
      generalize sN Y (nlF Y).toNatClampNeg = w
      intro r
      by_cases c2 : w.1 = 0
      · rw [if_pos c2]
        have t := RI_ssL f (k + 1) (Y := w.2) r.1 (r.2 c2)
        rw [show q + (k + 1) + f = q + k + (f + 1) by omega] at t
        exact t
      · rw [if_neg c2]
        exact ri_mk (r.1.up (by omega))
theorem RI_ss {q : Nat} {Y : RSt} (h : RI q Y) (x : Int32) : RI (q + 50) (ssR Y x).2 := by
  unfold ssR
  by_cases c1 : Y.de = 0
  · rw [if_pos c1]
    obtain ⟨j, hj, e⟩ := moR_in x
    rw [e, nI_clamp (by omega)]
    have t := RI_ssL j 0 (Y := thF Y 0) (RI_th h 0) c1
    exact t.up (by omega)
  · rw [if_neg c1]; exact (RI_th h 0).up (by omega)
