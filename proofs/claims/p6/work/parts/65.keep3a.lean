/-! what the reference keeps: lines, statements, calls -/
theorem cnL_up (f : Nat → Int32) (l : Nat) (x : Int32) : ∀ k, cnL (upd f l x) k ≤ cnL f k + 1 ∧ (k < l → cnL (upd f l x) k = cnL f k) ∧ (x = -1 ∨ ¬ f l = -1 → cnL (upd f l x) k ≤ cnL f k)
  | 0 => ⟨by show 0 ≤ 0 + 1; omega, fun _ => rfl, fun _ => Nat.le_refl _⟩
  | k + 1 => by
    obtain ⟨a, b, c⟩ := cnL_up f l x k
    have e : cnL (upd f l x) (k + 1) = cnL (upd f l x) k + (if upd f l x (k + 1) = -1 then 0 else 1) := rfl
    have e2 : cnL f (k + 1) = cnL f k + (if f (k + 1) = -1 then 0 else 1) := rfl
    by_cases g : k + 1 = l
    · have hb := b (by omega)
      have hx : (if upd f l x (k + 1) = -1 then 0 else 1) ≤ 1 := by split <;> omega
      refine ⟨by omega, fun h => absurd h (by omega), fun h => ?_⟩
      rw [e, e2, hb]
      rw [g, pk_us]
      rcases h with h | h
      · rw [if_pos h]; omega
      · rw [if_neg h]; split <;> omega
    · rw [pk_un g] at e
      refine ⟨by omega, fun h => ?_, fun h => ?_⟩
      · rw [e, e2, b (by omega)]
      · have := c h; omega
theorem LK_up {f g f' g' : Nat → Int32} {l : Nat} (hf : f' l = f l) (hg : ∀ i, i < 12 → g' (12 * l + i) = g (12 * l + i)) (h : LK f g l) : LK f' g' l := by
  rcases h with h | ⟨d, d1, d2, d3⟩
  · exact Or.inl (by rw [hf]; exact h)
  · exact Or.inr ⟨d, d1, by rw [hf]; exact d2, GL_cg (by omega) (fun i hi => (hg i (by omega)).symm) d3⟩
theorem fl12 {b : Nat} {v f : Nat → Int32} {i : Nat} (h : b ≤ i ∧ i < b + 12) : fl b 0 12 v f i = v (i - b) := by
  unfold fl
  rw [if_pos (by omega)]
theorem fl12o {b : Nat} {v f : Nat → Int32} {i : Nat} (h : i < b ∨ b + 12 ≤ i) : fl b 0 12 v f i = f i := by
  unfold fl
  rw [if_neg (by omega)]
theorem LK_new {f g v : Nat → Int32} {l d : Nat} (hd : d ≤ 12) (gl : GL v d) (h : ∀ l', 1 ≤ l' → l' < 100 → LK f g l') : ∀ l', 1 ≤ l' → l' < 100 → LK (upd f l (nI d)) (fl (12 * l) 0 12 v g) l' := by
  intro l' h1 h2
  by_cases e : l' = l
  · subst e
    refine Or.inr ⟨d, hd, pk_us, GL_cg (by omega) (fun i hi => ?_) gl⟩
    show v i = fl (12 * l') 0 12 v g (12 * l' + i)
    rw [fl12 (by omega), show 12 * l' + i - 12 * l' = i by omega]
  · exact LK_up (pk_un e) (fun i hi => fl12o (by omega)) (h l' h1 h2)
theorem ldN_fx (Y : RSt) (g : Nat → Int32) (a : Nat) : ∀ k, (ldN Y g a k).tn = Y.tn ∧ (ldN Y g a k).de = Y.de ∧ (ldN Y g a k).os = Y.os
  | 0 => ⟨rfl, rfl, rfl⟩
  | k + 1 => ldN_fx Y g a k
theorem ldN_LI (Y : RSt) {g : Nat → Int32} {n f c : Nat} (p : FP g n f c) : ∀ k, k ≤ c → cnL (ldN (lnAll Y (fun _ => -1)) g (16 * f) k).ln 99 ≤ k ∧ ∀ l, 1 ≤ l → l < 100 → LK (ldN (lnAll Y (fun _ => -1)) g (16 * f) k).ln (ldN (lnAll Y (fun _ => -1)) g (16 * f) k).ch l
  | 0, _ => ⟨by show cnL (fun _ => -1) 99 ≤ 0; rw [cnL_m1]; omega, fun l _ _ => Or.inl rfl⟩
  | k + 1, hk => by
    obtain ⟨i1, i2⟩ := ldN_LI Y p k (by omega)
    obtain ⟨l, d, q1, q2, q3, q4, q5⟩ := p.2.2.2.2.2.2.2 k hk
    show cnL (ld1 (ldN (lnAll Y (fun _ => -1)) g (16 * f) k) g (16 * f + 1 + 4 * k)).ln 99 ≤ k + 1 ∧ ∀ l, 1 ≤ l → l < 100 → LK (ld1 (ldN (lnAll Y (fun _ => -1)) g (16 * f) k) g (16 * f + 1 + 4 * k)).ln (ld1 (ldN (lnAll Y (fun _ => -1)) g (16 * f) k) g (16 * f + 1 + 4 * k)).ch l
    revert i1 i2
    generalize ldN (lnAll Y (fun _ => -1)) g (16 * f) k = M
    intro i1 i2
    have e16 : g (16 * f + 1 + 4 * k) / 16 = nI l := by rw [q4]; exact (pk_div (d := 16) (by omega) (by decide) (by decide)).trans (by rw [show (16 * l + d) / 16 = l by omega])
    have e17 : g (16 * f + 1 + 4 * k) - g (16 * f + 1 + 4 * k) / 16 * 16 = nI d := by rw [q4]; exact (pk_rem (d := 16) (by omega) (by decide) (by decide)).trans (by rw [show (16 * l + d) % 16 = d by omega])
    have e : ld1 M g (16 * f + 1 + 4 * k) = lcF M (upd M.ln l (nI d)) (fl (12 * l) 0 12 (chV g (16 * f + 1 + 4 * k)) M.ch) := by
      unfold ld1
      rw [e17, e16, nI_clamp (by omega)]
    rw [e]
    exact ⟨by have := (cnL_up M.ln l (nI d) 99).1; show cnL (upd M.ln l (nI d)) 99 ≤ k + 1; omega, LK_new q3 q5 i2⟩
theorem RI_ld {q : Nat} {Y : RSt} {n : Nat} (h : RI q Y) (hd : Y.de = 0) (hn : n < 8) : RI q (ldR Y n).2 := by
  unfold ldR
  by_cases c1 : Y.dk (16 + 2 * n) = 0
  · rw [if_pos c1]; exact h
  rw [if_neg c1]
  by_cases c2 : Y.dk (16 + 2 * n) = 16
  · rw [if_pos c2]; exact h
  rw [if_neg c2]
  obtain ⟨f, c, p⟩ := RI_rld h hd n hn c1 c2
  have ef : (Y.dk (17 + 2 * n)).toNatClampNeg = f := by rw [p.2.1]; exact nI_clamp (by have := p.2.2.2.2.2.1; omega)
  have ec : (Y.dk (16 * f)).toNatClampNeg = c := by rw [p.2.2.2.2.2.2.1]; exact nI_clamp (by have := p.2.2.2.1; omega)
  rw [ef, ec]
  have li := ldN_LI Y p c (Nat.le_refl _)
  have fx := ldN_fx (lnAll Y (fun _ => -1)) Y.dk (16 * f) c
  have dk := ldN_dk (lnAll Y (fun _ => -1)) Y.dk (16 * f) c
  revert li fx dk
  generalize ldN (lnAll Y (fun _ => -1)) Y.dk (16 * f) c = M
  intro li fx dk
  refine ⟨⟨?_, ?_, li.2⟩, DI_cg (Y := Y) dk fx.2.1 h.2.1, ?_⟩
  · show M.tn ≤ 15
    rw [fx.1]; exact h.1.1
  · show cnL M.ln 99 ≤ 10
    have := p.2.2.2.1
    have := li.1
    omega
  · show M.os ≤ q
    rw [fx.2.2]; exact h.2.2
