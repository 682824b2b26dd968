/-! what the reference keeps: lines, statements, calls -/
theorem cnL_up (f : Nat → Int32) (l : Nat) (x : Int32) : ∀ k, cnL (upd f l x) k ≤ cnL f k + 1 ∧ (k < l → cnL (upd f l x) k = cnL f k) ∧ (x = -1 ∨ ¬ f l = -1 → cnL (upd f l x) k ≤ cnL f k)
  | 0 => ⟨by show 0 ≤ 0 + 1; omega, fun _ => rfl, fun _ => Nat.le_refl _⟩
  | k + 1 => by
    obtain ⟨a, b, c⟩ := cnL_up f l x k
    have e : cnL (upd f l x) (k + 1) = cnL (upd f l x) k + (if upd f l x (k + 1) = -1 then 0 else 1) := rfl
    have e2 : cnL f (k + 1) = cnL f k + (if f (k + 1) = -1 then 0 else 1) := rfl
    by_cases g : k + 1 = l
    · have hb := b (by omega)
      have hx : (if upd f l x (k + 1) = -1 then 0 else 1) ≤ 1 := by split <;> omega
      refine ⟨by omega, fun h => absurd h (by omega), fun h => ?_⟩
      rw [e, e2, hb]
      rw [g, pk_us]
      rcases h with h | h
      · rw [if_pos h]; omega
      · rw [if_neg h]; split <;> omega
    · rw [pk_un g] at e
      refine ⟨by omega, fun h => ?_, fun h => ?_⟩
      · rw [e, e2, b (by omega)]
      · have := c h; omega
theorem LK_up {f g f' g' : Nat → Int32} {l : Nat} (hf : f' l = f l) (hg : ∀ i, i < 12 → g' (12 * l + i) = g (12 * l + i)) (h : LK f g l) : LK f' g' l := by
  rcases h with h | ⟨d, d1, d2, d3⟩
  · exact Or.inl (by rw [hf]; exact h)
  · exact Or.inr ⟨d, d1, by rw [hf]; exact d2, GL_cg (by omega) (fun i hi => (hg i (by omega)).symm) d3⟩
theorem fl12 {b : Nat} {v f : Nat → Int32} {i : Nat} (h : b ≤ i ∧ i < b + 12) : fl b 0 12 v f i = v (i - b) := by
  unfold fl
  rw [if_pos (by omega)]
theorem fl12o {b : Nat} {v f : Nat → Int32} {i : Nat} (h : i < b ∨ b + 12 ≤ i) : fl b 0 12 v f i = f i := by
  unfold fl
  rw [if_neg (by omega)]
theorem LK_new {f g v : Nat → Int32} {l d : Nat} (hd : d ≤ 12) (gl : GL v d) (h : ∀ l', 1 ≤ l' → l' < 100 → LK f g l') : ∀ l', 1 ≤ l' → l' < 100 → LK (upd f l (nI d)) (fl (12 * l) 0 12 v g) l' := by
  intro l' h1 h2
  by_cases e : l' = l
  · subst e
    refine Or.inr ⟨d, hd, pk_us, GL_cg (by omega) (fun i hi => ?_) gl⟩
    show v i = fl (12 * l') 0 12 v g (12 * l' + i)
    rw [fl12 (by omega), show 12 * l' + i - 12 * l' = i by omega]
  · exact LK_up (pk_un e) (fun i hi => fl12o (by omega)) (h l' h1 h2)
theorem ldN_fx (Y : RSt) (g : Nat → Int32) (a : Nat) : ∀ k, (ldN Y g a k).tn = Y.tn ∧ (ldN Y g a k).de = Y.de ∧ (ldN Y g a k).os = Y.os
  | 0 => ⟨rfl, rfl, rfl⟩
  | k + 1 => ldN_fx Y g a k
theorem ldN_LI (Y : RSt) {g : Nat → Int32} {n f c : Nat} (p : FP g n f c) : ∀ k, k ≤ c → cnL (ldN (lnAll Y (fun _ => -1)) g (16 * f) k).ln 99 ≤ k ∧ ∀ l, 1 ≤ l → l < 100 → LK (ldN (lnAll Y (fun _ => -1)) g (16 * f) k).ln (ldN (lnAll Y (fun _ => -1)) g (16 * f) k).ch l
  | 0, _ => ⟨by show cnL (fun _ => -1) 99 ≤ 0; rw [cnL_m1]; omega, fun l _ _ => Or.inl rfl⟩
  | k + 1, hk => by
    obtain ⟨i1, i2⟩ := ldN_LI Y p k (by omega)
    obtain ⟨l, d, q1, q2, q3, q4, q5⟩ := p.2.2.2.2.2.2.2 k hk
    show cnL (ld1 (ldN (lnAll Y (fun _ => -1)) g (16 * f) k) g (16 * f + 1 + 4 * k)).ln 99 ≤ k + 1 ∧ ∀ l, 1 ≤ l → l < 100 → LK (ld1 (ldN (lnAll Y (fun _ => -1)) g (16 * f) k) g (16 * f + 1 + 4 * k)).ln (ld1 (ldN (lnAll Y (fun _ => -1)) g (16 * f) k) g (16 * f + 1 + 4 * k)).ch l
    revert i1 i2
    generalize ldN (lnAll Y (fun _ => -1)) g (16 * f) k = M
    intro i1 i2
    have e16 : g (16 * f + 1 + 4 * k) / 16 = nI l := by rw [q4]; exact (pk_div (d := 16) (by omega) (by decide) (by decide)).trans (by rw [show (16 * l + d) / 16 = l by omega])
    have e17 : g (16 * f + 1 + 4 * k) - g (16 * f + 1 + 4 * k) / 16 * 16 = nI d := by rw [q4]; exact (pk_rem (d := 16) (by omega) (by decide) (by decide)).trans (by rw [show (16 * l + d) % 16 = d by omega])
    have e : ld1 M g (16 * f + 1 + 4 * k) = lcF M (upd M.ln l (nI d)) (fl (12 * l) 0 12 (chV g (16 * f + 1 + 4 * k)) M.ch) := by
      unfold ld1
      rw [e17, e16, nI_clamp (by omega)]
    rw [e]
    exact ⟨by have := (cnL_up M.ln l (nI d) 99).1; show cnL (upd M.ln l (nI d)) 99 ≤ k + 1; omega, LK_new q3 q5 i2⟩
theorem RI_ld {q : Nat} {Y : RSt} {n : Nat} (h : RI q Y) (hd : Y.de = 0) (hn : n < 8) : RI q (ldR Y n).2 := by
  unfold ldR
  by_cases c1 : Y.dk (16 + 2 * n) = 0
  · rw [if_pos c1]; exact h
  rw [if_neg c1]
  by_cases c2 : Y.dk (16 + 2 * n) = 16
  · rw [if_pos c2]; exact h
  rw [if_neg c2]
  obtain ⟨f, c, p⟩ := RI_rld h hd n hn c1 c2
  have ef : (Y.dk (17 + 2 * n)).toNatClampNeg = f := by rw [p.2.1]; exact nI_clamp (by have := p.2.2.2.2.2.1; omega)
  have ec : (Y.dk (16 * f)).toNatClampNeg = c := by rw [p.2.2.2.2.2.2.1]; exact nI_clamp (by have := p.2.2.2.1; omega)
  rw [ef, ec]
  have li := ldN_LI Y p c (Nat.le_refl _)
  have fx := ldN_fx (lnAll Y (fun _ => -1)) Y.dk (16 * f) c
  have dk := ldN_dk (lnAll Y (fun _ => -1)) Y.dk (16 * f) c
  revert li fx dk
  generalize ldN (lnAll Y (fun _ => -1)) Y.dk (16 * f) c = M
  intro li fx dk
  refine ⟨⟨?_, ?_, li.2⟩, DI_cg (Y := Y) dk fx.2.1 h.2.1, ?_⟩
  · show M.tn ≤ 15
    rw [fx.1]; exact h.1.1
  · show cnL M.ln 99 ≤ 10
    have := p.2.2.2.1
    have := li.1
    omega
  · show M.os ≤ q
    rw [fx.2.2]; exact h.2.2
theorem RI_li {q : Nat} {Y : RSt} (h : RI q Y) : RI q (liR Y).2 := by
  have sm1 : smP (gtF Y 0 0 Y.tn) (li1 Y).2 := sm_ln _
  have f0 : FX Y (gtF Y 0 0 Y.tn) := ⟨rfl, rfl, rfl, rfl, rfl⟩
  have h1 : RI q (li1 Y).2 := (h.fx f0 h.2.2).sm sm1
  obtain ⟨l, hl, el⟩ : ∃ l, l ≤ 99 ∧ (li1 Y).1 = nI l := lnF_in _
  unfold liR
  by_cases c1 : (li1 Y).2.go = 0
  · rw [if_neg (fun g => g c1)]; exact h1
  rw [if_pos c1, el, nI_clamp (by omega)]
  have t1 : (li1 Y).2.tn ≤ 15 := h1.1.1
  by_cases c2 : nI ((li1 Y).2.tn - (li1 Y).2.at1) = 0
  · rw [if_neg (fun g => g c2)]
    revert h1
    generalize (li1 Y).2 = M
    intro h1
    refine ⟨⟨h1.1.1, ?_, fun l' a b => ?_⟩, DI_cg (Y := M) rfl rfl h1.2.1, h1.2.2⟩
    · show cnL (upd M.ln l (-1)) 99 ≤ 10
      have := (cnL_up M.ln l (-1) 99).2.2 (Or.inl rfl)
      have := h1.1.2.1
      omega
    · show LK (upd M.ln l (-1)) M.ch l'
      by_cases e : l' = l
      · rw [e]; exact Or.inl pk_us
      · exact LK_up (pk_un e) (fun i _ => rfl) (h1.1.2.2 l' a b)
  · rw [if_pos c2]
    have sz : smP (gtF (li1 Y).2 0 (li1 Y).2.at1 ((li1 Y).2.tn - (li1 Y).2.at1)) (li2 Y).2 := (sm_st0 _).tr (sm_go _ _)
    have g2 : (sR0 (gtF (li1 Y).2 0 (li1 Y).2.at1 ((li1 Y).2.tn - (li1 Y).2.at1))).2.go = (li2 Y).2.go := rfl
    revert h1 sz g2 t1
    generalize (li2 Y).2 = Z
    generalize (li2 Y).1 = g9
    generalize (li1 Y).2 = M
    intro h1 sz g2 t1
    generalize hD : M.tn - M.at1 = d
    rw [hD] at sz g2
    have hd15 : d ≤ 15 := by omega
    have f2 : FX M (gtF M 0 M.at1 d) := ⟨rfl, rfl, rfl, rfl, rfl⟩
    have h2 : RI q Z := (h1.fx f2 h1.2.2).sm sz
    have etx : Z.tx = M.tx := by
      have e : Z = mix (gtF M 0 M.at1 d) Z := sz
      have e2 := congrArg RSt.tx e
      exact e2
    unfold liK
    by_cases c3 : Z.go = 0
    · rw [if_pos c3]; exact h2
    rw [if_neg c3]
    by_cases c4 : nI d ≤ 12
    · rw [if_neg (fun g => g c4)]
      have hd12 : d ≤ 12 := (nI_leI (b := 12) (by omega) (by decide)).mp c4
      have gl : GL (fun i => M.tx (M.at1 + i)) d := by
        have s : SI (gtF M 0 M.at1 d) (mkT (fun i => M.tx (M.at1 + i)) d) := GL_of rfl rfl rfl (fun i hi => by
          show (if (0 : Int32) = 0 then M.tx (M.at1 + i) else _) = M.tx (M.at1 + i)
          rw [if_pos rfl])
        unfold GL
        rw [← (s.xsR0 hd15).2, g2]
        exact c3
      have gl2 : GL (liT Z M.at1 d) d := GL_cg hd15 (fun i hi => by
        show M.tx (M.at1 + i) = (if d ≤ i then 0 else Z.tx (M.at1 + i))
        rw [if_neg (by omega), etx]) gl
      have fin : cnL (upd Z.ln l (nI d)) 99 ≤ 10 → RI q (li3 Z l M.at1 d) := fun hc => ⟨⟨h2.1.1, hc, LK_new hd12 gl2 h2.1.2.2⟩, DI_cg (Y := Z) rfl rfl h2.2.1, h2.2.2⟩
      by_cases c5 : Z.ln l = -1
      · rw [if_neg (fun g => g c5)]
        by_cases c6 : nI (cnL Z.ln 99) = 10
        · rw [if_neg (fun g => g c6)]; exact h2
        · rw [if_pos c6]
          refine fin ?_
          have a := (cnL_up Z.ln l (nI d) 99).1
          have b := h2.1.2.1
          have c : ¬ cnL Z.ln 99 = 10 := fun e => c6 (by rw [e]; rfl)
          omega
      · rw [if_pos c5]
        exact fin (Nat.le_trans ((cnL_up Z.ln l (nI d) 99).2.2 (Or.inr c5)) h2.1.2.1)
    · rw [if_pos c4]; exact h2
theorem liN_fx (Y : RSt) : ∀ k, FX Y (liN Y k)
  | 0 => ⟨rfl, rfl, rfl, rfl, rfl⟩
  | k + 1 => by
    unfold liN
    split
    · exact liN_fx Y k
    · exact liN_fx Y k
theorem RI_cmd {q : Nat} {Y : RSt} (h : RI q Y) (hd : Y.de = 0) : RI (q + 16) (cmdR Y).2 := by
  unfold cmdR
  by_cases c0 : okF Y = 0
  · rw [if_neg (fun g => g c0)]; exact h.up (by omega)
  rw [if_pos c0]
  by_cases c1 : Y.tx 0 = 78
  · rw [if_pos c1]
    exact ⟨⟨h.1.1, by show cnL (fun _ => -1) 99 ≤ 10; rw [cnL_m1]; decide, fun l _ _ => Or.inl rfl⟩, DI_cg (Y := Y) rfl rfl h.2.1, Nat.le_trans h.2.2 (by omega)⟩
  rw [if_neg c1]
  by_cases c2 : Y.tx 0 = 67
  · rw [if_pos c2]
    exact h.up (by omega) |>.fx ⟨rfl, rfl, rfl, rfl, rfl⟩ (Nat.zero_le _)
  rw [if_neg c2]
  by_cases c3 : fmtv Y.dk = 0
  · rw [if_pos c3]; exact h.up (by omega)
  rw [if_neg c3]
  by_cases c4 : Y.tx 0 = 70
  · rw [if_pos c4]
    exact (h.up (q' := q + 16) (by omega)).fx (liN_fx Y 8) (by have := liN_os Y 8; have := h.2.2; show (liN Y 8).os ≤ q + 16; omega)
  rw [if_neg c4]
  obtain ⟨n, hn, en⟩ := okF_n c0 (by unfold plR; rw [if_neg c4, if_neg c1, if_pos c2])
  rw [en, nI_clamp (by omega)]
  by_cases c5 : Y.tx 0 = 83
  · rw [if_pos c5]; exact (RI_sa h hd hn c3).up (by omega)
  rw [if_neg c5]
  by_cases c6 : Y.tx 0 = 76
  · rw [if_pos c6]; exact (RI_ld h hd hn).up (by omega)
  rw [if_neg c6]
  exact (RI_dr h hn c3).up (by omega)
theorem RI_tn {q : Nat} {Y : RSt} (h : RI q Y) : RI q (tnF Y 0) := ⟨⟨Nat.zero_le _, h.1.2⟩, DI_cg (Y := Y) rfl rfl h.2.1, h.2.2⟩
theorem RI_th {q : Nat} {Y : RSt} (h : RI q Y) (x : Int32) : RI q (thF Y x) := h.fx ⟨rfl, rfl, rfl, rfl, rfl⟩ h.2.2
theorem RI_fe {q : Nat} {Y : RSt} (h : RI q Y) (x : Int32) : RI (q + 16) (feR Y x).2 := by
  have h0 := RI_th h 0
  unfold feR
  by_cases c1 : Y.de = 0
  · rw [if_pos c1]
    by_cases c2 : x = 10
    · rw [if_pos c2]
      have d0 : (thF Y 0).de = 0 := c1
      revert h0 d0
      generalize thF Y 0 = M
      intro h0 d0
      unfold fdR
      by_cases c3 : nI M.tn = 0
      · rw [if_neg (fun g => g c3)]; exact (RI_tn h0).up (by omega)
      · rw [if_pos c3]
        by_cases c4 : dgt (M.tx 0) = 0
        · rw [if_pos c4]; exact RI_tn (RI_cmd h0 d0)
        · rw [if_neg c4]; exact (RI_tn (RI_li h0)).up (by omega)
    · rw [if_neg c2]
      by_cases c3 : 15 ≤ Y.tn
      · rw [if_pos c3]; exact h0.up (by omega)
      · rw [if_neg c3]
        exact ⟨⟨by show Y.tn + 1 ≤ 15; omega, h0.1.2⟩, DI_cg (Y := Y) rfl rfl h.2.1, Nat.le_trans h0.2.2 (by omega)⟩
  · rw [if_neg c1]; exact h0.up (by omega)
theorem tl1_fx (Y : RSt) (t f : Int32) : FX Y (tl1 Y t f) ∧ (tl1 Y t f).os = Y.os := by
  unfold tl1
  split
  · exact ⟨⟨rfl, rfl, rfl, rfl, rfl⟩, rfl⟩
  · exact ⟨⟨rfl, rfl, rfl, rfl, rfl⟩, rfl⟩
theorem rr_fx (Y : RSt) (n : Nat) (i : Int32) (t : Nat) : FX Y (rrR Y n i t).2 ∧ (rrR Y n i t).2.os = Y.os := by
  unfold rrR
  repeat' split
  all_goals exact ⟨⟨rfl, rfl, rfl, rfl, rfl⟩, rfl⟩
theorem RI_st1 {q : Nat} {Y : RSt} (h : RI q Y) (hd : Y.de = 0) (hw : wrP Y) (t : Int32) : RI (q + 1) (st1 Y t).2.2 ∧ ((st1 Y t).2.1 = 0 → (st1 Y t).2.2.de = 0) := by
  have up := h.up (q' := q + 1) (by omega)
  have sm : ∀ {Z : RSt}, smP Y Z → RI (q + 1) Z ∧ Z.de = 0 := fun s => ⟨up.sm s, (sm_fx s).2.2.2.2.trans hd⟩
  unfold st1
  by_cases a : asB (hrF Y) (bhF Y) = 0
  · rw [if_neg (fun g => g a)]
    by_cases b : hrF Y = 80
    · rw [if_pos b]
      have s := (sm_at Y).tr (sm_va (atF Y))
      revert s
      generalize vaF (atF Y) = w
      intro s
      obtain ⟨r, d⟩ := sm s
      exact ⟨r.fx ⟨rfl, rfl, rfl, rfl, rfl⟩ (by show w.2.os + 1 ≤ q + 1; rw [sm_os s]; have := h.2.2; omega), fun _ => d⟩
    rw [if_neg b]
    by_cases b : hrF Y = 73
    · rw [if_pos b]; exact ⟨(sm (sm_I4 Y)).1, fun _ => (sm (sm_I4 Y)).2⟩
    rw [if_neg b]
    by_cases b : hrF Y = 71
    · rw [if_pos b]; exact ⟨(sm ((sm_at Y).tr (sm_ln _))).1, fun _ => (sm ((sm_at Y).tr (sm_ln _))).2⟩
    rw [if_neg b]
    by_cases b : hrF Y = 69
    · rw [if_pos b]; exact ⟨(sm (sm_at Y)).1, fun _ => hd⟩
    rw [if_neg b]
    by_cases b : hrF Y = 87
    · rw [if_pos b]
      obtain ⟨n, hn, en, _, _⟩ := hw (Or.inl b)
      rw [en, nI_clamp (by omega)]
      have s := (sm_W3 Y).tr (sm_va (iW3 Y))
      revert s
      generalize vaF (iW3 Y) = w
      intro s
      obtain ⟨r, d⟩ := sm s
      exact RI_rw r d hn
    rw [if_neg b]
    by_cases b : hrF Y = 82
    · rw [if_pos b]
      have s := sm_R4 Y
      revert s
      generalize iR4 Y = M
      intro s
      obtain ⟨r, d⟩ := sm s
      have f := rr_fx M (dgF (atF Y)).1.toNatClampNeg (iW2 Y).1 (hrF (iW3 Y) - 65).toNatClampNeg
      exact ⟨r.fx f.1 (by rw [f.2]; exact r.2.2), fun _ => f.1.2.2.2.2.trans d⟩
    rw [if_neg b]
    exact ⟨(sm ((sm_at Y).tr (sm_go _ 0))).1, fun _ => hd⟩
  · rw [if_pos a]
    have s := ((sm_at Y).tr (sm_mu _ 61)).tr (sm_va (muF (atF Y) 61))
    revert s
    generalize vaF (muF (atF Y) 61) = w
    intro s
    obtain ⟨r, d⟩ := sm s
    exact ⟨r.fx ⟨rfl, rfl, rfl, rfl, rfl⟩ r.2.2, fun _ => d⟩
theorem RI_wr {q : Nat} {Y : RSt} (h : RI q Y) (hd : Y.de = 0) {l : Nat} (h1 : 1 ≤ l) (h2 : l < 100) (hn : ¬ Y.ln l = -1) : ∃ d, d ≤ 12 ∧ Y.ln l = nI d ∧ wrP (gtF Y 1 (12 * l) d) := by
  obtain ⟨d, d1, d2, d3⟩ := (h.1.2.2 l h1 h2).resolve_left hn
  refine ⟨d, d1, d2, GL_wr (by omega) (GL_of rfl rfl rfl (fun i hi => ?_)) d3 (fun n hn e => ?_)⟩
  · show (if (1 : Int32) = 0 then _ else Y.ch (12 * l + i)) = Y.ch (12 * l + i)
    rw [if_neg (by decide)]
  · obtain ⟨f, f1, f2, f3⟩ := RI_hrec h hd n hn e
    exact ⟨f, f2, f3⟩
def JK (q k : Nat) (Y : RSt) : Prop := RI (q + k) Y ∧ Y.de = 0 ∧ q + k < 1000000
theorem JK_sp {q k : Nat} {Y : RSt} (h : JK q k Y) : SP Y := by
  refine ⟨by have := h.1.2.2; have := h.2.2; omega, fun l hl e => ?_⟩
  rcases nlF_in Y with g | ⟨l', a, b, c, d⟩
  · exact absurd (show nI l < 0 by rw [← e, g]; decide) (nI_pos (by omega))
  · have : l = l' := (nI_eq (by omega) (by omega)).mp (e.symm.trans c)
    subst this
    exact RI_wr h.1 h.2.1 a b d
theorem JK_nx {q k : Nat} {Y : RSt} (h : RI (q + k) Y) (hd : Y.de = 0) (hn : ¬ nlF Y = -1) : RI (q + k + 1) (sN Y (nlF Y).toNatClampNeg).2 ∧ ((sN Y (nlF Y).toNatClampNeg).1 = 0 → (sN Y (nlF Y).toNatClampNeg).2.de = 0) := by
  obtain ⟨l, a, b, c, d⟩ := (nlF_in Y).resolve_left hn
  rw [c, nI_clamp (by omega)]
  obtain ⟨d9, e1, e2, e3⟩ := RI_wr h hd a b d
  unfold sN
  rw [e2, nI_clamp (by omega)]
  have r := RI_st1 (Y := gtF Y 1 (12 * l) d9) (h.fx ⟨rfl, rfl, rfl, rfl, rfl⟩ h.2.2) hd e3 (nI (l + 1))
  have f := tl1_fx (st1 (gtF Y 1 (12 * l) d9) (nI (l + 1))).2.2 (st1 (gtF Y 1 (12 * l) d9) (nI (l + 1))).1 (st1 (gtF Y 1 (12 * l) d9) (nI (l + 1))).2.1
  unfold sR1
  revert r f
  generalize st1 (gtF Y 1 (12 * l) d9) (nI (l + 1)) = w
  intro r f
  exact ⟨r.1.fx f.1 (by rw [f.2]; exact r.1.2.2), fun e => f.1.2.2.2.2.trans (r.2 e)⟩
theorem RI_ssL {q : Nat} : ∀ (f k : Nat) {Y : RSt}, RI (q + k) Y → Y.de = 0 → RI (q + k + f) (ssL f Y).2
  | 0, _, _, h, _ => h
  | f + 1, k, Y, h, hd => by
    unfold ssL
    by_cases c1 : nlF Y = -1
    · rw [if_pos c1]
      exact (h.up (q' := q + k + (f + 1)) (by omega)).fx ⟨rfl, rfl, rfl, rfl, rfl⟩ (by have := h.2.2; show Y.os ≤ q + k + (f + 1); omega)
    · rw [if_neg c1]
      have r := JK_nx h hd c1
      revert r
      generalize sN Y (nlF Y).toNatClampNeg = w
      intro r
      by_cases c2 : w.1 = 0
      · rw [if_pos c2]
        have t := RI_ssL f (k + 1) (Y := w.2) r.1 (r.2 c2)
        rw [show q + (k + 1) + f = q + k + (f + 1) by omega] at t
        exact t
      · rw [if_neg c2]
        exact r.1.up (by omega)
theorem RI_ss {q : Nat} {Y : RSt} (h : RI q Y) (x : Int32) : RI (q + 50) (ssR Y x).2 := by
  unfold ssR
  by_cases c1 : Y.de = 0
  · rw [if_pos c1]
    obtain ⟨j, hj, e⟩ := moR_in x
    rw [e, nI_clamp (by omega)]
    have t := RI_ssL j 0 (Y := thF Y 0) (RI_th h 0) c1
    exact t.up (by omega)
  · rw [if_neg c1]; exact (RI_th h 0).up (by omega)
