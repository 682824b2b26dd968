/-! the typed text set to nothing first, or last -/
theorem cmt_tc (e0 : Nat → Int32) (L : LSt) : cmtF e0 (tcF L) = ((cmtF e0 L).1, tcF (cmtF e0 L).2) := by
  have e : cmt (tcF L).ro (tcF L).hd e0 (tcF L).jt ((tcF L).ar, (tcF L).de, (tcF L).wr, (tcF L).g) = cmt L.ro L.hd e0 L.jt (L.ar, L.de, L.wr, L.g) := rfl
  unfold cmtF
  rw [e]
  generalize cmt L.ro L.hd e0 L.jt (L.ar, L.de, L.wr, L.g) = r
  by_cases c : r.1 = 0
  · rw [if_pos c, if_pos c]
    rfl
  · rw [if_neg c, if_neg c]
    rfl
theorem tk_tc (L : LSt) (b : Int32) : tkF (tcF L) b = tcF (tkF L b) := rfl
theorem bg1_tc (L : LSt) (n : Int32) (cn : Nat) (f : Int32) : bg1 (tcF L) n cn f = tcF (bg1 L n cn f) := rfl
theorem bgL_tc (L : LSt) (f : Int32) : ∀ k, bgL (tcF L) f k = tcF (bgL L f k)
  | 0 => rfl
  | k + 1 => by
    show tkF (bgL (tcF L) f k) (f + nI k) = tcF (tkF (bgL L f k) (f + nI k))
    rw [bgL_tc L f k, tk_tc]
theorem bg_tc (L : LSt) (n : Int32) (cn : Nat) (f : Int32) : bgF (tcF L) n cn f = tcF (bgF L n cn f) := by
  unfold bgF
  rw [bg1_tc, bgL_tc]
theorem del_tc (e0 : Nat → Int32) (L : LSt) (n : Int32) : delF e0 (tcF L) n = ((delF e0 L n).1, tcF (delF e0 L n).2) := by
  have g : (tcF L).g = L.g := rfl
  unfold delF
  rw [g]
  by_cases c : cellv L.g (16 + 2 * n) = 0
  · have nc : ¬ ¬ cellv L.g (16 + 2 * n) = 0 := fun q => q c
    rw [if_neg nc, if_neg nc]
  · rw [if_pos c, if_pos c, bg_tc, cmt_tc]
theorem sv3_tc (L : LSt) (n f : Int32) : sv3 (tcF L) n f = tcF (sv3 L n f) := by
  have w : (tcF L).wn = L.wn := rfl
  unfold sv3
  rw [w, bg_tc]
  rfl
theorem ro_tc (L : LSt) (r : Nat → Int32) : roF (tcF L) r = tcF (roF L r) := rfl
theorem sve_tc (e0 : Nat → Int32) (L : LSt) (n : Int32) : sveF e0 (tcF L) n = ((sveF e0 L n).1, tcF (sveF e0 L n).2) := by
  have g : (tcF L).g = L.g := rfl
  have w : (tcF L).wn = L.wn := rfl
  unfold sveF
  rw [g, w]
  by_cases c1 : nI L.wn = 0
  · have n1 : ¬ ¬ nI L.wn = 0 := fun q => q c1
    rw [if_neg n1, if_neg n1]
  rw [if_pos c1, if_pos c1]
  generalize rmF L.g n ((1 + 4 * L.wn + 15) / 16) = b
  by_cases c2 : b = -1
  · have n2 : ¬ ¬ b = -1 := fun q => q c2
    rw [if_neg n2, if_neg n2]
  rw [if_pos c2, if_pos c2, sv3_tc]
  generalize sv3 L n b = S
  have e : svR (tcF S).nu (tcF S).le (tcF S).te (tcF S).ro (tcF S).wn = svR S.nu S.le S.te S.ro S.wn := rfl
  rw [e, ro_tc, cmt_tc]
theorem ldK_tc (M : LSt) (s : Int32) : ldK (tcF M) s = tcF (ldK M s) := rfl
theorem ldL_tc (L : LSt) (s : Int32) : ∀ k, ldL (tcF L) s k = tcF (ldL L s k)
  | 0 => rfl
  | k + 1 => by
    show ldK (ldL (tcF L) s k) (s + nI (4 * k)) = tcF (ldK (ldL L s k) (s + nI (4 * k)))
    rw [ldL_tc L s k, ldK_tc]
theorem rl_tc (L : LSt) : rlF (tcF L) = tcF (rlF L) := rfl
theorem lod_tc (L : LSt) (n : Int32) : lodF (tcF L) n = ((lodF L n).1, tcF (lodF L n).2) := by
  have g : (tcF L).g = L.g := rfl
  unfold lodF
  rw [g]
  by_cases c1 : cellv L.g (16 + 2 * n) = 0
  · rw [if_pos c1, if_pos c1]
  rw [if_neg c1, if_neg c1]
  by_cases c2 : cellv L.g (16 + 2 * n) = 16
  · have n2 : ¬ ¬ cellv L.g (16 + 2 * n) = 16 := fun q => q c2
    rw [if_neg n2, if_neg n2]
  · rw [if_pos c2, if_pos c2, rl_tc, ldL_tc]
theorem flc_tc (e0 : Nat → Int32) (L : LSt) (c n : Int32) : flcF e0 (tcF L) c n = ((flcF e0 L c n).1, tcF (flcF e0 L c n).2) := by
  have g : (tcF L).g = L.g := rfl
  unfold flcF
  rw [g]
  by_cases c1 : c = 83 ∨ c = 76 ∨ c = 68
  · rw [if_pos c1, if_pos c1]
    by_cases c2 : fmtv L.g = 0
    · have n2 : ¬ ¬ fmtv L.g = 0 := fun q => q c2
      rw [if_neg n2, if_neg n2]
    · rw [if_pos c2, if_pos c2]
      by_cases c3 : c = 76
      · rw [if_pos c3, if_pos c3, lod_tc]
      · rw [if_neg c3, if_neg c3]
        by_cases c4 : c = 83
        · rw [if_pos c4, if_pos c4, sve_tc]
        · rw [if_neg c4, if_neg c4, del_tc]
  · rw [if_neg c1, if_neg c1]
theorem TIE_cmd {q : Nat} {L : LSt} {Y : RSt} {e0 : Nat → Int32} (h : TIE L Y) (ri : RI q Y) (hd : Y.de = 0) (hos : Y.os < 999900) (hn1 : 1 ≤ Y.tn) (he0 : ∀ i, i < 16 → e0 i = 0) : (ecF e0 (tcF L) (nI Y.tn)).1 = (cmdR Y).1 ∧ TIE (ecF e0 (tcF L) (nI Y.tn)).2 (tnF (cmdR Y).2 0) := by
  have hn := ri.1.1
  have tt := TIE_tc h
  have ty0 : (tcF L).ty 0 = Y.tx 0 := h.2.1.2.2.2.2 0 (by omega)
  unfold ecF
  rw [ty0]
  by_cases c1 : Y.tn = 1
  · have n1 : ¬ ¬ nI Y.tn = 1 := fun g => g (by rw [c1]; rfl)
    rw [if_neg n1]
    exact cm_pl tt hos c1 (Y.tx 0) rfl
  · have n1 : ¬ nI Y.tn = 1 := fun g => c1 ((nI_eq (b := 1) (by omega) (by decide)).mp g)
    rw [if_pos n1]
    by_cases c2 : Y.tn = 2
    · have n2 : ¬ ¬ nI Y.tn = 2 := fun g => g (by rw [c2]; rfl)
      have ty1 : (tcF L).ty 1 = Y.tx 1 := h.2.1.2.2.2.2 1 (by omega)
      rw [if_neg n2, ty1]
      have cn : cnF Y = Y.tx 1 - 48 := by
        unfold cnF
        have nl : ¬ nI Y.tn ≤ 1 := fun g => absurd ((nI_leI (a := Y.tn) (b := 1) (by omega) (by decide)).mp g) (by omega)
        rw [if_neg nl]
      have pz : ∀ z : Int32, (if plR z = 0 then (0 : Int32) else if nI Y.tn = 1 then 1 else 0) = 0 := fun z => by
        rw [if_neg n1]
        split <;> rfl
      have ok : okF Y = if wdF (Y.tx 0) = 0 then 0 else if Y.tx 1 - 48 < 0 then 0 else if Y.tx 1 - 48 ≤ 7 then 1 else 0 := by
        unfold okF
        rw [pz, if_neg n2, cn]
      have no : okF Y = 0 → cmdR Y = (2, Y) := fun e => by
        unfold cmdR
        rw [if_neg (fun g => g e)]
      by_cases f : fdg (Y.tx 1) = 0
      · have o0 : okF Y = 0 := by
          rw [ok]
          by_cases w : wdF (Y.tx 0) = 0
          · rw [if_pos w]
          · rw [if_neg w]
            by_cases a : Y.tx 1 - 48 < 0
            · rw [if_pos a]
            · rw [if_neg a]
              by_cases b : Y.tx 1 - 48 ≤ 7
              · obtain ⟨_, _, _, x⟩ := sub48 a b
                exact absurd f x
              · rw [if_neg b]
        rw [if_pos f, no o0]
        exact ⟨rfl, tt⟩
      · rw [if_neg f]
        obtain ⟨⟨a, b⟩, _⟩ := fdg_8.mp f
        obtain ⟨n, hn8, en, _⟩ := sub48 a b
        rw [en]
        rw [if_neg a, if_pos b] at ok
        by_cases w : Y.tx 0 = 83 ∨ Y.tx 0 = 76 ∨ Y.tx 0 = 68
        · have w1 : ¬ wdF (Y.tx 0) = 0 := by
            rcases w with e | e | e <;> rw [e] <;> decide
          have x1 : ¬ Y.tx 0 = 78 := by rcases w with e | e | e <;> rw [e] <;> decide
          have x2 : ¬ Y.tx 0 = 67 := by rcases w with e | e | e <;> rw [e] <;> decide
          have x3 : ¬ Y.tx 0 = 70 := by rcases w with e | e | e <;> rw [e] <;> decide
          rw [if_neg w1] at ok
          have ec : cmdR Y = if fmtv Y.dk = 0 then ((8 : Int32), Y) else if Y.tx 0 = 83 then saR Y n else if Y.tx 0 = 76 then ldR Y n else drR Y n := by
            unfold cmdR
            rw [ok, if_pos (show ¬ (1 : Int32) = 0 by decide), if_neg x1, if_neg x2, if_neg x3, cn, en, nI_clamp (by omega)]
          have t := cm_fl h ri hd he0 (Y.tx 0) hn8 w
          rw [ec, flc_tc]
          exact ⟨t.1, TIE_tc t.2⟩
        · have w1 : wdF (Y.tx 0) = 0 := by
            unfold wdF
            rw [if_neg (fun e => w (Or.inl e)), if_neg (fun e => w (Or.inr (Or.inl e))), if_pos (fun e => w (Or.inr (Or.inr e)))]
          rw [if_pos w1] at ok
          have e : flcF e0 (tcF L) (Y.tx 0) (nI n) = (2, tcF L) := if_neg w
          rw [e, no ok]
          exact ⟨rfl, tt⟩
    · have n2 : ¬ nI Y.tn = 2 := fun g => c2 ((nI_eq (b := 2) (by omega) (by decide)).mp g)
      have o0 : okF Y = 0 := by
        unfold okF
        rw [if_neg n1, if_pos n2]
        repeat' split
        all_goals rfl
      have no : cmdR Y = (2, Y) := by
        unfold cmdR
        rw [if_neg (fun g => g o0)]
      rw [if_pos n2, no]
      exact ⟨rfl, tt⟩
theorem TIE_fd {q : Nat} {L : LSt} {Y : RSt} {e0 : Nat → Int32} (h : TIE L Y) (ri : RI q Y) (hd : Y.de = 0) (hos : Y.os < 999900) (he0 : ∀ i, i < 16 → e0 i = 0) : (if ¬ nI L.wc = 0 then fdF e0 (tcF L) (nI L.wc) else (0, tcF L)).1 = (fdR Y).1 ∧ TIE (if ¬ nI L.wc = 0 then fdF e0 (tcF L) (nI L.wc) else (0, tcF L)).2 (fdR Y).2 := by
  have hn := ri.1.1
  have ew : L.wc = Y.tn := h.2.1.2.2.2.1
  unfold fdR
  rw [ew]
  by_cases c : nI Y.tn = 0
  · have nc : ¬ ¬ nI Y.tn = 0 := fun g => g c
    rw [if_neg nc, if_neg nc]
    exact ⟨rfl, TIE_tc h⟩
  · rw [if_pos c, if_pos c]
    have hn1 : 1 ≤ Y.tn := by
      rcases Nat.eq_zero_or_pos Y.tn with g | g
      · exact absurd (by rw [g]; rfl) c
      · exact g
    have ty0 : (tcF L).ty 0 = Y.tx 0 := h.2.1.2.2.2.2 0 (by omega)
    unfold fdF
    rw [ty0]
    by_cases d : dgt (Y.tx 0) = 0
    · rw [if_pos d, if_pos d]
      exact TIE_cmd h ri hd hos hn1 he0
    · rw [if_neg d, if_neg d]
      exact TIE_el h ri hn1 d
theorem TIE_fe {q : Nat} {L : LSt} {Y : RSt} {e0 : Nat → Int32} (h : TIE L Y) (ri : RI q Y) (hq : q < 900000) (he0 : ∀ i, i < 16 → e0 i = 0) (x : Int32) : (feedF e0 L x).1 = (feR Y x).1 ∧ TIE (feedF e0 L x).2 (feR Y x).2 := by
  have h0 := TIE_th 0 h
  have r0 := RI_th ri 0
  have d0 : (thF Y 0).de = Y.de := rfl
  have t0 : (thF Y 0).tn = Y.tn := rfl
  unfold feedF feR
  by_cases c : Y.de = 0
  · rw [if_pos c, if_pos ((TIE_de h).trans c)]
    revert h0 r0 d0 t0
    generalize thF Y 0 = M
    intro h0 r0 d0 t0
    by_cases c2 : x = 10
    · rw [if_pos c2, if_pos c2]
      exact TIE_fd h0 r0 (d0.trans c) (by have := r0.2.2; omega) he0
    · rw [if_neg c2, if_neg c2]
      have k := TIE_ke (x := x) h0
      rw [t0] at k
      by_cases c3 : 15 ≤ Y.tn
      · rw [if_pos c3] at k ⊢
        exact ⟨rfl, k⟩
      · rw [if_neg c3] at k ⊢
        exact ⟨rfl, k⟩
  · rw [if_neg c, if_neg (fun g => c ((TIE_de h).symm.trans g))]
    exact ⟨rfl, h0⟩
