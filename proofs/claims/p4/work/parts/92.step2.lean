/-! a step: every kind -/
theorem o_all {q : Nat} {M : LSt} {X : RSt} {c : Int32} {u : RU} {p l : Nat} {e0 : Nat → Int32} (h : TIE M X) (ri : RI q X) (hd : X.de = 0) (hos : X.os < 1000000) (hw : wrP X) (he0 : ∀ i, i < 16 → e0 i = 0) (hp : p < M.wn) (hn : M.wn ≤ 10) (hl : M.nu p = nI l) (kc : M.kd = c) (e1 : M.vr = u.1) (e2 : M.fi = u.2.1) (e3 : M.lf = u.2.2.1) (e4 : M.sg = u.2.2.2.1) (e5 : M.rt = u.2.2.2.2.1) (e6 : M.tg = u.2.2.2.2.2.1) (k : KND X c u) : OUTs (stpK e0 M p) (sR1 X (nI (l + 1))) := by
  have nx : numv M.nu M.wn (nI p) + 1 = nI (l + 1) := by
    rw [num_p hp hn, hl]
    exact nI_1 l
  rcases k with ⟨kk, as, mv, u1, u2⟩ | ⟨as, k⟩
  · rw [kk] at kc
    have s := ((sm_at X).tr (sm_mu _ 61)).tr (sm_va (muF (atF X) 61))
    have st := st1_A (t := nI (l + 1)) as
    rw [u2] at e3
    revert s st e3
    generalize vaF (muF (atF X) 61) = w
    intro e3 s st
    have dw : w.2.de = 0 := (sm_fx s).2.2.2.2.trans hd
    obtain ⟨j, hj, ej⟩ := vp_in_of (mvr_in mv) (by decide)
    refine o_go (M' := asF M) (by rw [kc]; decide) ?_ st dw ?_ ?_
    · unfold prfF
      rw [if_pos kc]
    · refine TIE_va (TIE_sm h s) (x := M.lf) e3 _ ?_
      unfold asF
      rw [e1, u1]
    · show (if jmpF M.kd M.lf M.sg M.rt = 0 then numv M.nu M.wn (nI p) + 1 else M.tg) = _
      rw [kc, jm_0 (by decide) (by decide), if_pos rfl]
      exact nx
  · rcases k with ⟨kk, hh, u2⟩ | ⟨kk, hh, u2, u3, u4, u5, u6⟩ | ⟨kk, hh, u6⟩ | ⟨kk, hh⟩ | ⟨kk, hh, u1, u2, u3⟩ | ⟨kk, hh, u1, u2, u3⟩
    · rw [kk] at kc
      have s := (sm_at X).tr (sm_va (atF X))
      have st := st1_P (t := nI (l + 1)) as hh
      rw [u2] at e3
      revert s st e3
      generalize vaF (atF X) = w
      intro e3 s st
      have dw : w.2.de = 0 := (sm_fx s).2.2.2.2.trans hd
      refine o_go (M' := outF M M.lf) (by rw [kc]; decide) ?_ st dw ?_ ?_
      · unfold prfF
        rw [if_neg (by rw [kc]; decide), if_pos kc]
      · rw [e3]
        exact TIE_out (TIE_sm h s) (by rw [sm_os s]; exact hos)
      · show (if jmpF M.kd M.lf M.sg M.rt = 0 then numv M.nu M.wn (nI p) + 1 else M.tg) = _
        rw [kc, jm_0 (by decide) (by decide), if_pos rfl]
        exact nx
    · rw [kk] at kc
      have s := sm_I4 X
      have st := st1_I (t := nI (l + 1)) as hh
      have dw : (iI4 X).2.de = 0 := (sm_fx s).2.2.2.2.trans hd
      refine o_go (M' := M) (by rw [kc]; decide) ?_ st dw (TIE_sm h s) ?_
      · unfold prfF
        rw [if_neg (by rw [kc]; decide), if_neg (by rw [kc]; decide), if_neg (by rw [kc]; decide), if_neg (by rw [kc]; decide)]
      · have j := hol_j (x := (vaF (atF X)).1) (y := (vaF (iI2 X)).1) u4
        rw [kc, e3, u2, e4, u3, e5, u5, e6, u6, nx]
        unfold iI5
        by_cases z : hol (hrF (vaF (atF X)).2) (vaF (atF X)).1 (vaF (iI2 X)).1 = 0
        · rw [if_pos (j.mpr z), if_pos z]
        · rw [if_neg (fun g => z (j.mp g)), if_neg z]
    · rw [kk] at kc
      have s := (sm_at X).tr (sm_ln (atF X))
      have st := st1_G (t := nI (l + 1)) as hh
      have dw : (lnF (atF X)).2.de = 0 := (sm_fx s).2.2.2.2.trans hd
      refine o_go (M' := M) (by rw [kc]; decide) ?_ st dw (TIE_sm h s) ?_
      · unfold prfF
        rw [if_neg (by rw [kc]; decide), if_neg (by rw [kc]; decide), if_neg (by rw [kc]; decide), if_neg (by rw [kc]; decide)]
      · have j1 : ¬ jmpF M.kd M.lf M.sg M.rt = 0 := by
          unfold jmpF
          have n1 : ¬ ¬ (71 : Int32) = 71 := fun g => g rfl
          rw [kc, if_neg (by decide), if_neg n1]
          decide
        rw [if_neg j1, e6, u6]
    · rw [kk] at kc
      have st := st1_E (t := nI (l + 1)) as hh
      rw [sR1_eq st, tl_m (show (atF X).de = 0 from hd)]
      unfold stpK
      have n1 : ¬ ¬ M.kd = 69 := fun g => g kc
      rw [if_neg n1]
      refine ⟨fun g => absurd (show (-1 : Int32) = 0 from g) (by decide), fun _ => ⟨?_, show ¬ (0 : Int32) = 6 by decide⟩, TIE_nx 0 (TIE_tl (TIE_sm h (sm_at X)))⟩
      show (0 : Int32) = (if ¬ (-1 : Int32) = -1 then -1 else 0)
      decide
    · rw [kk] at kc
      obtain ⟨n, hn8, en, _, _⟩ := hw (Or.inl hh)
      have s := (sm_W3 X).tr (sm_va (iW3 X))
      have st := st1_W (t := nI (l + 1)) as hh
      rw [en, nI_clamp (by omega)] at st
      rw [u2] at e3
      rw [u3] at e5
      rw [u1, en] at e2
      revert s st e5
      generalize vaF (iW3 X) = w
      intro e5 s st
      have dw : w.2.de = 0 := (sm_fx s).2.2.2.2.trans hd
      have rw2 := RI_rw (i := (iW2 X).1) (v := w.1) (ri.sm s) dw hn8
      have t := TIE_rw (i := (iW2 X).1) (v := w.1) (TIE_sm h s) (ri.sm s) dw hn8 he0
      refine o_re (by rw [kc]; decide) ?_ st t.1 t.2 rw2.2 (rw_cd _ _ _ _) (fun z => ?_)
      · unfold prfF
        rw [if_neg (by rw [kc]; decide), if_neg (by rw [kc]; decide), if_neg (by rw [kc]; decide), if_pos kc, e2, e3, e5]
      · obtain ⟨f1, f2, f3⟩ := FK_wr z
        rw [f1, f2, f3, kc, jm_0 (by decide) (by decide), if_pos rfl]
        exact nx
    · rw [kk] at kc
      obtain ⟨n, hn8, en, hrec, ht⟩ := hw (Or.inr hh)
      obtain ⟨t8, ht8, et⟩ := ht hh
      have s := sm_R4 X
      have st := st1_R (t := nI (l + 1)) as hh
      rw [en, nI_clamp (by omega), et, nI_clamp (by omega)] at st
      rw [u2] at e3
      rw [u1, en] at e2
      rw [u3, et] at e1
      have fx := sm_fx s
      have dw : (iR4 X).de = 0 := fx.2.2.2.2.trans hd
      have t := TIE_rr (i := (iW2 X).1) (TIE_sm h s) hn8 ht8 (fun z => by rw [fx.2.2.2.1] at z ⊢; exact hrec z)
      have f := rr_fx (iR4 X) n (iW2 X).1 t8
      refine o_re (by rw [kc]; decide) ?_ st t.1 t.2 (fun _ => f.1.2.2.2.2.trans dw) (rr_cd _ _ _ _) (fun z => ?_)
      · unfold prfF
        rw [if_neg (by rw [kc]; decide), if_neg (by rw [kc]; decide), if_pos kc, e2, e3, e1]
      · obtain ⟨f1, f2, f3⟩ := FK_rd (L := M) (n := nI n) (i := (iW2 X).1) (v := nI t8)
        rw [f1, f2, f3, kc, jm_0 (by decide) (by decide), if_pos rfl]
        exact nx
