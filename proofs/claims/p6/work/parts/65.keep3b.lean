theorem RI_li {q : Nat} {Y : RSt} (h : RI q Y) : RI q (liR Y).2 := by
  have sm1 : smP (gtF Y 0 0 Y.tn) (li1 Y).2 := sm_ln _
  have f0 : FX Y (gtF Y 0 0 Y.tn) := ⟨rfl, rfl, rfl, rfl, rfl⟩
  have h1 : RI q (li1 Y).2 := (h.fx f0 h.2.2).sm sm1
  obtain ⟨l, hl, el⟩ : ∃ l, l ≤ 99 ∧ (li1 Y).1 = nI l := lnF_in _
  unfold liR
  by_cases c1 : (li1 Y).2.go = 0
  · rw [if_neg (fun g => g c1)]; exact ri_mk h1
  rw [if_pos c1, el, nI_clamp (by omega)]
  have t1 : (li1 Y).2.tn ≤ 15 := h1.1.1
  by_cases c2 : nI ((li1 Y).2.tn - (li1 Y).2.at1) = 0
  · rw [if_neg (fun g => g c2)]
    revert h1
    generalize (li1 Y).2 = M
    intro h1
    refine ri_mk ⟨⟨h1.1.1, ?_, fun l' a b => ?_⟩, DI_cg (Y := M) rfl rfl h1.2.1, h1.2.2⟩
    · show cnL (upd M.ln l (-1)) 99 ≤ 10
      have := (cnL_up M.ln l (-1) 99).2.2 (Or.inl rfl)
      have := h1.1.2.1
      omega
    · show LK (upd M.ln l (-1)) M.ch l'
      by_cases e : l' = l
      · rw [e]; exact Or.inl pk_us
      · exact LK_up (pk_un e) (fun i _ => rfl) (h1.1.2.2 l' a b)
  · rw [if_pos c2]
    have sz : smP (gtF (li1 Y).2 0 (li1 Y).2.at1 ((li1 Y).2.tn - (li1 Y).2.at1)) (li2 Y).2 := (sm_st0 _).tr (sm_go _ _)
    have g2 : (sR0 (gtF (li1 Y).2 0 (li1 Y).2.at1 ((li1 Y).2.tn - (li1 Y).2.at1))).2.go = (li2 Y).2.go := rfl
    revert h1 sz g2 t1
    generalize (li2 Y).2 = Z
    generalize (li2 Y).1 = g9
    generalize (li1 Y).2 = M
    intro h1 sz g2 t1
    generalize hD : M.tn - M.at1 = d
    rw [hD] at sz g2
    have hd15 : d ≤ 15 := by omega
    have f2 : FX M (gtF M 0 M.at1 d) := ⟨rfl, rfl, rfl, rfl, rfl⟩
    have h2 : RI q Z := (h1.fx f2 h1.2.2).sm sz
    have etx : Z.tx = M.tx := by
      have e : Z = mix (gtF M 0 M.at1 d) Z := sz
      have e2 := congrArg RSt.tx e
      exact e2
    unfold liK
    by_cases c3 : Z.go = 0
    · rw [if_pos c3]; exact ri_mk h2
    rw [if_neg c3]
    by_cases c4 : nI d ≤ 12
    · rw [if_neg (fun g => g c4)]
      have hd12 : d ≤ 12 := (nI_leI (b := 12) (by omega) (by decide)).mp c4
      have gl : GL (fun i => M.tx (M.at1 + i)) d := by
        have s : SI (gtF M 0 M.at1 d) (mkT (fun i => M.tx (M.at1 + i)) d) := GL_of rfl rfl rfl (fun i hi => by
          show (if (0 : Int32) = 0 then M.tx (M.at1 + i) else _) = M.tx (M.at1 + i)
          rw [if_pos rfl])
        unfold GL
        rw [← (s.xsR0 hd15).2, g2]
        exact c3
      have gl2 : GL (liT Z M.at1 d) d := GL_cg hd15 (fun i hi => by
        show M.tx (M.at1 + i) = (if d ≤ i then 0 else Z.tx (M.at1 + i))
        rw [if_neg (by omega), etx]) gl
      have fin : cnL (upd Z.ln l (nI d)) 99 ≤ 10 → RI q (li3 Z l M.at1 d) := fun hc => ⟨⟨h2.1.1, hc, LK_new hd12 gl2 h2.1.2.2⟩, DI_cg (Y := Z) rfl rfl h2.2.1, h2.2.2⟩
      by_cases c5 : Z.ln l = -1
      · rw [if_neg (fun g => g c5)]
        by_cases c6 : nI (cnL Z.ln 99) = 10
        · rw [if_neg (fun g => g c6)]; exact ri_mk h2
        · rw [if_pos c6]
          refine ri_mk (fin ?_)
          have a := (cnL_up Z.ln l (nI d) 99).1
          have b := h2.1.2.1
          have c : ¬ cnL Z.ln 99 = 10 := fun e => c6 (by rw [e]; rfl)
          omega
      · rw [if_pos c5]
        exact ri_mk (fin (Nat.le_trans ((cnL_up Z.ln l (nI d) 99).2.2 (Or.inr c5)) h2.1.2.1))
    · rw [if_pos c4]; exact ri_mk h2
