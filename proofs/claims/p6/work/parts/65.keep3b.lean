theorem sm_sR0 (X : RSt) : smP X (sR0 X).2 := by
  have t := sm_st0 X
  unfold sR0
  revert t
  generalize st0 X = w
  intro t
  exact sm_mk (t.tr (sm_go _ _))
theorem sm_tx {Y Z : RSt} (h : smP Y Z) : Z.tx = Y.tx := (congrArg RSt.tx (show Z = mix Y Z from h) : RSt.tx Z = RSt.tx (mix Y Z))
theorem FX_gt (M : RSt) (x : Int32) (a d : Nat) : FX M (gtF M x a d) := ⟨rfl, rfl, rfl, rfl, rfl⟩
theorem GL_li {M Z : RSt} {d : Nat} (hd : d ≤ 15) (sz : smP (gtF M 0 M.at1 d) Z) (g2 : (sR0 (gtF M 0 M.at1 d)).2.go = Z.go) (c3 : ¬ Z.go = 0) : GL (liT Z M.at1 d) d := by
  have etx0 : Z.tx = (gtF M 0 M.at1 d).tx := sm_tx sz
  have etx : Z.tx = M.tx := etx0
  have s : SI (gtF M 0 M.at1 d) (mkT (fun i => M.tx (M.at1 + i)) d) := GL_of rfl rfl rfl (fun i hi => by
    show (if (0 : Int32) = 0 then M.tx (M.at1 + i) else _) = M.tx (M.at1 + i)
    rw [if_pos rfl])
  have e0 := (s.xsR0 hd).2
  have gl : GL (fun i => M.tx (M.at1 + i)) d := fun e => c3 (by rw [← g2, e0]; exact e)
  exact GL_cg hd (fun i hi => by
    show M.tx (M.at1 + i) = (if d ≤ i then 0 else Z.tx (M.at1 + i))
    rw [if_neg (by omega), etx]) gl
theorem RI_li3 {q : Nat} {Z : RSt} {l a d : Nat} (h2 : RI q Z) (hd : d ≤ 12) (gl : GL (liT Z a d) d) (hc : cnL (upd Z.ln l (nI d)) 99 ≤ 10) : RI q (li3 Z l a d) := ⟨⟨h2.1.1, hc, LK_new hd gl h2.1.2.2⟩, DI_cg (Y := Z) rfl rfl h2.2.1, h2.2.2⟩
theorem RI_liK {q : Nat} {M Z : RSt} {l d : Nat} {g9 : Int32} (h1 : RI q M) (hd15 : d ≤ 15) (sz : smP (gtF M 0 M.at1 d) Z) (g2 : (sR0 (gtF M 0 M.at1 d)).2.go = Z.go) : RI q (liK Z l M.at1 d g9).2 := by
  have h2 : RI q Z := (h1.fx (FX_gt M 0 M.at1 d) h1.2.2).sm sz
  unfold liK
  by_cases c3 : Z.go = 0
  · rw [if_pos c3]; exact ri_mk h2
  rw [if_neg c3]
  have gl := GL_li hd15 sz g2 c3
  by_cases c4 : nI d ≤ 12
  · rw [if_neg (fun g => g c4)]
    have hd12 : d ≤ 12 := (nI_leI (b := 12) (by omega) (by decide)).mp c4
    by_cases c5 : Z.ln l = -1
    · rw [if_neg (fun g => g c5)]
      by_cases c6 : nI (cnL Z.ln 99) = 10
      · rw [if_neg (fun g => g c6)]; exact ri_mk h2
      · rw [if_pos c6]
        refine ri_mk (RI_li3 h2 hd12 gl ?_)
        have a := (cnL_up Z.ln l (nI d) 99).1
        have b := h2.1.2.1
        have c : ¬ cnL Z.ln 99 = 10 := fun e => c6 (by rw [e]; rfl)
        omega
    · rw [if_pos c5]
      exact ri_mk (RI_li3 h2 hd12 gl (Nat.le_trans ((cnL_up Z.ln l (nI d) 99).2.2 (Or.inr c5)) h2.1.2.1))
  · rw [if_pos c4]; exact ri_mk h2
theorem RI_liD {q : Nat} {M : RSt} {l : Nat} (h1 : RI q M) : RI q (lnAll M (upd M.ln l (-1))) := by
  refine ⟨⟨h1.1.1, ?_, fun l' a b => ?_⟩, DI_cg (Y := M) rfl rfl h1.2.1, h1.2.2⟩
  · show cnL (upd M.ln l (-1)) 99 ≤ 10
    have := (cnL_up M.ln l (-1) 99).2.2 (Or.inl rfl)
    have := h1.1.2.1
    omega
  · show LK (upd M.ln l (-1)) M.ch l'
    by_cases e : l' = l
    · rw [e]; exact Or.inl pk_us
    · exact LK_up (pk_un e) (fun i _ => rfl) (h1.1.2.2 l' a b)
theorem RI_li1 {q : Nat} {Y : RSt} (h : RI q Y) : RI q (li1 Y).2 := by
  unfold li1
  exact (h.fx (FX_gt Y 0 0 Y.tn) h.2.2).sm (sm_ln _)
theorem RI_li {q : Nat} {Y : RSt} (h : RI q Y) : RI q (liR Y).2 := by
  have h1 := RI_li1 h
  have el : ∃ l, l ≤ 99 ∧ (li1 Y).1 = nI l := by unfold li1; exact lnF_in _
  unfold liR li2
  revert h1 el
  generalize li1 Y = w
  intro h1 el
  obtain ⟨l, hl, el⟩ := el
  by_cases c1 : w.2.go = 0
  · rw [if_neg (fun g => g c1)]; exact ri_mk h1
  rw [if_pos c1, el]
  by_cases c2 : nI (w.2.tn - w.2.at1) = 0
  · rw [if_neg (fun g => g c2)]; exact ri_mk (RI_liD h1)
  · rw [if_pos c2]
    exact RI_liK h1 (by have := h1.1.1; omega) (sm_sR0 _) rfl
