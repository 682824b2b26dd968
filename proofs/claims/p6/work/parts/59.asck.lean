theorem sm_I2 (Y : RSt) : smP Y (iI2 Y) := (((sm_at Y).tr (sm_va _)).tr (sm_go _ _)).tr (sm_at _)
theorem sm_W3 (Y : RSt) : smP Y (iW3 Y) := ((((sm_at Y).tr (sm_dg _)).tr (sm_mu _ _)).tr (sm_va _)).tr (sm_mu _ _)
theorem sm_R4 (Y : RSt) : smP Y (iR4 Y) := ((sm_W3 Y).tr (sm_go _ _)).tr (sm_at _)
theorem sm_I4 (Y : RSt) : smP Y (iI4 Y).2 := (((sm_I2 Y).tr (sm_va _)).tr (sm_mu _ _)).tr (sm_ln _)
theorem sm_mk {a : Int32} {Y A : RSt} (h : smP Y A) : smP Y ((a, A) : Int32 × RSt).2 := h
theorem sm_st0 (Y : RSt) : smP Y (st0 Y).2 := by
  unfold st0
  repeat' split
  · exact sm_mk (((sm_at Y).tr (sm_mu _ _)).tr (sm_va _))
  · exact sm_mk ((sm_at Y).tr (sm_va _))
  · exact sm_mk (sm_I4 Y)
  · exact sm_mk ((sm_at Y).tr (sm_ln _))
  · exact sm_mk (sm_at Y)
  · exact sm_mk ((sm_W3 Y).tr (sm_va _))
  · exact sm_mk (sm_R4 Y)
  · exact sm_mk ((sm_at Y).tr (sm_go _ _))
theorem at_le {Y : RSt} (h : AS Y) (g : ¬ Y.go = 0) : Y.at1 ≤ Y.en := (h g).1
theorem GL_asc {t : Nat → Int32} {d : Nat} (hd : d ≤ 15) (g : GL t d) : ∀ i, i < d → asc (t i) := by
  have h : AS (mkT t d) := fun _ => ⟨Nat.zero_le _, fun i hi => absurd hi (Nat.not_lt_zero _)⟩
  have h2 := h.xst0
  have g1 : ¬ tgo (st0 (mkT t d)).2 = 0 := g
  have sm : smP (mkT t d) (st0 (mkT t d)).2 := sm_st0 _
  have en0 : (mkT t d).en = d := rfl
  have tx0 : ∀ i, TX (mkT t d) i = t i := fun i => by
    show (if (0 : Int32) = 0 then t (0 + i) else _) = t i
    rw [if_pos rfl, Nat.zero_add]
  revert h2 g1 sm
  generalize st0 (mkT t d) = w
  obtain ⟨w1, w2⟩ := w
  intro h2 g1 sm
  have h2 : AS w2 := h2
  have g1 : ¬ tgo w2 = 0 := g1
  have sm : smP (mkT t d) w2 := sm
  have g2 : ¬ w2.go = 0 := fun e => g1 (by unfold tgo; rw [if_pos e])
  have en : w2.en = d := (sm_en sm).trans en0
  have l := at_le h2 g2
  rw [en] at l
  have q := tgo_go g1 (by rw [en]; omega) (by omega)
  intro i hi
  have r := (h2 g2).2 i (by rw [q.2, en]; exact hi)
  rw [TX_sm sm, tx0] at r
  exact r
