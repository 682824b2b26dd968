theorem SI.bh {X Y : RSt} (h : SI X Y) : bhF X = bhF Y := by
  obtain ⟨a, b, _, d⟩ := h
  show (if X.at1 + 1 < X.en then TX X (X.at1 + 1) else -1) = (if Y.at1 + 1 < Y.en then TX Y (Y.at1 + 1) else -1)
  rw [a, b]
  by_cases g : Y.at1 + 1 < Y.en
  · rw [if_pos g, if_pos g, d _ g]
  · rw [if_neg g, if_neg g]
theorem SI.I2 {X Y : RSt} (h : SI X Y) (hen : Y.en ≤ 15) : SI (iI2 X) (iI2 Y) := by
  have t := h.at.va hen
  refine SI.at (t.go ?_)
  rw [t.2.2.1, t.hr]
theorem SI.I4 {X Y : RSt} (h : SI X Y) (hen : Y.en ≤ 15) : SI (iI4 X).2 (iI4 Y).2 := by
  have t := h.I2 hen
  have e : (iI2 Y).en = Y.en := sm_en ((((sm_at Y).tr (sm_va _)).tr (sm_go _ _)).tr (sm_at _))
  exact ((t.va (by rw [e]; exact hen)).mu 71).ln.2
theorem SI.W2 {X Y : RSt} (h : SI X Y) (hen : Y.en ≤ 15) : SI (iW2 X).2 (iW2 Y).2 :=
  (h.at.dg.2.mu 44).va (by rw [sm_en (((sm_at Y).tr (sm_dg _)).tr (sm_mu _ _))]; exact hen)
theorem en_W3 (Y : RSt) : (iW3 Y).en = Y.en := sm_en (((((sm_at Y).tr (sm_dg _)).tr (sm_mu _ _)).tr (sm_va _)).tr (sm_mu _ _))
theorem SI.W3 {X Y : RSt} (h : SI X Y) (hen : Y.en ≤ 15) : SI (iW3 X) (iW3 Y) := (h.W2 hen).mu 44
theorem SI.R4 {X Y : RSt} (h : SI X Y) (hen : Y.en ≤ 15) : SI (iR4 X) (iR4 Y) := by
  have t := h.W3 hen
  refine SI.at (t.go ?_)
  rw [t.2.2.1, t.hr]
