theorem SI.va {X Y : RSt} (h : SI X Y) (hen : Y.en ≤ 15) : SI (vaF X).2 (vaF Y).2 := by
  have s0 : SS (vs0 X) (vs0 Y) := ⟨h, rfl, fun i hi => absurd hi (Nat.not_lt_zero _)⟩
  have hx : X.en ≤ 15 := by rw [h.2.1]; exact hen
  have t := SS.vl 20 0 1 1 s0 (fun _ => ⟨⟨rfl, Nat.le_refl _, rfl, by show 0 + 0 + (X.en - X.at1) ≤ 15; omega⟩, ⟨rfl, Nat.le_refl _, rfl, by show 0 + 0 + (Y.en - Y.at1) ≤ 15; omega⟩⟩)
  show SI (rdE (va1 (vlR 20 0 1 1 (vs0 X))).sn (va1 (vlR 20 0 1 1 (vs0 X)))) (rdE (va1 (vlR 20 0 1 1 (vs0 Y))).sn (va1 (vlR 20 0 1 1 (vs0 Y))))
  revert t
  generalize vlR 20 0 1 1 (vs0 X) = a
  generalize vlR 20 0 1 1 (vs0 Y) = c
  obtain ⟨a1, a2⟩ := a
  obtain ⟨c1, c2⟩ := c
  intro t
  have t1 : SS (va1 (a1, a2)) (va1 (c1, c2)) := ⟨t.2.1.go (by rw [show a1 = c1 from t.1]; rw [show a2.go = c2.go from t.2.1.2.2.1]), t.2.2⟩
  revert t1
  generalize va1 (a1, a2) = A
  generalize va1 (c1, c2) = C
  intro t1
  rw [t1.2.1]
  exact (SS.xrdE _ t1).1
theorem SI.bh {X Y : RSt} (h : SI X Y) : bhF X = bhF Y := by
  obtain ⟨a, b, _, d⟩ := h
  show (if X.at1 + 1 < X.en then TX X (X.at1 + 1) else -1) = (if Y.at1 + 1 < Y.en then TX Y (Y.at1 + 1) else -1)
  rw [a, b]
  by_cases g : Y.at1 + 1 < Y.en
  · rw [if_pos g, if_pos g, d _ g]
  · rw [if_neg g, if_neg g]
theorem SI.I2 {X Y : RSt} (h : SI X Y) (hen : Y.en ≤ 15) : SI (iI2 X) (iI2 Y) := by
  have t := h.at.va hen
  refine SI.at (t.go ?_)
  rw [t.2.2.1, t.hr]
theorem SI.I4 {X Y : RSt} (h : SI X Y) (hen : Y.en ≤ 15) : SI (iI4 X).2 (iI4 Y).2 := by
  have t := h.I2 hen
  have e : (iI2 Y).en = Y.en := sm_en ((((sm_at Y).tr (sm_va _)).tr (sm_go _ _)).tr (sm_at _))
  exact ((t.va (by rw [e]; exact hen)).mu 71).ln.2
theorem SI.W2 {X Y : RSt} (h : SI X Y) (hen : Y.en ≤ 15) : SI (iW2 X).2 (iW2 Y).2 :=
  (h.at.dg.2.mu 44).va (by rw [sm_en (((sm_at Y).tr (sm_dg _)).tr (sm_mu _ _))]; exact hen)
theorem en_W3 (Y : RSt) : (iW3 Y).en = Y.en := sm_en (((((sm_at Y).tr (sm_dg _)).tr (sm_mu _ _)).tr (sm_va _)).tr (sm_mu _ _))
theorem SI.W3 {X Y : RSt} (h : SI X Y) (hen : Y.en ≤ 15) : SI (iW3 X) (iW3 Y) := (h.W2 hen).mu 44
theorem SI.R4 {X Y : RSt} (h : SI X Y) (hen : Y.en ≤ 15) : SI (iR4 X) (iR4 Y) := by
  have t := h.W3 hen
  refine SI.at (t.go ?_)
  rw [t.2.2.1, t.hr]
theorem SI.xst0 {X Y : RSt} (h : SI X Y) (hen : Y.en ≤ 15) : (st0 X).1 = (st0 Y).1 ∧ SI (st0 X).2 (st0 Y).2 := by
  unfold st0
  rw [h.hr, h.bh]
  by_cases a : asB (hrF Y) (bhF Y) = 0
  · rw [if_neg (fun g => g a), if_neg (fun g => g a)]
    by_cases b : hrF Y = 80
    · rw [if_pos b, if_pos b]; exact ⟨rfl, h.at.va hen⟩
    rw [if_neg b, if_neg b]
    by_cases b : hrF Y = 73
    · rw [if_pos b, if_pos b]; exact ⟨rfl, h.I4 hen⟩
    rw [if_neg b, if_neg b]
    by_cases b : hrF Y = 71
    · rw [if_pos b, if_pos b]; exact ⟨rfl, h.at.ln.2⟩
    rw [if_neg b, if_neg b]
    by_cases b : hrF Y = 69
    · rw [if_pos b, if_pos b]; exact ⟨rfl, h.at⟩
    rw [if_neg b, if_neg b]
    by_cases b : hrF Y = 87
    · rw [if_pos b, if_pos b]; exact ⟨rfl, (h.W3 hen).va (by rw [en_W3]; exact hen)⟩
    rw [if_neg b, if_neg b]
    by_cases b : hrF Y = 82
    · rw [if_pos b, if_pos b]; exact ⟨rfl, h.R4 hen⟩
    rw [if_neg b, if_neg b]
    exact ⟨rfl, h.at.go rfl⟩
  · rw [if_pos a, if_pos a]
    exact ⟨rfl, (h.at.mu 61).va (by rw [sm_en ((sm_at Y).tr (sm_mu _ _))]; exact hen)⟩
theorem SI.xsR0 {X Y : RSt} (h : SI X Y) (hen : Y.en ≤ 15) : (sR0 X).1 = (sR0 Y).1 ∧ (sR0 X).2.go = (sR0 Y).2.go := by
  have t := h.xst0 hen
  refine ⟨t.1, ?_⟩
  show tgo (st0 X).2 = tgo (st0 Y).2
  unfold tgo
  rw [t.2.1, t.2.2.1, t.2.2.2.1]
