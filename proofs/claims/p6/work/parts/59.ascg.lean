theorem AS_W3 {Y : RSt} (h : AS (atF Y)) : AS (iW3 Y) := by
  unfold iW3 iW2
  exact (((h.dg.mu (x := 44) ⟨44, by decide, rfl⟩ (by decide)).va).mu (x := 44) ⟨44, by decide, rfl⟩ (by decide))
theorem AS_R4 {Y : RSt} (h : AS (iW3 Y)) : AS (iR4 Y) := by
  unfold iR4
  revert h
  generalize iW3 Y = M
  intro h
  exact h.goat (fun g => ⟨(rgo_go g).1, mvr_n1 (rgo_go g).2, asc_mv (rgo_go g).2⟩)
theorem AS_I2 {Y : RSt} (h : AS (atF Y)) : AS (iI2 Y) := by
  have t := h.va
  unfold iI2
  revert t
  generalize vaF (atF Y) = M
  intro t
  exact t.goat (fun g => sgo_go g)
theorem AS_I4 {Y : RSt} (h : AS (iI2 Y)) : AS (iI4 Y).2 := by
  unfold iI4
  exact (h.va.mu (x := 71) ⟨71, by decide, rfl⟩ (by decide)).ln
theorem AS.xst0 {Y : RSt} (h : AS Y) : AS (st0 Y).2 := by
  unfold st0
  by_cases a : asB (hrF Y) (bhF Y) = 0
  · rw [if_neg (fun g => g a)]
    by_cases b : hrF Y = 80
    · rw [if_pos b]; exact as_mk ((h.first (n := 80) (by decide) b).va)
    rw [if_neg b]
    by_cases b : hrF Y = 73
    · rw [if_pos b]
      exact as_mk (AS_I4 (AS_I2 (h.first (n := 73) (by decide) b)))
    rw [if_neg b]
    by_cases b : hrF Y = 71
    · rw [if_pos b]; exact as_mk ((h.first (n := 71) (by decide) b).ln)
    rw [if_neg b]
    by_cases b : hrF Y = 69
    · rw [if_pos b]; exact as_mk (h.first (n := 69) (by decide) b)
    rw [if_neg b]
    by_cases b : hrF Y = 87
    · rw [if_pos b]
      have t := AS_W3 (h.first (n := 87) (by decide) b)
      exact as_mk t.va
    rw [if_neg b]
    by_cases b : hrF Y = 82
    · rw [if_pos b]
      exact as_mk (AS_R4 (AS_W3 (h.first (n := 82) (by decide) b)))
    rw [if_neg b]
    exact as_mk (fun g => absurd (show (0 : Int32) = 0 from rfl) g)
  · rw [if_pos a]
    have hm := asB_m a
    exact as_mk (((h.at (mvr_n1 hm) (asc_mv hm)).mu (x := 61) ⟨61, by decide, rfl⟩ (by decide)).va)
theorem tgo_go {Y : RSt} (h : ¬ tgo Y = 0) (he : Y.en < 2 ^ 31) (ha : Y.at1 < 2 ^ 31) : ¬ Y.go = 0 ∧ Y.at1 = Y.en := by
  unfold tgo at h
  by_cases a : Y.go = 0
  · rw [if_pos a] at h; exact absurd rfl h
  rw [if_neg a] at h
  refine ⟨a, ?_⟩
  by_cases b : nI Y.at1 = nI Y.en
  · exact (nI_eq ha he).mp b
  · rw [if_pos b] at h; exact absurd rfl h
