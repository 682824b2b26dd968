theorem asc_lv {x : Int32} (h : ¬ lvl x ≤ 0) : asc x := by
  unfold lvl at h
  by_cases a : x = 42
  · exact ⟨42, by decide, a⟩
  · rw [if_pos a] at h
    by_cases b : x = 43
    · exact ⟨43, by decide, b⟩
    · rw [if_neg b] at h
      by_cases c : x = 45
      · exact ⟨45, by decide, c⟩
      · rw [if_pos c] at h
        exact absurd (by decide) h
