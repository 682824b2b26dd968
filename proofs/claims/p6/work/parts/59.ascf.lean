theorem AS.va {Y : RSt} (h : AS Y) : AS (vaF Y).2 := by
  have t := AS.vl 20 0 1 1 (show AS (vs0 Y) from h)
  unfold vaF va2
  revert t
  generalize vlR 20 0 1 1 (vs0 Y) = a
  intro t
  exact AS.xrdE _ (show AS (goF a.2 (vgo a.2.go a.1)) from t.go (fun g e => g (by unfold vgo; rw [if_pos e])))
theorem sgo_go {g x : Int32} (h : ¬ sgo g x = 0) : ¬ g = 0 ∧ ¬ x = -1 ∧ asc x := by
  unfold sgo at h
  by_cases a : g = 0
  · rw [if_pos a] at h; exact absurd rfl h
  rw [if_neg a] at h
  refine ⟨a, ?_⟩
  by_cases b : x = 60
  · exact ⟨by rw [b]; decide, 60, by decide, b⟩
  rw [if_neg b] at h
  by_cases c : x = 61
  · exact ⟨by rw [c]; decide, 61, by decide, c⟩
  rw [if_neg c] at h
  by_cases d : x = 62
  · exact ⟨by rw [d]; decide, 62, by decide, d⟩
  rw [if_pos d] at h
  exact absurd rfl h
theorem rgo_go {g x : Int32} (h : ¬ rgo g x = 0) : ¬ g = 0 ∧ ¬ mvr x = 0 := by
  unfold rgo at h
  by_cases a : g = 0
  · rw [if_pos a] at h; exact absurd rfl h
  rw [if_neg a] at h
  exact ⟨a, fun e => h (by rw [if_pos e])⟩
theorem AS.first {Y : RSt} (h : AS Y) {n : Nat} (hn : n < 128) (e : hrF Y = nI n) : AS (atF Y) := h.at (by rw [e]; exact fun g => absurd (show nI n < 0 by rw [g]; decide) (nI_pos (by omega))) ⟨n, hn, e⟩
