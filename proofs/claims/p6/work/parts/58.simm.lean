theorem and_mk {a : Int32} {A B : RSt} (h : SI A B) : ((a, A) : Int32 × RSt).1 = ((a, B) : Int32 × RSt).1 ∧ SI ((a, A) : Int32 × RSt).2 ((a, B) : Int32 × RSt).2 := ⟨rfl, h⟩
theorem SI.xst0 {X Y : RSt} (h : SI X Y) (hen : Y.en ≤ 15) : (st0 X).1 = (st0 Y).1 ∧ SI (st0 X).2 (st0 Y).2 := by
  unfold st0
  rw [h.hr, h.bh]
  by_cases a : asB (hrF Y) (bhF Y) = 0
  · have na : ¬ ¬ asB (hrF Y) (bhF Y) = 0 := fun g => g a
    rw [if_neg na, if_neg na]
    by_cases b : hrF Y = 80
    · rw [if_pos b, if_pos b]; exact and_mk (h.at.va hen)
    rw [if_neg b, if_neg b]
    by_cases b : hrF Y = 73
    · rw [if_pos b, if_pos b]; exact and_mk (h.I4 hen)
    rw [if_neg b, if_neg b]
    by_cases b : hrF Y = 71
    · rw [if_pos b, if_pos b]; exact and_mk (h.at.ln.2)
    rw [if_neg b, if_neg b]
    by_cases b : hrF Y = 69
    · rw [if_pos b, if_pos b]; exact and_mk (h.at)
    rw [if_neg b, if_neg b]
    by_cases b : hrF Y = 87
    · rw [if_pos b, if_pos b]; exact and_mk ((h.W3 hen).va (by rw [en_W3]; exact hen))
    rw [if_neg b, if_neg b]
    by_cases b : hrF Y = 82
    · rw [if_pos b, if_pos b]; exact and_mk (h.R4 hen)
    rw [if_neg b, if_neg b]
    exact and_mk (h.at.go rfl)
  · rw [if_pos a, if_pos a]
    exact and_mk ((h.at.mu 61).va (by rw [sm_en ((sm_at Y).tr (sm_mu _ _))]; exact hen))
theorem SI.xsR0 {X Y : RSt} (h : SI X Y) (hen : Y.en ≤ 15) : (sR0 X).1 = (sR0 Y).1 ∧ (sR0 X).2.go = (sR0 Y).2.go := by
  have t := h.xst0 hen
  unfold sR0
  revert t
  generalize st0 X = a
  generalize st0 Y = c
  obtain ⟨a1, a2⟩ := a
  obtain ⟨c1, c2⟩ := c
  intro t
  have t1 : a1 = c1 := t.1
  have t2 : SI a2 c2 := t.2
  refine ⟨t1, ?_⟩
  show tgo a2 = tgo c2
  unfold tgo
  rw [t2.1, t2.2.1, t2.2.2.1]
