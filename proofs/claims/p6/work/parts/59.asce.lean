theorem AS_cp {Y : RSt} (h : AS Y) (hn : ¬ hrF Y = -1) (ha : asc (hrF Y)) : AS (cpF Y) := AS_step rfl rfl rfl (fun _ => rfl) h hn ha
theorem AS_ps {Y : RSt} (x : Int32) (h : AS Y) (hn : ¬ hrF Y = -1) (ha : asc (hrF Y)) : AS (psF Y x) := AS_step rfl rfl rfl (fun _ => rfl) h hn ha
theorem AS.vl : ∀ (f o : Nat) (w m : Int32) {Y : RSt}, AS Y → AS (vlR f o w m Y).2
  | 0, _, _, _, _, h => h
  | f + 1, o, w, m, Y, h => by
    unfold vlR
    by_cases h1 : m = 0
    · rw [if_pos h1]; exact h
    rw [if_neg h1]
    by_cases h2 : Y.go = 0
    · rw [if_pos h2]; exact h
    rw [if_neg h2]
    by_cases h3 : w = 0
    · rw [if_pos h3]
      by_cases h4 : lvl (hrF Y) ≤ 0
      · rw [if_pos h4]
        by_cases h5 : hrF Y = 41
        · rw [if_neg (fun g => g h5)]
          by_cases h6 : nI o ≤ 0
          · rw [if_pos h6]; exact AS.vl f _ _ _ h
          · rw [if_neg h6]
            have e := sm_rdP Y.sn Y
            have q := rdP_sp Y.sn Y
            have hh : hrF (rdP Y.sn Y) = hrF Y := hr_eq e q.1
            exact AS.vl f _ _ _ (AS_cp (AS.xrdP Y.sn h) (by rw [hh, h5]; decide) (by rw [hh]; exact ⟨41, by decide, h5⟩))
        · rw [if_pos h5]; exact AS.vl f _ _ _ h
      · rw [if_neg h4]
        have e := sm_rdL Y.sn (hrF Y) Y
        have q := rdL_sp Y.sn (hrF Y) Y
        have hh : hrF (rdL Y.sn (hrF Y) Y) = hrF Y := hr_eq e q.1
        exact AS.vl f _ _ _ (AS_ps _ (AS.xrdL Y.sn (hrF Y) h) (by rw [hh]; exact lv_n1 h4) (by rw [hh]; exact asc_lv h4))
    · rw [if_neg h3]; exact AS.vl f _ _ _ h.pi
