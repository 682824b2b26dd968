theorem SS.vl : ∀ (f o : Nat) (w m : Int32) {X Y : RSt}, SS X Y → (¬ Y.go = 0 → VI X o w ∧ VI Y o w) → (vlR f o w m X).1 = (vlR f o w m Y).1 ∧ SS (vlR f o w m X).2 (vlR f o w m Y).2
  | 0, _, _, _, _, _, h, _ => ⟨rfl, h⟩
  | f + 1, o, w, m, X, Y, h, hv => by
    unfold vlR
    rw [h.1.hr, h.1.2.2.1]
    by_cases h1 : m = 0
    · rw [if_pos h1, if_pos h1]; exact ⟨rfl, h⟩
    rw [if_neg h1, if_neg h1]
    by_cases h2 : Y.go = 0
    · rw [if_pos h2, if_pos h2]; exact ⟨rfl, h⟩
    rw [if_neg h2, if_neg h2]
    obtain ⟨vx, vy⟩ := hv h2
    by_cases h3 : w = 0
    · subst h3
      rw [if_pos rfl, if_pos rfl]
      by_cases h4 : lvl (hrF Y) ≤ 0
      · rw [if_pos h4, if_pos h4]
        by_cases h5 : hrF Y = 41
        · have nh : ¬ ¬ hrF Y = 41 := fun g => g h5
          rw [if_neg nh, if_neg nh]
          by_cases h6 : nI o ≤ 0
          · rw [if_pos h6, if_pos h6]; exact SS.vl f _ _ _ h hv
          · rw [if_neg h6, if_neg h6, h.2.1]
            have ho : 0 < o := by
              rcases Nat.eq_zero_or_pos o with g | g
              · exact absurd (by rw [g]; decide) h6
              · exact g
            have sp := SS.xrdP ho Y.sn h vx vy
            have px := rdP_VI ho Y.sn vx
            have py := rdP_VI ho Y.sn vy
            have qx := rdP_sp Y.sn X
            have qy := rdP_sp Y.sn Y
            have hl := hr_lt (Y := Y) (by rw [h5]; decide)
            refine SS.vl f _ _ _ (SS_cp sp) (fun _ => ⟨VI_cp px.1 ho (px.2 (by rw [h.2.1]; exact Nat.le_refl _)) ?_, VI_cp py.1 ho (py.2 (Nat.le_refl _)) ?_⟩)
            · rw [qx.1, qx.2.1, h.1.1, h.1.2.1]; exact hl
            · rw [qy.1, qy.2.1]; exact hl
        · rw [if_pos h5, if_pos h5]; exact SS.vl f _ _ _ h hv
      · rw [if_neg h4, if_neg h4, h.2.1]
        have sp := SS.xrdL Y.sn (hrF Y) h
        have px := rdL_VI Y.sn h4 vx
        have py := rdL_VI Y.sn h4 vy
        have qx := rdL_sp Y.sn (hrF Y) X
        have qy := rdL_sp Y.sn (hrF Y) Y
        have hl := hr_lt (lv_n1 h4)
        refine SS.vl f _ _ _ (SS_ps sp _) (fun _ => ⟨VI_ps px h4 ?_, VI_ps py h4 ?_⟩)
        · rw [qx.1, qx.2.1, h.1.1, h.1.2.1]; exact hl
        · rw [qy.1, qy.2.1]; exact hl
    · rw [if_neg h3, if_neg h3]
      have t := h.pi
      rw [t.1]
      refine SS.vl f _ _ _ t.2 (fun g => ⟨?_, piV vy h3 g⟩)
      have q := piV vx h3 (by rw [t.2.1.2.2.1]; exact g)
      rw [t.1] at q
      exact q
