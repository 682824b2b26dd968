theorem RI_sa {q : Nat} {Y : RSt} {n : Nat} (h : RI q Y) (hd : Y.de = 0) (hn : n < 8) (hf : ¬ fmtv Y.dk = 0) : RI q (saR Y n).2 := by
  have ok := (DI_fok h.2.1 hd).2
  have hc := h.1.2.1
  unfold saR
  by_cases c1 : nI (cnL Y.ln 99) = 0
  · rw [if_pos c1]; exact ri_mk h
  rw [if_neg c1]
  have hc0 : 1 ≤ cnL Y.ln 99 := by
    rcases Nat.eq_zero_or_pos (cnL Y.ln 99) with g | g
    · exact absurd (by rw [g]; rfl) c1
    · exact g
  by_cases c2 : rmR Y.dk ((1 + 4 * cnL Y.ln 99 + 15) / 16) (nI n) (24 - (1 + 4 * cnL Y.ln 99 + 15) / 16) 9 = -1
  · rw [if_pos c2]; exact ri_mk h
  rw [if_neg c2]
  obtain ⟨b, hb1, hb2, eb, hu⟩ := rmB (m := (1 + 4 * cnL Y.ln 99 + 15) / 16) (by omega) hn c2
  rw [eb, nI_clamp (by omega)]
  have hb3 : b + bl (cnL Y.ln 99) ≤ 32 := hb2
  have hbl : bl (cnL Y.ln 99) ≤ 3 := by unfold bl; omega
  refine (dn_mk (RI_cm (S := sy6 Y n b) h (sy6_fo Y n b).1 (sy6_fo Y n b).2 hf (by rw [sy6_my]; omega) (fun k hk => ?_) (fun _ => ?_))).1
  · rw [sy6_my] at hk
    rcases Nat.eq_zero_or_pos k with g | g
    · rw [g, sy6_w0]; exact ⟨1, rfl, Or.inl rfl⟩
    · obtain ⟨j, rfl⟩ : ∃ j, k = 1 + j := ⟨k - 1, by omega⟩
      rw [sy6_wk Y n b (by omega)]
      exact ⟨b + j, rfl, Or.inr ⟨by omega, by omega⟩⟩
  · rw [sy6_my]
    exact FOK_sa h.1 ok hn hc0 hb1 hb3 hu
