theorem piV {Y : RSt} {o : Nat} {w : Int32} (hv : VI Y o w) (hw : ¬ w = 0) (hg : ¬ (piR Y).2.go = 0) : VI (piR Y).2 (if (piR Y).1 = 0 then o + 1 else o) (if (piR Y).1 = 0 then 1 else 0) := by
  obtain ⟨v1, v2, v3, v4⟩ := hv
  rw [if_neg hw] at v3
  revert hg
  unfold piR
  by_cases h : hrF Y = 40
  · rw [if_neg (fun g => g h)]
    intro _
    have hl := hr_lt (Y := Y) (by rw [h]; decide)
    exact VI_pc1 v1 v2 v3 v4 hl
  · rw [if_pos h]
    by_cases hm : mvr (hrF Y) = 0
    · obtain ⟨v', d, e, hd, he⟩ := pdS_sp 6 (pv0 Y) 0 Y
      rw [e, pc2_G]
      intro hg
      have hg : ¬ pgo (atN Y (Y.at1 + d)).go (hrF Y) (0 + d) = 0 := hg
      have hd0 : 0 < d := by
        rcases Nat.eq_zero_or_pos d with g | g
        · exfalso
          apply hg
          unfold pgo
          by_cases hgo : (atN Y (Y.at1 + d)).go = 0
          · rw [if_pos hgo]
          · rw [g, if_neg (by rw [g] at hgo; exact hgo), if_neg (fun q => q hm), if_pos (show nI (0 + 0) ≤ 0 by decide)]
        · exact g
      have hl := he hd0
      have r : VI (pcG (atN Y (Y.at1 + d)) (pgo (atN Y (Y.at1 + d)).go (hrF Y) (0 + d)) ((atN Y (Y.at1 + d)).at1 + (if mvr (hrF Y) = 0 then 0 else 1)) v') o 0 := by
        refine VI_pcG (Y := atN Y (Y.at1 + d)) v1 v2 (show Y.nn + 1 = Y.sn - o + 1 by omega) ?_
        rw [if_pos hm]
        show Y.nn + 1 + Y.sn + (Y.en - (Y.at1 + d + 0)) ≤ 15
        omega
      exact r
    · have hl := hr_lt (mvr_n1 hm)
      have e : pdS 6 (pv0 Y) 0 Y = (pv0 Y, 0, Y) := by
        show (if dgt (hrF Y) = 0 then (pv0 Y, 0, Y) else _) = _
        rw [if_pos (mvr_dg hm)]
      rw [e, pc2_G]
      intro hg
      have r : VI (pcG Y (pgo Y.go (hrF Y) 0) (Y.at1 + (if mvr (hrF Y) = 0 then 0 else 1)) (pv0 Y)) o 0 := by
        refine VI_pcG v1 v2 (by omega) ?_
        rw [if_neg hm]
        omega
      exact r
