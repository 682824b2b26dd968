/-! the stacks stay in order, without a bound on the place -/
theorem rdL_VI {o : Nat} : ∀ (f : Nat) {x : Int32} {Y : RSt}, ¬ lvl x ≤ 0 → VI Y o 0 → VI (rdL f x Y) o 0
  | 0, _, _, _, h => h
  | f + 1, x, Y, hx, h => by
    show VI (if Y.sn = 0 then Y else if lvl (Y.sg (Y.sn - 1)) < lvl x then Y else rdL f x (reF Y)) o 0
    by_cases g : Y.sn = 0
    · rw [if_pos g]; exact h
    · rw [if_neg g]
      by_cases g2 : lvl (Y.sg (Y.sn - 1)) < lvl x
      · rw [if_pos g2]; exact h
      · rw [if_neg g2]; exact rdL_VI f hx (VI_re h (by omega) (lv40 g2 hx)).2
theorem rdP_VI {o : Nat} (ho : 0 < o) : ∀ (f : Nat) {Y : RSt}, VI Y o 0 → VI (rdP f Y) o 0 ∧ (Y.sn ≤ f → (rdP f Y).sg ((rdP f Y).sn - 1) = 40)
  | 0, Y, h => ⟨h, fun e => absurd h.2.1 (by omega)⟩
  | f + 1, Y, h => by
    show VI (if Y.sg (Y.sn - 1) = 40 then Y else rdP f (reF Y)) o 0 ∧ (Y.sn ≤ f + 1 → (if Y.sg (Y.sn - 1) = 40 then Y else rdP f (reF Y)).sg ((if Y.sg (Y.sn - 1) = 40 then Y else rdP f (reF Y)).sn - 1) = 40)
    have hs := h.2.1
    by_cases g : Y.sg (Y.sn - 1) = 40
    · rw [if_pos g]; exact ⟨h, fun _ => g⟩
    · rw [if_neg g]
      have t := rdP_VI ho f (VI_re h (by omega) g).2
      exact ⟨t.1, fun e => t.2 (by show Y.sn - 1 ≤ f; omega)⟩
theorem piV {Y : RSt} {o : Nat} {w : Int32} (hv : VI Y o w) (hw : ¬ w = 0) (hg : ¬ (piR Y).2.go = 0) : VI (piR Y).2 (if (piR Y).1 = 0 then o + 1 else o) (if (piR Y).1 = 0 then 1 else 0) := by
  obtain ⟨v1, v2, v3, v4⟩ := hv
  rw [if_neg hw] at v3
  revert hg
  unfold piR
  by_cases h : hrF Y = 40
  · rw [if_neg (fun g => g h)]
    intro _
    have hl := hr_lt (Y := Y) (by rw [h]; decide)
    refine ⟨?_, ?_, ?_, ?_⟩
    · show pcn (upd Y.sg Y.sn 40) Y.sn + (if upd Y.sg Y.sn 40 Y.sn = 40 then 1 else 0) = o + 1
      rw [pcn_upd Y.sg Y.sn 40 Y.sn (Nat.le_refl _), pk_us, if_pos rfl, v1]
    · show o + 1 ≤ Y.sn + 1
      omega
    · show Y.nn = Y.sn + 1 - (o + 1) + 0
      omega
    · show Y.nn + (Y.sn + 1) + (Y.en - (Y.at1 + 1)) ≤ 15
      omega
  · rw [if_pos h]
    intro hg
    by_cases hm : mvr (hrF Y) = 0
    · obtain ⟨v', d, e, hd, he⟩ := pdS_sp 6 (pv0 Y) 0 Y
      rw [e] at hg ⊢
      have ea : ((1 : Int32), pc2 (hrF Y) (v', 0 + d, atN Y (Y.at1 + d))).2.at1 = Y.at1 + d := by
        show Y.at1 + d + (if mvr (hrF Y) = 0 then 0 else 1) = _
        rw [if_pos hm]
        rfl
      have hg : ¬ pgo Y.go (hrF Y) (0 + d) = 0 := hg
      have hd0 : 0 < d := by
        rcases Nat.eq_zero_or_pos d with g | g
        · exfalso
          apply hg
          unfold pgo
          by_cases hgo : Y.go = 0
          · rw [if_pos hgo]
          · rw [g, if_neg hgo, if_neg (fun q => q hm), if_pos (show nI (0 + 0) ≤ 0 by decide)]
        · exact g
      have hl := he hd0
      refine ⟨v1, v2, ?_, ?_⟩
      · show Y.nn + 1 = Y.sn - o + 1
        omega
      · rw [ea]
        show Y.nn + 1 + Y.sn + (Y.en - (Y.at1 + d)) ≤ 15
        omega
    · have hl := hr_lt (mvr_n1 hm)
      have e : pdS 6 (pv0 Y) 0 Y = (pv0 Y, 0, Y) := by
        show (if dgt (hrF Y) = 0 then (pv0 Y, 0, Y) else _) = _
        rw [if_pos (mvr_dg hm)]
      rw [e]
      have ea : ((1 : Int32), pc2 (hrF Y) (pv0 Y, 0, Y)).2.at1 = Y.at1 + 1 := by
        show Y.at1 + (if mvr (hrF Y) = 0 then 0 else 1) = _
        rw [if_neg hm]
      refine ⟨v1, v2, ?_, ?_⟩
      · show Y.nn + 1 = Y.sn - o + 1
        omega
      · rw [ea]
        show Y.nn + 1 + Y.sn + (Y.en - (Y.at1 + 1)) ≤ 15
        omega
