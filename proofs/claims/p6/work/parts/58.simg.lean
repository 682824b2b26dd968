/-! the stacks stay in order, without a bound on the place -/
theorem rdL_VI {o : Nat} : ∀ (f : Nat) {x : Int32} {Y : RSt}, ¬ lvl x ≤ 0 → VI Y o 0 → VI (rdL f x Y) o 0
  | 0, _, _, _, h => h
  | f + 1, x, Y, hx, h => by
    show VI (if Y.sn = 0 then Y else if lvl (Y.sg (Y.sn - 1)) < lvl x then Y else rdL f x (reF Y)) o 0
    by_cases g : Y.sn = 0
    · rw [if_pos g]; exact h
    · rw [if_neg g]
      by_cases g2 : lvl (Y.sg (Y.sn - 1)) < lvl x
      · rw [if_pos g2]; exact h
      · rw [if_neg g2]; exact rdL_VI f hx (VI_re h (by omega) (lv40 g2 hx)).2
theorem rdP_VI {o : Nat} (ho : 0 < o) : ∀ (f : Nat) {Y : RSt}, VI Y o 0 → VI (rdP f Y) o 0 ∧ (Y.sn ≤ f → (rdP f Y).sg ((rdP f Y).sn - 1) = 40)
  | 0, Y, h => ⟨h, fun e => absurd h.2.1 (by omega)⟩
  | f + 1, Y, h => by
    show VI (if Y.sg (Y.sn - 1) = 40 then Y else rdP f (reF Y)) o 0 ∧ (Y.sn ≤ f + 1 → (if Y.sg (Y.sn - 1) = 40 then Y else rdP f (reF Y)).sg ((if Y.sg (Y.sn - 1) = 40 then Y else rdP f (reF Y)).sn - 1) = 40)
    have hs := h.2.1
    by_cases g : Y.sg (Y.sn - 1) = 40
    · rw [if_pos g]; exact ⟨h, fun _ => g⟩
    · rw [if_neg g]
      have t := rdP_VI ho f (VI_re h (by omega) g).2
      exact ⟨t.1, fun e => t.2 (by show Y.sn - 1 ≤ f; omega)⟩
