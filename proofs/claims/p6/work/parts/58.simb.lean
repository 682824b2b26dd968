theorem SS.xpdS : ∀ (f : Nat) (v w : Int32) (k : Nat) {X Y : RSt}, SS X Y → (pdS f v k X).2.1 = (pdS f w k Y).2.1 ∧ SS (pdS f v k X).2.2 (pdS f w k Y).2.2
  | 0, _, _, _, _, _, h => ⟨rfl, h⟩
  | f + 1, v, w, k, X, Y, h => by
    show (if dgt (hrF X) = 0 then (v, k, X) else pdS f (10 * v + hrF X - 48) (k + 1) (atF X)).2.1 = (if dgt (hrF Y) = 0 then (w, k, Y) else pdS f (10 * w + hrF Y - 48) (k + 1) (atF Y)).2.1 ∧ SS (if dgt (hrF X) = 0 then (v, k, X) else pdS f (10 * v + hrF X - 48) (k + 1) (atF X)).2.2 (if dgt (hrF Y) = 0 then (w, k, Y) else pdS f (10 * w + hrF Y - 48) (k + 1) (atF Y)).2.2
    rw [h.1.hr]
    by_cases g : dgt (hrF Y) = 0
    · rw [if_pos g, if_pos g]; exact ⟨rfl, h⟩
    · rw [if_neg g, if_neg g]; exact SS.xpdS f _ _ _ ⟨h.1.at, h.2⟩
