theorem lcm_0 (x : Int64) : lg_cmp x x = 0 := (lg_cmp_eq x x).mpr rfl
def zL0 : LSt := (-1, 0, 0, fun _ => 0, 0, fun _ => 0, fun _ => 0, 0, 0, 0, fun _ => 0, fun _ => 0, fun _ => 0, fun _ => 0, fun _ => 0, fun _ => 0, 0, 0, 0, 0, 0, 0, 0, 0, 0, 0, fun _ => 0, fun _ => 0, fun _ => 0, 0)
theorem TIE_zero : TIE zL0 (noF zR1) := ⟨⟨rfl, rfl, rfl, fun _ _ => rfl⟩, WS_em (EM_no zR1) rfl rfl rfl rfl, rfl, fun i _ h => absurd (show i < 0 from h) (Nat.not_lt_zero _)⟩
