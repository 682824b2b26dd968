theorem sy6_my (Y : RSt) (n b : Nat) : (sy6 Y n b).my = 1 + bl (cnL Y.ln 99) := rfl
theorem sy6_w0 (Y : RSt) (n b : Nat) : (sy6 Y n b).wh 0 = 1 := by
  show fl 1 0 ((1 + 4 * cnL Y.ln 99 + 15) / 16) (fun k => nI (b + k)) (upd Y.wh 0 1) 0 = 1
  unfold fl
  rw [if_neg (by omega), pk_us]
theorem sy6_wk (Y : RSt) (n b : Nat) {k : Nat} (hk : k < bl (cnL Y.ln 99)) : (sy6 Y n b).wh (1 + k) = nI (b + k) := by
  show fl 1 0 ((1 + 4 * cnL Y.ln 99 + 15) / 16) (fun k => nI (b + k)) (upd Y.wh 0 1) (1 + k) = nI (b + k)
  unfold fl
  rw [if_pos ⟨by omega, by unfold bl at hk; omega⟩]
  show nI (b + (1 + k - 1)) = nI (b + k)
  rw [show 1 + k - 1 = k by omega]
theorem sy6_c (Y : RSt) (n b : Nat) : (sy6 Y n b).ce = svN (sy3 (sy2 Y n b)) (sy3 (sy2 Y n b)).ce 99 := rfl
def FO (Y Z : RSt) : Prop := FX Y Z ∧ Z.os = Y.os
theorem FO.tr {X Y Z : RSt} (h : FO X Y) (g : FO Y Z) : FO X Z := ⟨⟨g.1.1.trans h.1.1, g.1.2.1.trans h.1.2.1, g.1.2.2.1.trans h.1.2.2.1, g.1.2.2.2.1.trans h.1.2.2.2.1, g.1.2.2.2.2.trans h.1.2.2.2.2⟩, g.2.trans h.2⟩
theorem FO_my (Y : RSt) (x : Nat) : FO Y (myF Y x) := ⟨⟨rfl, rfl, rfl, rfl, rfl⟩, rfl⟩
theorem FO_wh (Y : RSt) (f : Nat → Int32) : FO Y (whF Y f) := ⟨⟨rfl, rfl, rfl, rfl, rfl⟩, rfl⟩
theorem FO_ce (Y : RSt) (f : Nat → Int32) : FO Y (ceF Y f) := ⟨⟨rfl, rfl, rfl, rfl, rfl⟩, rfl⟩
theorem FO_di (Y : RSt) (n : Nat) (x y : Int32) : FO Y (diR Y n x y) := ⟨⟨rfl, rfl, rfl, rfl, rfl⟩, rfl⟩
theorem sy6_fo (Y : RSt) (n b : Nat) : FO Y (sy6 Y n b) := by
  unfold sy6 sy5 sy4 sy3 sy2
  exact (((((FO_di Y n _ _).tr (FO_ce _ _)).tr (FO_ce _ _)).tr (FO_ce _ _)).tr (FO_wh _ _)).tr (FO_my _ _)
theorem sy3_ln (Y : RSt) (n b : Nat) : (sy3 (sy2 Y n b)).ln = Y.ln ∧ (sy3 (sy2 Y n b)).ch = Y.ch := ⟨rfl, rfl⟩
theorem sy3_e0 (Y : RSt) (n b : Nat) : ∀ i, 17 ≤ i → i < 96 → (sy3 (sy2 Y n b)).ce i = 0 := fun i h1 h2 => by
  show upd (fl 0 16 96 (fun _ => 0) (diR Y n (nI (1 + 4 * cnL Y.ln 99)) (nI b)).ce) 16 (nI (cnL Y.ln 99)) i = 0
  rw [pk_un (by omega)]
  unfold fl
  rw [if_pos (by omega)]
theorem sy3_16 (Y : RSt) (n b : Nat) : (sy3 (sy2 Y n b)).ce 16 = nI (cnL Y.ln 99) := by
  show upd (fl 0 16 96 (fun _ => 0) (diR Y n (nI (1 + 4 * cnL Y.ln 99)) (nI b)).ce) 16 (nI (cnL Y.ln 99)) 16 = _
  rw [pk_us]
theorem sy3_lo (Y : RSt) (n b : Nat) {i : Nat} (hi : i < 16) : (sy3 (sy2 Y n b)).ce i = if i = 2 * n then nI (1 + 4 * cnL Y.ln 99) else if i = 2 * n + 1 then nI b else Y.dk (16 + i) := by
  show upd (fl 0 16 96 (fun _ => 0) (diR Y n (nI (1 + 4 * cnL Y.ln 99)) (nI b)).ce) 16 (nI (cnL Y.ln 99)) i = _
  rw [pk_un (by omega), show fl 0 16 96 (fun _ => 0) (diR Y n (nI (1 + 4 * cnL Y.ln 99)) (nI b)).ce i = (diR Y n (nI (1 + 4 * cnL Y.ln 99)) (nI b)).ce i by unfold fl; rw [if_neg (by omega)], diR_c Y n _ _ i hi]
