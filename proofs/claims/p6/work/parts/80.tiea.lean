/-! class and reference tied: typing, N, C -/
theorem TIE_ke {L : LSt} {Y : RSt} {x : Int32} (h : TIE L Y) : TIE (keF L x) (if 15 ≤ Y.tn then Y else keR Y x) := by
  have e : L.wc = Y.tn := h.2.1.2.2.2.1
  unfold keF
  by_cases c : 15 ≤ Y.tn
  · rw [if_pos c, if_neg (by omega)]
    exact h
  · rw [if_neg c, if_pos (by omega)]
    refine ⟨h.1, ⟨h.2.1.1, h.2.1.2.1, h.2.1.2.2.1, ?_, fun i hi => ?_⟩, h.2.2⟩
    · show L.wc + 1 = Y.tn + 1
      rw [e]
    · have hi : i < Y.tn + 1 := hi
      show upd L.ty L.wc x i = upd Y.tx Y.tn x i
      rw [e]
      by_cases d : i = Y.tn
      · rw [d, pk_us, pk_us]
      · rw [pk_un d, pk_un d]
        exact h.2.1.2.2.2.2 i (by omega)
theorem TIE_rl {L : LSt} {Y : RSt} (h : TIE L Y) : TIE (rlF L) (nxR (lnAll Y (fun _ => -1)) 0) := by
  have l0 : LN L.nu L.le L.te 0 (fun _ => -1) Y.ch := LN_0 _ _ _ _
  exact ⟨h.1, ⟨l0, h.2.1.2.1, rfl, h.2.1.2.2.2⟩, h.2.2⟩
theorem TIE_cl {L : LSt} {Y : RSt} (h : TIE L Y) : TIE (clF L) (clR Y) := by
  refine ⟨h.1, ⟨h.2.1.1, fun _ _ => rfl, rfl, h.2.1.2.2.2⟩, rfl, fun i _ b => ?_⟩
  exact absurd (show i < 0 from b) (Nat.not_lt_zero _)
theorem TIE_tc {L : LSt} {Y : RSt} (h : TIE L Y) : TIE (tcF L) (tnF Y 0) := ⟨h.1, ⟨h.2.1.1, h.2.1.2.1, h.2.1.2.2.1, rfl, fun i hi => absurd (show i < 0 from hi) (Nat.not_lt_zero _)⟩, h.2.2⟩
