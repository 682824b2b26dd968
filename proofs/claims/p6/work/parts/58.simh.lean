theorem VI_pcG {Y : RSt} {o : Nat} {g : Int32} {n : Nat} {v : Int32} (h1 : pcn Y.sg Y.sn = o) (h2 : o ≤ Y.sn) (h3 : Y.nn + 1 = Y.sn - o + 1) (h4 : Y.nn + 1 + Y.sn + (Y.en - n) ≤ 15) : VI (pcG Y g n v) o 0 := ⟨h1, h2, h3, h4⟩
theorem VI_pc1 {Y : RSt} {o : Nat} (h1 : pcn Y.sg Y.sn = o) (h2 : o ≤ Y.sn) (h3 : Y.nn = Y.sn - o) (h4 : Y.nn + Y.sn + (Y.en - Y.at1) ≤ 15) (hl : Y.at1 < Y.en) : VI (pc1 Y) (o + 1) 1 := by
  refine ⟨?_, ?_, ?_, ?_⟩
  · show pcn (upd Y.sg Y.sn 40) Y.sn + (if upd Y.sg Y.sn 40 Y.sn = 40 then 1 else 0) = o + 1
    rw [pcn_upd Y.sg Y.sn 40 Y.sn (Nat.le_refl _), pk_us, if_pos rfl, h1]
  · show o + 1 ≤ Y.sn + 1
    omega
  · show Y.nn = Y.sn + 1 - (o + 1) + 0
    omega
  · show Y.nn + (Y.sn + 1) + (Y.en - (Y.at1 + 1)) ≤ 15
    omega
