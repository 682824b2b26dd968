/-! class and reference tied: records -/
theorem lt16 (i : Int32) : i < 16 ↔ i ≤ 15 := by
  rw [Int32.lt_iff_toInt_lt, Int32.le_iff_toInt_le]
  have e1 : (16 : Int32).toInt = 16 := by decide
  have e2 : (15 : Int32).toInt = 15 := by decide
  omega
theorem rfl_eq {L : LSt} {Y : RSt} {n : Nat} {i : Int32} (h : TIE L Y) (hn : n < 8) : rflF L.g (nI n) i = if ¬ fmtv Y.dk = 0 then (if i < 0 then 4 else if i ≤ 15 then (if Y.dk (16 + 2 * n) = 0 then 0 else if ¬ Y.dk (16 + 2 * n) = 16 then 4 else 0) else 4) else 8 := by
  unfold rflF
  rw [fm_tie h, cv16 (h := Y.dk) h.1.2.2.2 hn]
  by_cases c : i ≤ 15
  · rw [if_pos c, if_pos ((lt16 i).mpr c)]
  · rw [if_neg c, if_neg (fun z => c ((lt16 i).mp z))]
theorem TIE_va {L : LSt} {Y : RSt} {t : Nat} {x y : Int32} (h : TIE L Y) (e : x = y) (a : LSt) (ha : a = (L.ar, L.de, L.wr, L.g, L.jt, L.ro, L.hd, L.wn, L.nx, L.wc, L.nu, L.le, L.te, L.un, upd L.va t x, L.ty, L.en, L.at1, L.go, L.kd, L.vr, L.fi, L.lf, L.sg, L.rt, L.tg, L.tx, L.tv, L.kf, L.oc)) : TIE a (vaAll Y (upd Y.va t y)) := by
  subst ha
  subst e
  refine ⟨h.1, ⟨h.2.1.1, fun i hi => ?_, h.2.1.2.2⟩, h.2.2⟩
  show upd L.va t x i = upd Y.va t x i
  by_cases c : i = t
  · rw [c, pk_us, pk_us]
  · rw [pk_un c, pk_un c]
    exact h.2.1.2.1 i hi
theorem TIE_rr {L : LSt} {Y : RSt} {n t : Nat} {i : Int32} (h : TIE L Y) (hn : n < 8) (ht : t < 8) (hrec : Y.dk (16 + 2 * n) = 16 → ∃ f, f < 32 ∧ Y.dk (17 + 2 * n) = nI f) : (rdrF L (nI n) i (nI t)).1 = (rrR Y n i t).1 ∧ TIE (rdrF L (nI n) i (nI t)).2 (rrR Y n i t).2 := by
  have ge : GE L.g Y.dk := h.1.2.2.2
  unfold rdrF rrR
  rw [rfl_eq h hn, cv16 ge hn, cv17 ge hn]
  have z : ∀ x : Int32, ¬ x = 0 → ∀ p q : Int32 × LSt, (if x = 0 then p else q) = q := fun x hx p q => if_neg hx
  by_cases c1 : fmtv Y.dk = 0
  · have nc : ¬ ¬ fmtv Y.dk = 0 := fun g => g c1
    rw [if_neg nc, if_neg nc, z 8 (by decide)]
    exact mk2 rfl h
  rw [if_pos c1, if_pos c1]
  by_cases c2 : i < 0
  · rw [if_pos c2, if_pos c2, z 4 (by decide)]
    exact mk2 rfl h
  rw [if_neg c2, if_neg c2]
  by_cases c3 : i ≤ 15
  · have nc : ¬ ¬ i ≤ 15 := fun g => g c3
    rw [if_pos c3, if_neg nc]
    by_cases c4 : Y.dk (16 + 2 * n) = 0
    · have nc4 : ¬ ¬ Y.dk (16 + 2 * n) = 0 := fun g => g c4
      rw [if_pos c4, if_neg nc4, if_neg nc4, if_pos rfl]
      exact mk2 rfl h
    · rw [if_neg c4, if_pos c4, if_pos c4]
      by_cases c5 : Y.dk (16 + 2 * n) = 16
      · have nc5 : ¬ ¬ Y.dk (16 + 2 * n) = 16 := fun g => g c5
        rw [if_neg nc5, if_pos c5, if_pos rfl]
        obtain ⟨f, hf, ef⟩ := hrec c5
        obtain ⟨j, hj, rfl⟩ := nI_of2 (M := 15) (n := 15) (by decide) c2 c3
        refine mk2 rfl (TIE_va h ?_ _ (by rw [nI_clamp (show t < 2 ^ 31 by omega)]))
        have e : nI f * 16 + nI j = nI (16 * f + j) := by
          have a : nI f * 16 = nI (f * 16) := pk_mul f 16
          rw [a, nI_add, Nat.mul_comm f 16]
        rw [ef, e, cellv_in (by omega), nI_clamp (by omega), nI_clamp (by omega)]
        exact ge _ (by omega)
      · rw [if_pos c5, if_neg c5, z 4 (by decide)]
        exact mk2 rfl h
  · rw [if_neg c3, if_pos c3, z 4 (by decide)]
    exact mk2 rfl h
theorem hdS_rw (Y : RSt) (q : Nat) (z i v : Int32) (k : Nat) : hdS (rwC Y q z i v) k = if k = 0 then nI (Y.my + 1) else if Y.my + 1 < k then 0 else upd Y.wh Y.my (nI q) (k - 1) := rfl
