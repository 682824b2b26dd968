/-! the two disks stay alike -/
def DR (q : DS) (Y : RSt) : Prop := q.1 = Y.ar ∧ q.2.1 = Y.de ∧ q.2.2.1 = Y.wr ∧ ∀ i, i < 512 → q.2.2.2 i = Y.dk i
def CR (r : Int32 × DS) (Z : RSt) : Prop := DR r.2 Z ∧ (r.1 = 0 ↔ ¬ Z.de = 0)
theorem ar_eq (x : Int32) : (if x ≤ 0 then x else x - 1) = x - (if x ≤ 0 then 0 else 1) := by
  by_cases h : x ≤ 0
  · rw [if_pos h, if_pos h]; exact (Int32.sub_zero x).symm
  · rw [if_neg h, if_neg h]
theorem wrS_in {ar de wr : Int32} {g : Nat → Int32} {n0 : Nat} {f : Nat → Int32} {n a : Nat} (hn : n < 32) (ha : a + 16 ≤ n0) (h0 : n0 < 2 ^ 30) (h : ¬ ar = 0) : wrS ar de wr g n0 f (nI n) (nI a) = (1, (if ar ≤ 0 then ar else ar - 1), de, wr + 1, va_cpy f g a (16 * n) 16) := by
  unfold wrS
  have e1 : ¬ (32 : Int32) ≤ nI n := fun e => absurd ((nI_leI (a := 32) (by decide) (by omega)).mp e) (by omega)
  have e2 : ¬ Int32.ofNat n0 - 16 < nI a := fun e => by
    have e3 : nI n0 - nI 16 = nI (n0 - 16) := pk_sub (by omega)
    have e4 : nI (n0 - 16) < nI a := by rw [← e3]; exact e
    exact absurd ((nI_ltI (by omega) (by omega)).mp e4) (by omega)
  rw [if_pos h, if_neg (nI_pos (by omega)), if_neg e1, if_neg (nI_pos (by omega)), if_neg e2]
  have e5 : nI n * 16 = nI (n * 16) := pk_mul n 16
  rw [e5, nI_clamp (by omega), nI_clamp (by omega), show (16 : Int32).toNatClampNeg = 16 by decide, Nat.mul_comm n 16]
theorem CR_wr {r : Int32 × DS} {Z : RSt} {n0 : Nat} {f v : Nat → Int32} {n a : Nat} (hn : n < 32) (ha : a + 16 ≤ n0) (h0 : n0 < 2 ^ 30) (hv : ∀ i, i < 16 → f (a + i) = v i) (h : CR r Z) : CR (if r.1 = 0 then r else wrD r.2 n0 f (nI n) (nI a)) (wtF Z n v) := by
  obtain ⟨⟨d1, d2, d3, d4⟩, d5⟩ := h
  by_cases c : r.1 = 0
  · rw [if_pos c, wt_dead (d5.mp c)]
    exact ⟨⟨d1, d2, d3, d4⟩, d5⟩
  · have de : Z.de = 0 := Decidable.byContradiction (fun g => c (d5.mpr g))
    rw [if_neg c]
    unfold wrD
    by_cases ar : Z.ar = 0
    · have e : wtF Z n v = dsF Z := by unfold wtF; rw [if_pos de, if_neg (fun g => g ar)]
      have e2 : wrS r.2.1 r.2.2.1 r.2.2.2.1 r.2.2.2.2 n0 f (nI n) (nI a) = (0, -1, 1, r.2.2.2.1, r.2.2.2.2) := by
        unfold wrS
        rw [if_neg (fun g => g (d1.trans ar))]
      rw [e, e2]
      exact ⟨⟨rfl, rfl, d3, d4⟩, fun _ => ds_de Z, fun _ => rfl⟩
    · have e : wtF Z n v = dkF (wt1 Z) (fl (16 * n) 0 16 v Z.dk) := by unfold wtF; rw [if_pos de, if_pos ar]
      rw [e, wrS_in hn ha h0 (by rw [d1]; exact ar)]
      refine ⟨⟨?_, d2, ?_, fun i hi => ?_⟩, fun g => absurd (show (1 : Int32) = 0 from g) (by decide), fun g => absurd de g⟩
      · show (if r.2.1 ≤ 0 then r.2.1 else r.2.1 - 1) = Z.ar - (if Z.ar ≤ 0 then 0 else 1)
        rw [d1]
        exact ar_eq Z.ar
      · show r.2.2.2.1 + 1 = Z.wr + 1
        rw [d3]
      · rw [dk_W]
        show va_cpy f r.2.2.2.2 a (16 * n) 16 i = fl (16 * n) 0 16 v Z.dk i
        unfold va_cpy
        by_cases g : 16 * n ≤ i ∧ i < 16 * n + 16
        · rw [if_pos g, fl_in g]
          exact hv (i - 16 * n) (by omega)
        · rw [if_neg g, fl_out (by omega)]
          exact d4 i hi
theorem CR_cmA {q : DS} {Y : RSt} {ro : Nat → Int32} (h : DR q Y) (hd : Y.de = 0) : ∀ k, k ≤ 6 → (∀ i, i < 16 * k → ro i = Y.ce i) → CR (cmA ro q k) (wA Y k)
  | 0, _, _ => ⟨h, fun g => absurd (show (1 : Int32) = 0 from g) (by decide), fun g => absurd hd g⟩
  | k + 1, hk, hro => by
    have ih := CR_cmA h hd k (by omega) (fun i hi => hro i (by omega))
    have e3 : (3 : Int32) + nI k = nI (3 + k) := nI_add 3 k
    have e4 : nI k * 16 = nI (k * 16) := pk_mul k 16
    show CR (if (cmA ro q k).1 = 0 then cmA ro q k else wrD (cmA ro q k).2 96 ro (3 + nI k) (nI k * 16)) (wtF (wA Y k) (3 + k) (fun i => Y.ce (16 * k + i)))
    rw [e3, e4]
    exact CR_wr (by omega) (by omega) (by decide) (fun i hi => by rw [Nat.mul_comm k 16]; exact hro _ (by omega)) ih
theorem CR_cmB {r : Int32 × DS} {Z : RSt} {ro hd : Nat → Int32} : ∀ k, k ≤ 6 → CR r Z → (∀ i, i < 16 * k → ro i = Z.ce i) → (∀ j, j < k → hd (1 + j) = Z.wh j ∧ vp_in (Z.wh j) 32) → CR (if r.1 = 0 then r else cmB ro hd r.2 k) (wB Z k)
  | 0, _, h, _, _ => by
    have h2 := h
    by_cases c : r.1 = 0
    · rw [if_pos c]; exact h
    · rw [if_neg c]
      exact ⟨h.1, fun g => absurd (show (1 : Int32) = 0 from g) (by decide), fun g => absurd (h.2.mpr g) c⟩
  | k + 1, hk, h, hro, hw => by
    have ih := CR_cmB (ro := ro) (hd := hd) k (by omega) h (fun i hi => hro i (by omega)) (fun j hj => hw j (by omega))
    obtain ⟨e1, e2⟩ := hw k (by omega)
    obtain ⟨t, ht, et⟩ := vp_in_of e2 (by decide)
    have e4 : nI k * 16 = nI (k * 16) := pk_mul k 16
    have st := CR_wr (r := if r.1 = 0 then r else cmB ro hd r.2 k) (n0 := 96) (f := ro) (v := fun i => Z.ce (16 * k + i)) (n := t) (a := k * 16) ht (by omega) (by decide) (fun i hi => by rw [Nat.mul_comm k 16]; exact hro _ (by omega)) ih
    have ew : wB Z (k + 1) = wtF (wB Z k) t (fun i => Z.ce (16 * k + i)) := by
      show wtF (wB Z k) (Z.wh k).toNatClampNeg (fun i => Z.ce (16 * k + i)) = _
      rw [et, nI_clamp (by omega)]
    rw [ew]
    by_cases c : r.1 = 0
    · rw [if_pos c] at st ⊢
      rw [if_pos c] at st
      exact st
    · rw [if_neg c] at st ⊢
      show CR (if (cmB ro hd r.2 k).1 = 0 then cmB ro hd r.2 k else wrD (cmB ro hd r.2 k).2 96 ro (hd (1 + k)) (nI k * 16)) _
      rw [e1, et, e4]
      exact st
theorem hd_S {Y Z : RSt} (h1 : Z.my = Y.my) (h2 : Z.wh = Y.wh) : hdS Z = hdS Y := by
  funext i
  unfold hdS
  rw [h1, h2]
def nrm (a b : Int32 × DS) : Prop := a.2 = b.2 ∧ (a.1 = 0 ↔ b.1 = 0)
theorem CR_nrm {a b : Int32 × DS} {Z : RSt} (n : nrm a b) (h : CR b Z) : CR a Z := ⟨by rw [n.1]; exact h.1, n.2.trans h.2⟩
theorem CR_cmt {q : DS} {Y : RSt} {ro hd e0 : Nat → Int32} (h : DR q Y) (hde : Y.de = 0) (hm : Y.my ≤ 6) (hro : ∀ i, i < 16 * Y.my → ro i = Y.ce i) (hhd : ∀ i, i < 16 → hd i = hdS Y i) (hw : ∀ k, k < Y.my → vp_in (Y.wh k) 32) (he0 : ∀ i, i < 16 → e0 i = 0) : CR (cmt ro hd e0 Y.my q) (cm2 Y) := by
  have c1 := CR_cmA h hde Y.my hm hro
  have sA := wA_my Y Y.my
  have c2 := CR_wr (n0 := 16) (f := hd) (v := hdS (wA Y Y.my)) (n := 2) (a := 0) (by decide) (by decide) (by decide) (fun i hi => by rw [hd_S sA.1 sA.2.1, Nat.zero_add]; exact hhd i hi) c1
  have s1 := cm1_my Y
  have c3 := CR_cmB (ro := ro) (hd := hd) Y.my hm (show CR _ (cm1 Y) from c2) (fun i hi => by rw [s1.2.2]; exact hro i hi) (fun j hj => by
    rw [s1.2.1]
    refine ⟨?_, hw j hj⟩
    rw [hhd (1 + j) (by omega)]
    unfold hdS
    rw [if_neg (by omega), if_neg (by omega), show 1 + j - 1 = j by omega])
  have c4 := CR_wr (n0 := 16) (f := e0) (v := fun _ => 0) (n := 2) (a := 0) (by decide) (by decide) (by decide) (fun i hi => by rw [Nat.zero_add]; exact he0 i hi) c3
  have e2 : cm2 Y = wtF (wB (cm1 Y) Y.my) 2 (fun _ => 0) := by unfold cm2; rw [s1.1]
  rw [e2]
  refine CR_nrm ?_ c4
  have n2 : nI 2 = 2 := rfl
  have n0 : nI 0 = 0 := rfl
  unfold cmt
  rw [n2, n0]
  generalize cmA ro q Y.my = r1
  by_cases d1 : r1.1 = 0
  · rw [if_pos d1, if_pos d1, if_pos d1, if_pos d1]
    exact ⟨rfl, fun _ => d1, fun _ => rfl⟩
  · rw [if_neg d1, if_neg d1]
    generalize wrD r1.2 16 hd 2 0 = r2
    by_cases d2 : r2.1 = 0
    · rw [if_pos d2, if_pos d2, if_pos d2]
      exact ⟨rfl, fun _ => d2, fun _ => rfl⟩
    · rw [if_neg d2, if_neg d2]
      generalize cmB ro hd r2.2 Y.my = r3
      by_cases d3 : r3.1 = 0
      · rw [if_pos d3, if_pos d3]
        exact ⟨rfl, fun _ => d3, fun _ => rfl⟩
      · rw [if_neg d3, if_neg d3]
        generalize wrD r3.2 16 e0 2 0 = r4
        by_cases d4 : r4.1 = 0
        · rw [if_pos d4]; exact ⟨rfl, fun _ => d4, fun _ => rfl⟩
        · rw [if_neg d4]; exact ⟨rfl, fun g => absurd (show (1 : Int32) = 0 from g) (by decide), fun g => absurd g d4⟩
