/-! class and reference tied: rooms, lists, what is asked -/
theorem c16 (k : Nat) : (16 : Int32) + 2 * nI k = nI (16 + 2 * k) := by
  have e : (2 : Int32) * nI k = nI (2 * k) := pk_mul 2 k
  rw [e]
  exact nI_add 16 (2 * k)
theorem c17 (k : Nat) : (16 : Int32) + 2 * nI k + 1 = nI (17 + 2 * k) := by
  rw [c16]
  have e : nI (16 + 2 * k) + 1 = nI (16 + 2 * k + 1) := nI_1 _
  rw [e, show 16 + 2 * k + 1 = 17 + 2 * k by omega]
def GE (g h : Nat → Int32) : Prop := ∀ i, i < 512 → g i = h i
theorem cv16 {g h : Nat → Int32} (e : GE g h) {k : Nat} (hk : k < 8) : cellv g (16 + 2 * nI k) = h (16 + 2 * k) := by
  rw [c16, cellv_in (by omega)]
  exact e _ (by omega)
theorem cv17 {g h : Nat → Int32} (e : GE g h) {k : Nat} (hk : k < 8) : cellv g (16 + 2 * nI k + 1) = h (17 + 2 * k) := by
  rw [c17, cellv_in (by omega)]
  exact e _ (by omega)
theorem fil_eq {g h : Nat → Int32} (e : GE g h) : ∀ k, k ≤ 8 → flN g k = fiN h k
  | 0, _ => rfl
  | k + 1, hk => by
    show (if cellv g (16 + 2 * nI k) = 0 then flN g k else flN g k + 1) = fiN h k + (if h (16 + 2 * k) = 0 then 0 else 1)
    rw [cv16 e (by omega), fil_eq e k (by omega)]
    by_cases c : h (16 + 2 * k) = 0
    · rw [if_pos c, if_pos c]; exact (Int32.add_zero _).symm
    · rw [if_neg c, if_neg c]
theorem TIE_fi {L : LSt} {Y : RSt} (h : TIE L Y) : filF L = fiR Y := by
  unfold filF fiR
  rw [TIE_de h, fm_tie h, fil_eq (h := Y.dk) h.1.2.2.2 8 (Nat.le_refl _)]
  by_cases c : Y.de = 0
  · rw [if_pos c, if_pos c]
    by_cases d : fmtv Y.dk = 0
    · have nd : ¬ ¬ fmtv Y.dk = 0 := fun g => g d
      rw [if_pos d, if_neg nd]
    · rw [if_neg d, if_pos d]
  · rw [if_neg c, if_neg c]
/-! the numbers put out -/
theorem OU_out {L : LSt} {Y : RSt} {x : Int32} (h : OU L Y) (hos : Y.os < 1000000) : OU (outF L x) (coF Y x) := by
  obtain ⟨h1, h2⟩ := h
  refine ⟨?_, fun i a b => ?_⟩
  · show L.oc + 1 = nI (Y.os + 1)
    rw [h1]
    exact nI_1 _
  · have b : i < Y.os + 1 := b
    show (if L.oc < 0 then L.kf else if 60 ≤ L.oc then L.kf else upd L.kf L.oc.toNatClampNeg x) i = (if 60 ≤ Y.os then Y.ou else upd Y.ou Y.os x) i
    rw [h1, if_neg (nI_pos (by omega)), nI_clamp (by omega)]
    have e : (60 : Int32) ≤ nI Y.os ↔ 60 ≤ Y.os := nI_leI (a := 60) (by decide) (by omega)
    by_cases c : 60 ≤ Y.os
    · rw [if_pos (e.mpr c), if_pos c]; exact h2 i a (by omega)
    · rw [if_neg (fun z => c (e.mp z)), if_neg c]
      by_cases d : i = Y.os
      · rw [d, pk_us, pk_us]
      · rw [pk_un d, pk_un d]; exact h2 i a (by omega)
theorem TIE_out {L : LSt} {Y : RSt} {x : Int32} (h : TIE L Y) (hos : Y.os < 1000000) : TIE (outF L x) (coF Y x) := ⟨h.1, h.2.1, OU_out h.2.2 hos⟩
theorem TIE_ls {L : LSt} {Y : RSt} (h : TIE L Y) (hos : Y.os < 999900) : ∀ k, k ≤ 8 → TIE (lsF L k) (liN Y k)
  | 0, _ => h
  | k + 1, hk => by
    have ih := TIE_ls h hos k (by omega)
    have o := liN_os Y k
    show TIE (if cellv L.g (16 + 2 * nI k) = 0 then lsF L k else outF (outF (lsF L k) (nI k)) (cellv L.g (16 + 2 * nI k))) (if Y.dk (16 + 2 * k) = 0 then liN Y k else coF (coF (liN Y k) (nI k)) (Y.dk (16 + 2 * k)))
    rw [cv16 (h := Y.dk) h.1.2.2.2 (by omega)]
    by_cases c : Y.dk (16 + 2 * k) = 0
    · rw [if_pos c, if_pos c]; exact ih
    · rw [if_neg c, if_neg c]
      refine TIE_out (TIE_out ih (by omega)) ?_
      show (liN Y k).os + 1 < 1000000
      omega
theorem mk2 {a b : Int32} {L : LSt} {Y : RSt} (e : a = b) (h : TIE L Y) : ((a, L) : Int32 × LSt).1 = ((b, Y) : Int32 × RSt).1 ∧ TIE ((a, L) : Int32 × LSt).2 ((b, Y) : Int32 × RSt).2 := ⟨e, h⟩
/-! rooms -/
theorem blk_eq (x : Int32) : blkv x = (x + 15) / 16 := by
  unfold blkv
  have e : x + 16 - 1 = x + 15 := by
    rw [Int32.sub_eq_add_neg, Int32.add_assoc]
    rfl
  rw [e]
theorem f16 {f : Nat} (h : f < 32) : nI f * 16 / 16 = nI f := by
  have e : nI f * 16 = nI (f * 16) := pk_mul f 16
  rw [e]
  have e2 : nI (f * 16) / 16 = nI (f * 16 / 16) := pk_div (d := 16) (by omega) (by decide) (by decide)
  rw [e2, show f * 16 / 16 = f by omega]
theorem FOK_sh {h : Nat → Int32} (ok : FOK h) {k : Nat} (hk : k < 8) : ∃ f m, f < 32 ∧ m ≤ 3 ∧ h (17 + 2 * k) = nI f ∧ (h (16 + 2 * k) + 15) / 16 = nI m ∧ (m = 0 → f = 0) := by
  rcases ok.1 k hk with a | ⟨f, a⟩ | ⟨f, c, a⟩
  · exact ⟨0, 0, by decide, by decide, a.2, by rw [a.1]; decide, fun _ => rfl⟩
  · exact ⟨f, 1, a.2.2.2, by decide, a.2.1, by rw [a.1]; decide, fun e => absurd e (by decide)⟩
  · refine ⟨f, bl c, ?_, ?_, a.2.1, ?_, fun e => ?_⟩
    · have := a.2.2.2.2.2.1
      have : 1 ≤ bl c := by unfold bl; omega
      omega
    · have := a.2.2.2.1
      unfold bl; omega
    · rw [a.1]; exact blR (by have := a.2.2.2.1; omega)
    · unfold bl at e; omega
theorem busy_eq {g h : Nat → Int32} (e : GE g h) (ok : FOK h) {n m q k : Nat} (hn : n < 8) (hk : k < 8) (hq : 9 ≤ q) (hqm : q + m ≤ 64) (hm : 1 ≤ m) : busy g (nI n) (nI q) (nI q + nI m) k ↔ ∃ j, j < m ∧ ¬ usT h (nI (q + j)) (nI n) k = 0 := by
  obtain ⟨f, m', hf, hm', ef, es, e0⟩ := FOK_sh ok hk
  have ek : (nI k = nI n) ↔ k = n := nI_eq (by omega) (by omega)
  unfold busy
  rw [cv16 e hk, cv17 e hk, ef, f16 hf, blk_eq, es, nI_add, nI_add, nI_ltI (by omega) (by omega), nI_ltI (by omega) (by omega), ek]
  have eu : ∀ j, j < m → (usT h (nI (q + j)) (nI n) k = 0 ↔ (k = n ∨ q + j < f ∨ f + m' ≤ q + j)) := fun j hj => by
    unfold usT
    rw [ef, es, nI_add]
    by_cases c1 : k = n
    · rw [if_pos (ek.mpr c1)]; exact ⟨fun _ => Or.inl c1, fun _ => rfl⟩
    · rw [if_neg (fun g => c1 (ek.mp g))]
      by_cases c2 : q + j < f
      · rw [if_pos ((nI_ltI (by omega) (by omega)).mpr c2)]; exact ⟨fun _ => Or.inr (Or.inl c2), fun _ => rfl⟩
      · rw [if_neg (fun g => c2 ((nI_ltI (by omega) (by omega)).mp g))]
        by_cases c3 : f + m' ≤ q + j
        · rw [if_pos ((nI_leI (by omega) (by omega)).mpr c3)]; exact ⟨fun _ => Or.inr (Or.inr c3), fun _ => rfl⟩
        · rw [if_neg (fun g => c3 ((nI_leI (by omega) (by omega)).mp g))]
          exact ⟨fun g => absurd g (by decide), fun g => by omega⟩
  constructor
  · intro ⟨a, b, c⟩
    have hm0 : m' ≠ 0 := fun z => by have := e0 z; omega
    by_cases d : f ≤ q
    · exact ⟨0, by omega, fun g => by have := (eu 0 (by omega)).mp g; omega⟩
    · exact ⟨f - q, by omega, fun g => by have := (eu (f - q) (by omega)).mp g; omega⟩
  · intro ⟨j, hj, g⟩
    have := fun x => g ((eu j hj).mpr x)
    refine ⟨fun a => this (Or.inl a), ?_, ?_⟩
    · rcases Nat.lt_or_ge (q + j) f with a | a
      · exact absurd (Or.inr (Or.inl a)) this
      · omega
    · rcases Nat.lt_or_ge (q + j) (f + m') with a | a
      · omega
      · exact absurd (Or.inr (Or.inr a)) this
theorem usN_ex {g : Nat → Int32} {x y : Int32} : ∀ k, (∀ j, j < k → usT g x y j = 0) → usN g x y k = 0
  | 0, _ => rfl
  | k + 1, h => by
    show (if ¬ usN g x y k = 0 then 1 else usT g x y k) = 0
    have a := usN_ex k (fun j hj => h j (by omega))
    have na : ¬ ¬ usN g x y k = 0 := fun q => q a
    rw [if_neg na]
    exact h k (by omega)
theorem fr_ex {g : Nat → Int32} {q : Nat} {y : Int32} : ∀ m, (∀ j, j < m → usN g (nI (q + j)) y 8 = 0) → ¬ frN g q y m = 0
  | 0, _ => by show ¬ (1 : Int32) = 0; decide
  | m + 1, h => by
    show ¬ (if frN g q y m = 0 then 0 else if ¬ usN g (nI (q + m)) y 8 = 0 then 0 else 1) = (0 : Int32)
    have na : ¬ ¬ usN g (nI (q + m)) y 8 = 0 := fun z => z (h m (by omega))
    rw [if_neg (fr_ex m (fun j hj => h j (by omega))), if_neg na]
    decide
theorem take_eq {g h : Nat → Int32} (e : GE g h) (ok : FOK h) {n m q : Nat} (hn : n < 8) (hq : 9 ≤ q) (hqm : q + m ≤ 64) (hm : 1 ≤ m) : takenAt g (nI n) m q ↔ frN h q (nI n) m = 0 := by
  constructor
  · intro ⟨k, hk, b⟩
    obtain ⟨j, hj, u⟩ := (busy_eq e ok hn hk hq hqm hm).mp b
    exact Decidable.byContradiction (fun z => u (usN_0 8 (fr_all m z j hj) k hk))
  · intro z
    refine Classical.byContradiction (fun t => ?_)
    refine fr_ex m (fun j hj => usN_ex 8 (fun k hk => ?_)) z
    exact Decidable.byContradiction (fun u => t ⟨k, hk, (busy_eq e ok hn hk hq hqm hm).mpr ⟨j, hj, u⟩⟩)
theorem rmG_eq {g h : Nat → Int32} (e : GE g h) (ok : FOK h) {n m : Nat} (hn : n < 8) (hm : 1 ≤ m) : ∀ f q, 9 ≤ q → q + f + m ≤ 64 → rmG g (nI n) m f q = rmR h m (nI n) f q
  | 0, _, _, _ => rfl
  | f + 1, q, hq, hb => by
    have ih := rmG_eq e ok hn hm f (q + 1) (by omega) (by omega)
    have t := take_eq e ok hn hq (m := m) (by omega) hm
    unfold rmG
    show _ = (if frN h q (nI n) m = 0 then rmR h m (nI n) f (q + 1) else nI q)
    by_cases c : frN h q (nI n) m = 0
    · rw [if_pos (t.mpr c), if_pos c]; exact ih
    · rw [if_neg (fun z => c (t.mp z)), if_neg c]
theorem rm_eq {g h : Nat → Int32} (e : GE g h) (ok : FOK h) {n m : Nat} (hn : n < 8) (hm : 1 ≤ m) (hm6 : m ≤ 6) : rmF g (nI n) m = rmR h m (nI n) (24 - m) 9 := by
  unfold rmF
  rw [show 33 - m - 9 = 24 - m by omega]
  exact rmG_eq e ok hn hm (24 - m) 9 (Nat.le_refl _) (by omega)
