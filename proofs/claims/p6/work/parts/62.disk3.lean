/-! the disk: what is saved -/
theorem chX {g : Nat → Int32} {a i X : Nat} (hX : X < 2 ^ 31) (e : g (a + 1 + i / 4) = nI X) : (i % 4 = 0 → chV g a i = nI (X / 16777216 % 256)) ∧ (i % 4 = 1 → chV g a i = nI (X / 65536 % 256)) ∧ (i % 4 = 2 → chV g a i = nI (X / 256 % 256)) ∧ (i % 4 = 3 → chV g a i = nI (X % 256)) := by
  have hd : ∀ k, X / k < 2 ^ 32 := fun k => Nat.lt_of_le_of_lt (Nat.div_le_self X k) (by omega)
  refine ⟨fun h => ?_, fun h => ?_, fun h => ?_, fun h => ?_⟩
  · unfold chV
    rw [e, h, pk_shrN hX _ 24 (by decide), pk_andN (hd _) 8 (by decide)]
  · unfold chV
    rw [e, h, pk_shrN hX _ 16 (by decide), pk_andN (hd _) 8 (by decide)]
  · unfold chV
    rw [e, h, pk_shrN hX _ 8 (by decide), pk_andN (hd _) 8 (by decide)]
  · unfold chV
    rw [e, h, pk_shrN hX _ 0 (by decide), pk_andN (hd _) 8 (by decide)]
    rw [Nat.pow_zero, Nat.div_one]
def aL (Y : RSt) (l i : Nat) : Int32 := if Y.ln l ≤ nI i then 0 else Y.ch (12 * l + i)
def pkA (Y : RSt) (l j : Nat) : Int32 := (((0 * 256 + aL Y l (4 * j)) * 256 + aL Y l (4 * j + 1)) * 256 + aL Y l (4 * j + 2)) * 256 + aL Y l (4 * j + 3)
theorem svK_s (Y : RSt) (l c : Nat) (e : Nat → Int32) (k : Nat) : svK Y l c e (k + 1) = upd (svK Y l c e k) (c + 1 + k / 4) (svK Y l c e k (c + 1 + k / 4) * 256 + aL Y l k) := rfl
theorem svK_o {Y : RSt} {l c : Nat} {e : Nat → Int32} {i : Nat} : ∀ k, (∀ j, j < k → i ≠ c + 1 + j / 4) → svK Y l c e k i = e i
  | 0, _ => rfl
  | k + 1, h => by
    rw [svK_s, pk_un (h k (by omega))]
    exact svK_o k (fun j hj => h j (by omega))
theorem svK_pk {Y : RSt} {l c : Nat} {e : Nat → Int32} {j : Nat} (hj : j < 3) (e0 : e (c + 1 + j) = 0) : svK Y l c e 12 (c + 1 + j) = pkA Y l j := by
  have lo : svK Y l c e (4 * j) (c + 1 + j) = 0 := by rw [svK_o (4 * j) (fun k hk => by omega)]; exact e0
  have s1 : svK Y l c e (4 * j + 1) (c + 1 + j) = 0 * 256 + aL Y l (4 * j) := by
    rw [svK_s, show c + 1 + 4 * j / 4 = c + 1 + j by omega, pk_us, lo]
  have s2 : svK Y l c e (4 * j + 1 + 1) (c + 1 + j) = (0 * 256 + aL Y l (4 * j)) * 256 + aL Y l (4 * j + 1) := by
    rw [svK_s, show c + 1 + (4 * j + 1) / 4 = c + 1 + j by omega, pk_us, s1]
  have s3 : svK Y l c e (4 * j + 2 + 1) (c + 1 + j) = ((0 * 256 + aL Y l (4 * j)) * 256 + aL Y l (4 * j + 1)) * 256 + aL Y l (4 * j + 2) := by
    rw [svK_s, show c + 1 + (4 * j + 2) / 4 = c + 1 + j by omega, pk_us, s2]
  have s4 : svK Y l c e (4 * j + 3 + 1) (c + 1 + j) = pkA Y l j := by
    rw [svK_s, show c + 1 + (4 * j + 3) / 4 = c + 1 + j by omega, pk_us, s3]
    rfl
  have hi : ∀ k, svK Y l c e (4 * j + 4 + k) (c + 1 + j) = pkA Y l j := by
    intro k
    induction k with
    | zero => exact s4
    | succ k ih =>
      show svK Y l c e (4 * j + 4 + k + 1) (c + 1 + j) = _
      rw [svK_s, pk_un (by omega)]
      exact ih
  have h := hi (8 - 4 * j)
  rw [show 4 * j + 4 + (8 - 4 * j) = 12 by omega] at h
  exact h
theorem cnL_ex (f : Nat → Int32) : ∀ k t, t < cnL f k → ∃ l, 1 ≤ l ∧ l ≤ k ∧ ¬ f l = -1 ∧ cnL f (l - 1) = t
  | 0, t, h => absurd h (Nat.not_lt_zero _)
  | k + 1, t, h => by
    have h : t < cnL f k + (if f (k + 1) = -1 then 0 else 1) := h
    by_cases g : t < cnL f k
    · obtain ⟨l, a, b, c, d⟩ := cnL_ex f k t g
      exact ⟨l, a, by omega, c, d⟩
    · by_cases e : f (k + 1) = -1
      · rw [if_pos e] at h; exact absurd h g
      · rw [if_neg e] at h
        exact ⟨k + 1, by omega, Nat.le_refl _, e, by show cnL f k = t; omega⟩
theorem svN_sp (Y : RSt) (e : Nat → Int32) (h0 : ∀ i, 17 ≤ i → i < 96 → e i = 0) (hc : cnL Y.ln 99 ≤ 10) : ∀ k, k ≤ 99 → (∀ i, (i < 17 ∨ 17 + 4 * cnL Y.ln k ≤ i) → svN Y e k i = e i) ∧ ∀ l, 1 ≤ l → l ≤ k → ¬ Y.ln l = -1 → svN Y e k (17 + 4 * cnL Y.ln (l - 1)) = 16 * nI l + Y.ln l ∧ ∀ j, j < 3 → svN Y e k (17 + 4 * cnL Y.ln (l - 1) + 1 + j) = pkA Y l j
  | 0, _ => ⟨fun i _ => rfl, fun l a b => absurd a (by omega)⟩
  | k + 1, hk => by
    obtain ⟨i1, i2⟩ := svN_sp Y e h0 hc k (by omega)
    have s := svN_s Y e (k := k + 1) (by omega)
    rw [show k + 1 - 1 = k by omega] at s
    by_cases g : Y.ln (k + 1) = -1
    · rw [if_pos g] at s
      have cn := cnL_no Y.ln (k := k + 1) (by omega) g
      rw [show k + 1 - 1 = k by omega] at cn
      rw [s, ← cn]
      refine ⟨i1, fun l a b c => i2 l a ?_ c⟩
      rcases Nat.lt_or_ge k l with q | q
      · exact absurd (by rw [show l = k + 1 by omega]; exact g) c
      · exact q
    · rw [if_neg g] at s
      have cn := cnL_in Y.ln (k := k + 1) (by omega) (by omega) g
      rw [show k + 1 - 1 = k by omega] at cn
      rw [s]
      generalize hC : 17 + 4 * cnL Y.ln k = C
      have hE : ∀ i, i ≠ C → upd (svN Y e k) C (16 * nI (k + 1) + Y.ln (k + 1)) i = svN Y e k i := fun i hi => pk_un hi
      have hO : ∀ i, (i < C + 1 ∨ C + 4 ≤ i) → svK Y (k + 1) C (upd (svN Y e k) C (16 * nI (k + 1) + Y.ln (k + 1))) 12 i = upd (svN Y e k) C (16 * nI (k + 1) + Y.ln (k + 1)) i := fun i hi => svK_o 12 (fun j hj => by omega)
      refine ⟨fun i hi => ?_, fun l a b c => ?_⟩
      · rw [hO i (by omega), hE i (by omega)]
        exact i1 i (by omega)
      · by_cases q : l = k + 1
        · subst q
          rw [show k + 1 - 1 = k by omega, hC]
          refine ⟨?_, fun j hj => ?_⟩
          · rw [hO C (by omega), pk_us]
          · refine svK_pk hj ?_
            rw [hE _ (by omega), i1 _ (by omega)]
            exact h0 _ (by omega) (by omega)
        · have m1 := cnL_in Y.ln (k := l) a (by omega) c
          have m2 := cnL_mono Y.ln (j := l) k (by omega)
          obtain ⟨r1, r2⟩ := i2 l a (by omega) c
          refine ⟨?_, fun j hj => ?_⟩
          · rw [hO _ (by omega), hE _ (by omega)]; exact r1
          · rw [hO _ (by omega), hE _ (by omega)]; exact r2 j hj
theorem apQ {g : Nat → Int32} {t : Nat → Nat} {v : Nat → Int32} {q : Nat} (hq : 9 ≤ q) (t0 : t 0 = 1) : ∀ m, (∀ k, k < m → t (1 + k) = q + k) → ∀ i, apN g t v (1 + m) i = if 16 ≤ i ∧ i < 32 then v (i - 16) else if 16 * q ≤ i ∧ i < 16 * (q + m) then v (16 + (i - 16 * q)) else g i
  | 0, _, i => by
    show fl (16 * t 0) 0 16 (fun i => v (16 * 0 + i)) g i = _
    rw [t0]
    by_cases a : 16 ≤ i ∧ i < 32
    · rw [fl_in (by omega), if_pos a]
      show v (16 * 0 + (i - 16 * 1)) = v (i - 16)
      rw [show 16 * 0 + (i - 16 * 1) = i - 16 by omega]
    · rw [fl_out (by omega), if_neg a, if_neg (by omega)]
  | m + 1, ht, i => by
    have ih := apQ (g := g) (v := v) hq t0 m (fun k hk => ht k (by omega)) i
    show fl (16 * t (1 + m)) 0 16 (fun i => v (16 * (1 + m) + i)) (apN g t v (1 + m)) i = _
    rw [ht m (by omega)]
    by_cases a : 16 * (q + m) ≤ i ∧ i < 16 * (q + m) + 16
    · rw [fl_in a, if_neg (by omega), if_pos (by omega)]
      show v (16 * (1 + m) + (i - 16 * (q + m))) = v (16 + (i - 16 * q))
      rw [show 16 * (1 + m) + (i - 16 * (q + m)) = 16 + (i - 16 * q) by omega]
    · rw [fl_out (by omega), ih]
      by_cases b : 16 ≤ i ∧ i < 32
      · rw [if_pos b, if_pos b]
      · rw [if_neg b, if_neg b]
        by_cases c : 16 * q ≤ i ∧ i < 16 * (q + m)
        · rw [if_pos c, if_pos (by omega)]
        · rw [if_neg c, if_neg (by omega)]
theorem FOK_dir {g v h' : Nat → Int32} {n q m : Nat} {x y : Int32} (hn : n < 8) (ok : FOK g) (hq : 9 ≤ q) (hqm : q + m ≤ 32) (hv : ∀ i, i < 16 → v i = if i = 2 * n then x else if i = 2 * n + 1 then y else g (16 + i)) (hh : ∀ i, REL i → h' i = if 16 ≤ i ∧ i < 32 then v (i - 16) else if 16 * q ≤ i ∧ i < 16 * (q + m) then v (16 + (i - 16 * q)) else g i) (hu : ∀ n', n' < 8 → n' ≠ n → ∀ k, k < m → ¬ OC g n' (q + k)) (hN : x = 0 ∨ (x = 16 ∧ y = nI q ∧ m = 1) ∨ ∃ c, 1 ≤ c ∧ c ≤ 10 ∧ x = nI (1 + 4 * c) ∧ y = nI q ∧ m = bl c ∧ v 16 = nI c ∧ ∀ k, k < c → ∃ l d, 1 ≤ l ∧ l < 100 ∧ d ≤ 12 ∧ v (17 + 4 * k) = nI (16 * l + d) ∧ GL (chV v (17 + 4 * k)) d) : FOK h' := by
  have e1 : h' (16 + 2 * n) = x := by
    rw [hh _ (Or.inl (by omega)), if_pos (by omega), show 16 + 2 * n - 16 = 2 * n by omega, hv _ (by omega), if_pos rfl]
  have e2 : h' (17 + 2 * n) = y := by
    rw [hh _ (Or.inl (by omega)), if_pos (by omega), show 17 + 2 * n - 16 = 2 * n + 1 by omega, hv _ (by omega), if_neg (by omega), if_pos rfl]
  have eB : ∀ j, j < 16 * m → h' (16 * q + j) = v (16 + j) := fun j hj => by
    rw [hh _ (Or.inr (by omega)), if_neg (by omega), if_pos (by omega), show 16 * q + j - 16 * q = j by omega]
  refine FOK_new (n := n) (q := q) (m := m) hn ok (fun n' hn' hne => ⟨?_, ?_⟩) (fun i h1 h2 h3 => ?_) hu ?_ ?_
  · rw [hh _ (Or.inl (by omega)), if_pos (by omega), show 16 + 2 * n' - 16 = 2 * n' by omega, hv _ (by omega), if_neg (by omega), if_neg (by omega)]
  · rw [hh _ (Or.inl (by omega)), if_pos (by omega), show 17 + 2 * n' - 16 = 2 * n' + 1 by omega, hv _ (by omega), if_neg (by omega), if_neg (by omega), show 16 + (2 * n' + 1) = 17 + 2 * n' by omega]
  · rw [hh _ (Or.inr (by omega)), if_neg (by omega), if_neg (by omega)]
  · rcases hN with a | ⟨a, b, c⟩ | ⟨c, c1, c2, a, b, hm, v16, vl⟩
    · exact Or.inl (by rw [e1]; exact a)
    · exact Or.inr (Or.inl ⟨q, by rw [e1]; exact a, by rw [e2]; exact b, hq, by omega⟩)
    · have hbl : 1 + 4 * c ≤ 16 * bl c := by unfold bl; omega
      refine Or.inr (Or.inr ⟨q, c, by rw [e1]; exact a, by rw [e2]; exact b, c1, c2, hq, by omega, ?_, fun k hk => ?_⟩)
      · have := eB 0 (by omega)
        rw [show 16 * q + 0 = 16 * q by omega, show 16 + 0 = 16 by omega] at this
        rw [this]; exact v16
      · obtain ⟨l, d, p1, p2, p3, p4, p5⟩ := vl k hk
        refine ⟨l, d, p1, p2, p3, ?_, ?_⟩
        · have := eB (1 + 4 * k) (by omega)
          rw [show 16 * q + (1 + 4 * k) = 16 * q + 1 + 4 * k by omega, show 16 + (1 + 4 * k) = 17 + 4 * k by omega] at this
          rw [this]; exact p4
        · refine GL_cg (by omega) (fun i hi => ?_) p5
          unfold chV
          have := eB (1 + 4 * k + 1 + i / 4) (by omega)
          rw [show 16 * q + (1 + 4 * k + 1 + i / 4) = 16 * q + 1 + 4 * k + 1 + i / 4 by omega, show 16 + (1 + 4 * k + 1 + i / 4) = 17 + 4 * k + 1 + i / 4 by omega] at this
          rw [this]
  · intro b o
    obtain ⟨f, ef, hf, o⟩ := o
    rw [e1] at o
    rw [e2] at ef
    rcases hN with a | ⟨a, b', c⟩ | ⟨c, c1, c2, a, b', hm, _⟩
    · rw [a] at o
      rcases o with ⟨z, _⟩ | ⟨c, c1, c2, z, _⟩
      · exact absurd z (by decide)
      · exact absurd ((nI_eq (a := 0) (by decide) (by omega)).mp z) (by omega)
    · have fq : q = f := (nI_eq (by omega) (by omega)).mp (b'.symm.trans ef)
      rcases o with ⟨_, z⟩ | ⟨c', c1, c2, z, _⟩
      · omega
      · exact absurd ((nI_eq (a := 16) (by decide) (by omega)).mp (a.symm.trans z)) (by omega)
    · have fq : q = f := (nI_eq (by omega) (by omega)).mp (b'.symm.trans ef)
      rcases o with ⟨z, _⟩ | ⟨c', c1', c2', z, z2, z3⟩
      · exact absurd ((nI_eq (b := 16) (by omega) (by decide)).mp (a.symm.trans z)) (by omega)
      · have ec : c = c' := by
          have := (nI_eq (by omega) (by omega)).mp (a.symm.trans z)
          omega
        subst ec
        omega
theorem pk4 {a b c d : Nat} : (((0 * 256 + nI a) * 256 + nI b) * 256 + nI c) * 256 + nI d = nI (((a * 256 + b) * 256 + c) * 256 + d) := by
  have e0 : (0 : Int32) * 256 = nI 0 := by decide
  have m1 : nI (0 + a) * 256 = nI ((0 + a) * 256) := pk_mul _ 256
  have m2 : nI ((0 + a) * 256 + b) * 256 = nI (((0 + a) * 256 + b) * 256) := pk_mul _ 256
  have m3 : nI (((0 + a) * 256 + b) * 256 + c) * 256 = nI ((((0 + a) * 256 + b) * 256 + c) * 256) := pk_mul _ 256
  rw [e0, nI_add, m1, nI_add, m2, nI_add, m3, nI_add, Nat.zero_add]
theorem ch_pk {Y : RSt} {l d : Nat} {g : Nat → Int32} {a : Nat} (hd : d ≤ 12) (hln : Y.ln l = nI d) (hasc : ∀ i, i < d → asc (Y.ch (12 * l + i))) (hp : ∀ j, j < 3 → g (a + 1 + j) = pkA Y l j) : ∀ i, i < d → chV g a i = Y.ch (12 * l + i) := by
  have hA : ∀ i, i < 12 → ∃ n : Nat, n < 128 ∧ aL Y l i = nI n ∧ (i < d → Y.ch (12 * l + i) = nI n) := by
    intro i hi
    unfold aL
    rw [hln]
    by_cases g : d ≤ i
    · rw [if_pos ((nI_leI (by omega) (by omega)).mpr g)]
      exact ⟨0, by decide, rfl, fun h => absurd h (by omega)⟩
    · rw [if_neg (fun e => g ((nI_leI (by omega) (by omega)).mp e))]
      obtain ⟨n, hn, e⟩ := hasc i (by omega)
      exact ⟨n, hn, e, fun _ => e⟩
  intro i hi
  have hj : i / 4 < 3 := by omega
  obtain ⟨n0, h0, e0, f0⟩ := hA (4 * (i / 4)) (by omega)
  obtain ⟨n1, h1, e1, f1⟩ := hA (4 * (i / 4) + 1) (by omega)
  obtain ⟨n2, h2, e2, f2⟩ := hA (4 * (i / 4) + 2) (by omega)
  obtain ⟨n3, h3, e3, f3⟩ := hA (4 * (i / 4) + 3) (by omega)
  have eX := hp (i / 4) hj
  unfold pkA at eX
  rw [e0, e1, e2, e3, pk4] at eX
  have x := chX (g := g) (a := a) (i := i) (X := ((n0 * 256 + n1) * 256 + n2) * 256 + n3) (by omega) eX
  have hr : i % 4 = 0 ∨ i % 4 = 1 ∨ i % 4 = 2 ∨ i % 4 = 3 := by omega
  rcases hr with r | r | r | r
  · rw [x.1 r, show (((n0 * 256 + n1) * 256 + n2) * 256 + n3) / 16777216 % 256 = n0 by omega]
    have := f0 (by omega)
    rw [show 4 * (i / 4) = i by omega] at this
    exact this.symm
  · rw [x.2.1 r, show (((n0 * 256 + n1) * 256 + n2) * 256 + n3) / 65536 % 256 = n1 by omega]
    have := f1 (by omega)
    rw [show 4 * (i / 4) + 1 = i by omega] at this
    exact this.symm
  · rw [x.2.2.1 r, show (((n0 * 256 + n1) * 256 + n2) * 256 + n3) / 256 % 256 = n2 by omega]
    have := f2 (by omega)
    rw [show 4 * (i / 4) + 2 = i by omega] at this
    exact this.symm
  · rw [x.2.2.2 r, show (((n0 * 256 + n1) * 256 + n2) * 256 + n3) % 256 = n3 by omega]
    have := f3 (by omega)
    rw [show 4 * (i / 4) + 3 = i by omega] at this
    exact this.symm
