def asc (c : Int32) : Prop := ∃ n : Nat, n < 128 ∧ c = nI n
def AS (Y : RSt) : Prop := ¬ Y.go = 0 → Y.at1 ≤ Y.en ∧ ∀ i, i < Y.at1 → asc (TX Y i)
theorem TX_sm {Y Z : RSt} (h : smP Y Z) (i : Nat) : TX Z i = TX Y i := by
  have h : Z = mix Y Z := h
  rw [h]
  rfl
theorem hr_eq {Y Z : RSt} (e : smP Y Z) (q : Z.at1 = Y.at1) : hrF Z = hrF Y := by
  rw [hr_TX Z, hr_TX Y, q, sm_en e, TX_sm e]
theorem hr_at {Y : RSt} (h : ¬ hrF Y = -1) : hrF Y = TX Y Y.at1 := by
  rw [hr_TX, if_pos (hr_lt h)]
theorem AS.at {Y : RSt} (h : AS Y) (hn : ¬ hrF Y = -1) (ha : asc (hrF Y)) : AS (atF Y) := fun g => by
  have t := h g
  refine ⟨hr_lt hn, fun i hi => ?_⟩
  have hi : i < Y.at1 + 1 := hi
  show asc (TX Y i)
  by_cases e : i = Y.at1
  · rw [e, ← hr_at hn]; exact ha
  · exact t.2 i (by omega)
theorem AS_step {Y Z : RSt} (e1 : Z.at1 = Y.at1 + 1) (e2 : Z.en = Y.en) (e3 : Z.go = Y.go) (e4 : ∀ i, TX Z i = TX Y i) (h : AS Y) (hn : ¬ hrF Y = -1) (ha : asc (hrF Y)) : AS Z := fun g => by
  have t := h.at hn ha
  have t := t (show ¬ Y.go = 0 by rw [← e3]; exact g)
  refine ⟨by rw [e1, e2]; exact t.1, fun i hi => ?_⟩
  rw [e1] at hi
  rw [e4]
  exact t.2 i hi
theorem AS.go {Y : RSt} (h : AS Y) {g : Int32} (hg : ¬ g = 0 → ¬ Y.go = 0) : AS (goF Y g) := fun q => h (hg q)
theorem AS.atgo {Y : RSt} (h : AS Y) {g : Int32} (hg : ¬ g = 0 → ¬ Y.go = 0 ∧ ¬ hrF Y = -1 ∧ asc (hrF Y)) : AS (goF (atF Y) g) := fun q => by
  have t := hg q
  exact (h.at t.2.1 t.2.2) t.1
theorem AS.goat {Y : RSt} (h : AS Y) {g : Int32} (hg : ¬ g = 0 → ¬ Y.go = 0 ∧ ¬ hrF Y = -1 ∧ asc (hrF Y)) : AS (atF (goF Y g)) := fun q => by
  have t := hg q
  exact (h.at t.2.1 t.2.2) t.1
theorem asc_dg {x : Int32} (h : ¬ dgt x = 0) : asc x := by
  obtain ⟨j, hj, e⟩ := dg_in h
  exact ⟨48 + j, by omega, e⟩
theorem asc_rg {x : Int32} {a b : Nat} (h1 : ¬ x < nI a) (h2 : ¬ nI b < x) (ha : a < 2 ^ 31) (hb : b < 128) : asc x := by
  have h0 : ¬ x < 0 := fun g => h1 (Int32.lt_of_lt_of_le g (nI_pos' ha))
  obtain ⟨j, hj, rfl⟩ := nI_of h0
  refine ⟨j, ?_, rfl⟩
  have : ¬ b < j := fun g => h2 (nI_lt g hj)
  omega
theorem asc_mv {x : Int32} (h : ¬ mvr x = 0) : asc x := by
  obtain ⟨j, hj, e⟩ := vp_in_of (mvr_in h) (by decide)
  refine ⟨j + 65, by omega, ?_⟩
  have e3 : nI j + 65 = nI (j + 65) := nI_add j 65
  rw [← e3, ← e]
  exact (Int32.sub_add_cancel x 65).symm
theorem as_mk {a : Int32} {A : RSt} (h : AS A) : AS ((a, A) : Int32 × RSt).2 := h
theorem AS.ta {Y : RSt} (h : AS Y) {x : Int32} (hx : asc x) (hn : ¬ x = -1) : AS (taF Y x).2 := by
  unfold taF
  by_cases e : hrF Y = x
  · rw [if_pos e]
    exact as_mk (h.at (by rw [e]; exact hn) (by rw [e]; exact hx))
  · rw [if_neg e]
    exact as_mk h
theorem AS.mu {Y : RSt} (h : AS Y) {x : Int32} (hx : asc x) (hn : ¬ x = -1) : AS (muF Y x) := by
  have t := h.ta hx hn
  unfold muF
  revert t
  generalize taF Y x = a
  intro t
  exact t.go (fun g e => g (by unfold andI; rw [if_pos e]))
theorem AS.dg {Y : RSt} (h : AS Y) : AS (dgF Y).2 := h.atgo (fun g => by
  have t := dg_go (Y := Y) g
  exact ⟨t.1, fun e => t.2.1 (by rw [e]; decide), asc_rg (a := 48) (b := 55) t.2.1 t.2.2 (by decide) (by decide)⟩)
theorem AS.xlnS : ∀ (f : Nat) (n : Int32) {Y : RSt}, AS Y → AS (lnS f n Y).2
  | 0, _, _, h => h
  | f + 1, n, Y, h => by
    unfold lnS
    by_cases g : dgt (hrF Y) = 0
    · rw [if_pos g]; exact h
    · rw [if_neg g]; exact AS.xlnS f _ (h.at (dg_n1 g) (asc_dg g))
theorem AS.ln {Y : RSt} (h : AS Y) : AS (lnF Y).2 := by
  have t := AS.xlnS 2 0 h
  unfold lnF
  revert t
  generalize lnS 2 0 Y = a
  intro t
  exact t.go (fun g e => g (by rw [if_pos e]))
theorem AS.re {Y : RSt} (h : AS Y) : AS (reF Y) := h
theorem AS.xrdL : ∀ (f : Nat) (x : Int32) {Y : RSt}, AS Y → AS (rdL f x Y)
  | 0, _, _, h => h
  | f + 1, x, Y, h => by
    unfold rdL
    split
    · exact h
    · split
      · exact h
      · exact AS.xrdL f x h.re
theorem AS.xrdP : ∀ (f : Nat) {Y : RSt}, AS Y → AS (rdP f Y)
  | 0, _, h => h
  | f + 1, Y, h => by
    unfold rdP
    split
    · exact h
    · exact AS.xrdP f h.re
theorem AS.xrdE : ∀ (f : Nat) {Y : RSt}, AS Y → AS (rdE f Y)
  | 0, _, h => h
  | f + 1, Y, h => by
    unfold rdE
    split
    · exact h
    · split
      · exact h
      · exact AS.xrdE f h.re
theorem AS.xpdS : ∀ (f : Nat) (v : Int32) (k : Nat) {Y : RSt}, AS Y → AS (pdS f v k Y).2.2
  | 0, _, _, _, h => h
  | f + 1, v, k, Y, h => by
    unfold pdS
    by_cases g : dgt (hrF Y) = 0
    · rw [if_pos g]; exact h
    · rw [if_neg g]; exact AS.xpdS f _ _ (h.at (dg_n1 g) (asc_dg g))
theorem pgo_go {g c : Int32} {k : Nat} (h : ¬ pgo g c k = 0) : ¬ g = 0 := fun e => h (by unfold pgo; rw [if_pos e])
