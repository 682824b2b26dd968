/-! once bad, bad to the end; a good text is of small signs -/
theorem mu_go {Y : RSt} {x : Int32} (h : ¬ (muF Y x).go = 0) : ¬ Y.go = 0 := fun e => h (by
  show andI (taF Y x).2.go (taF Y x).1 = 0
  have e2 : (taF Y x).2.go = Y.go := by unfold taF; split <;> rfl
  unfold andI
  rw [e2, if_pos e])
theorem mu_in {Y : RSt} {x : Int32} (h : ¬ (muF Y x).go = 0) : hrF Y = x := Decidable.byContradiction (fun e => h (by
  show andI (taF Y x).2.go (taF Y x).1 = 0
  unfold taF andI
  rw [if_neg e]
  show (if Y.go = 0 then (0 : Int32) else if (0 : Int32) = 0 then 0 else 1) = 0
  split <;> rfl))
theorem dg_go {Y : RSt} (h : ¬ (dgF Y).2.go = 0) : ¬ Y.go = 0 ∧ ¬ hrF Y < 48 ∧ ¬ 55 < hrF Y := by
  have h : ¬ (if Y.go = 0 then (0 : Int32) else if hrF Y < 48 then 0 else if 55 < hrF Y then 0 else 1) = 0 := h
  refine ⟨fun e => h (by rw [if_pos e]), fun e => h ?_, fun e => h ?_⟩
  · rw [if_pos e]; split <;> rfl
  · rw [if_pos e]; split
    · rfl
    · split <;> rfl
theorem lnS_go : ∀ (f : Nat) (n : Int32) (Y : RSt), (lnS f n Y).2.go = Y.go
  | 0, _, _ => rfl
  | f + 1, n, Y => by
    unfold lnS
    split
    · rfl
    · exact lnS_go f _ _
theorem ln_go {Y : RSt} (h : ¬ (lnF Y).2.go = 0) : ¬ Y.go = 0 := fun e => h (by
  show (if (lnS 2 0 Y).2.go = 0 then (0 : Int32) else if (lnS 2 0 Y).1 ≤ 0 then 0 else 1) = 0
  rw [lnS_go, if_pos e])
theorem va_bad {Y : RSt} (h : Y.go = 0) : (vaF Y).2.go = 0 ∧ (vaF Y).2.at1 = Y.at1 := by
  have e1 : vlR 20 0 1 1 (vs0 Y) = (0, vs0 Y) := by
    unfold vlR
    rw [if_neg (by decide), if_pos (show (vs0 Y).go = 0 from h)]
  have e2 : va1 (vlR 20 0 1 1 (vs0 Y)) = goF (vs0 Y) 0 := by
    rw [e1]
    show goF (vs0 Y) (vgo (vs0 Y).go 0) = _
    unfold vgo
    rw [if_pos (show (vs0 Y).go = 0 from h)]
  show (rdE (va1 (vlR 20 0 1 1 (vs0 Y))).sn (va1 (vlR 20 0 1 1 (vs0 Y)))).go = 0 ∧ (rdE (va1 (vlR 20 0 1 1 (vs0 Y))).sn (va1 (vlR 20 0 1 1 (vs0 Y)))).at1 = Y.at1
  rw [e2]
  exact ⟨rfl, rfl⟩
theorem va_go {Y : RSt} (h : ¬ (vaF Y).2.go = 0) : ¬ Y.go = 0 := fun e => h (va_bad e).1
def asc (c : Int32) : Prop := ∃ n : Nat, n < 128 ∧ c = nI n
def AS (Y : RSt) : Prop := ¬ Y.go = 0 → Y.at1 ≤ Y.en ∧ ∀ i, i < Y.at1 → asc (TX Y i)
theorem TX_sm {Y Z : RSt} (h : smP Y Z) (i : Nat) : TX Z i = TX Y i := by
  have h : Z = mix Y Z := h
  rw [h]
  rfl
theorem hr_at {Y : RSt} (h : ¬ hrF Y = -1) : hrF Y = TX Y Y.at1 := by
  rw [hr_TX, if_pos (hr_lt h)]
theorem AS.at {Y : RSt} (h : AS Y) (hn : ¬ hrF Y = -1) (ha : asc (hrF Y)) : AS (atF Y) := fun g => by
  have t := h g
  refine ⟨hr_lt hn, fun i hi => ?_⟩
  have hi : i < Y.at1 + 1 := hi
  show asc (TX Y i)
  by_cases e : i = Y.at1
  · rw [e, ← hr_at hn]; exact ha
  · exact t.2 i (by omega)
theorem AS.go {Y : RSt} (h : AS Y) {g : Int32} (hg : ¬ g = 0 → ¬ Y.go = 0) : AS (goF Y g) := fun q => h (hg q)
theorem AS.atgo {Y : RSt} (h : AS Y) {g : Int32} (hg : ¬ g = 0 → ¬ Y.go = 0 ∧ ¬ hrF Y = -1 ∧ asc (hrF Y)) : AS (goF (atF Y) g) := fun q => by
  have t := hg q
  exact (h.at t.2.1 t.2.2) t.1
theorem AS.goat {Y : RSt} (h : AS Y) {g : Int32} (hg : ¬ g = 0 → ¬ Y.go = 0 ∧ ¬ hrF Y = -1 ∧ asc (hrF Y)) : AS (atF (goF Y g)) := fun q => by
  have t := hg q
  exact (h.at t.2.1 t.2.2) t.1
theorem asc_dg {x : Int32} (h : ¬ dgt x = 0) : asc x := by
  obtain ⟨j, hj, e⟩ := dg_in h
  exact ⟨48 + j, by omega, e⟩
theorem asc_rg {x : Int32} {a b : Nat} (h1 : ¬ x < nI a) (h2 : ¬ nI b < x) (ha : a < 2 ^ 31) (hb : b < 128) : asc x := by
  have h0 : ¬ x < 0 := fun g => h1 (Int32.lt_of_lt_of_le g (nI_pos' ha))
  obtain ⟨j, hj, rfl⟩ := nI_of h0
  refine ⟨j, ?_, rfl⟩
  have : ¬ b < j := fun g => h2 (nI_lt g hj)
  omega
theorem asc_mv {x : Int32} (h : ¬ mvr x = 0) : asc x := by
  obtain ⟨j, hj, e⟩ := vp_in_of (mvr_in h) (by decide)
  refine ⟨j + 65, by omega, ?_⟩
  have e3 : nI j + 65 = nI (j + 65) := nI_add j 65
  rw [← e3, ← e]
  exact (Int32.sub_add_cancel x 65).symm
theorem AS.mu {Y : RSt} (h : AS Y) {x : Int32} (hx : asc x) (hn : ¬ x = -1) : AS (muF Y x) := fun g => by
  have e := mu_in g
  have t := (h.at (by rw [e]; exact hn) (by rw [e]; exact hx)) (mu_go g)
  have e2 : muF Y x = goF (atF Y) (muF Y x).go := by
    show goF (taF Y x).2 _ = goF (atF Y) _
    have e3 : (taF Y x).2 = atF Y := by unfold taF; rw [if_pos e]; rfl
    rw [e3]
    rfl
  rw [e2]
  exact t
theorem AS.dg {Y : RSt} (h : AS Y) : AS (dgF Y).2 := h.atgo (fun g => by
  have t := dg_go (Y := Y) g
  exact ⟨t.1, fun e => t.2.1 (by rw [e]; decide), asc_rg (a := 48) (b := 55) t.2.1 t.2.2 (by decide) (by decide)⟩)
theorem AS.xlnS : ∀ (f : Nat) (n : Int32) {Y : RSt}, AS Y → AS (lnS f n Y).2
  | 0, _, _, h => h
  | f + 1, n, Y, h => by
    unfold lnS
    by_cases g : dgt (hrF Y) = 0
    · rw [if_pos g]; exact h
    · rw [if_neg g]; exact AS.xlnS f _ (h.at (dg_n1 g) (asc_dg g))
theorem AS.ln {Y : RSt} (h : AS Y) : AS (lnF Y).2 := (AS.xlnS 2 0 h).go (fun g e => g (by rw [if_pos e]))
theorem AS.re {Y : RSt} (h : AS Y) : AS (reF Y) := h
theorem AS.xrdL : ∀ (f : Nat) (x : Int32) {Y : RSt}, AS Y → AS (rdL f x Y)
  | 0, _, _, h => h
  | f + 1, x, Y, h => by
    unfold rdL
    split
    · exact h
    · split
      · exact h
      · exact AS.xrdL f x h.re
theorem AS.xrdP : ∀ (f : Nat) {Y : RSt}, AS Y → AS (rdP f Y)
  | 0, _, h => h
  | f + 1, Y, h => by
    unfold rdP
    split
    · exact h
    · exact AS.xrdP f h.re
theorem AS.xrdE : ∀ (f : Nat) {Y : RSt}, AS Y → AS (rdE f Y)
  | 0, _, h => h
  | f + 1, Y, h => by
    unfold rdE
    split
    · exact h
    · split
      · exact h
      · exact AS.xrdE f h.re
theorem AS.xpdS : ∀ (f : Nat) (v : Int32) (k : Nat) {Y : RSt}, AS Y → AS (pdS f v k Y).2.2
  | 0, _, _, _, h => h
  | f + 1, v, k, Y, h => by
    unfold pdS
    by_cases g : dgt (hrF Y) = 0
    · rw [if_pos g]; exact h
    · rw [if_neg g]; exact AS.xpdS f _ _ (h.at (dg_n1 g) (asc_dg g))
theorem pgo_go {g c : Int32} {k : Nat} (h : ¬ pgo g c k = 0) : ¬ g = 0 := fun e => h (by unfold pgo; rw [if_pos e])
theorem AS.pi {Y : RSt} (h : AS Y) : AS (piR Y).2 := by
  unfold piR
  by_cases g : hrF Y = 40
  · rw [if_neg (fun q => q g)]
    exact h.at (by rw [g]; decide) ⟨40, by decide, g⟩
  · rw [if_pos g]
    intro q
    have q : ¬ pgo (pdS 6 (pv0 Y) 0 Y).2.2.go (hrF Y) (pdS 6 (pv0 Y) 0 Y).2.1 = 0 := q
    by_cases hm : mvr (hrF Y) = 0
    · have t := (h.xpdS 6 (pv0 Y) 0) (pgo_go q)
      show (pdS 6 (pv0 Y) 0 Y).2.2.at1 + (if mvr (hrF Y) = 0 then 0 else 1) ≤ (pdS 6 (pv0 Y) 0 Y).2.2.en ∧ ∀ i, i < (pdS 6 (pv0 Y) 0 Y).2.2.at1 + (if mvr (hrF Y) = 0 then 0 else 1) → asc (TX (pdS 6 (pv0 Y) 0 Y).2.2 i)
      rw [if_pos hm]
      exact t
    · have e : pdS 6 (pv0 Y) 0 Y = (pv0 Y, 0, Y) := by
        show (if dgt (hrF Y) = 0 then (pv0 Y, 0, Y) else _) = _
        rw [if_pos (mvr_dg hm)]
      rw [e] at q ⊢
      show Y.at1 + (if mvr (hrF Y) = 0 then 0 else 1) ≤ Y.en ∧ ∀ i, i < Y.at1 + (if mvr (hrF Y) = 0 then 0 else 1) → asc (TX Y i)
      rw [if_neg hm]
      exact (h.at (mvr_n1 hm) (asc_mv hm)) (pgo_go q)
theorem asc_lv {x : Int32} (h : ¬ lvl x ≤ 0) : asc x := by
  unfold lvl at h
  by_cases a : x = 42
  · exact ⟨42, by decide, a⟩
  · rw [if_pos a] at h
    by_cases b : x = 43
    · exact ⟨43, by decide, b⟩
    · rw [if_neg b] at h
      by_cases c : x = 45
      · exact ⟨45, by decide, c⟩
      · rw [if_pos c] at h
        exact absurd (by decide) h
theorem AS.vl : ∀ (f o : Nat) (w m : Int32) {Y : RSt}, AS Y → AS (vlR f o w m Y).2
  | 0, _, _, _, _, h => h
  | f + 1, o, w, m, Y, h => by
    unfold vlR
    by_cases h1 : m = 0
    · rw [if_pos h1]; exact h
    rw [if_neg h1]
    by_cases h2 : Y.go = 0
    · rw [if_pos h2]; exact h
    rw [if_neg h2]
    by_cases h3 : w = 0
    · rw [if_pos h3]
      by_cases h4 : lvl (hrF Y) ≤ 0
      · rw [if_pos h4]
        by_cases h5 : hrF Y = 41
        · rw [if_neg (fun g => g h5)]
          by_cases h6 : nI o ≤ 0
          · rw [if_pos h6]; exact AS.vl f _ _ _ h
          · rw [if_neg h6]
            have e := sm_rdP Y.sn Y
            have q := rdP_sp Y.sn Y
            have hh : hrF (rdP Y.sn Y) = hrF Y := by
              rw [hr_TX, hr_TX, q.1, q.2.1, TX_sm e]
            exact AS.vl f _ _ _ (show AS (cpF (rdP Y.sn Y)) from (AS.xrdP Y.sn h).at (by rw [hh, h5]; decide) (by rw [hh]; exact ⟨41, by decide, h5⟩))
        · rw [if_pos h5]; exact AS.vl f _ _ _ h
      · rw [if_neg h4]
        have e := sm_rdL Y.sn (hrF Y) Y
        have q := rdL_sp Y.sn (hrF Y) Y
        have hh : hrF (rdL Y.sn (hrF Y) Y) = hrF Y := by
          rw [hr_TX, hr_TX, q.1, q.2.1, TX_sm e]
        exact AS.vl f _ _ _ (show AS (psF (rdL Y.sn (hrF Y) Y) (hrF Y)) from (AS.xrdL Y.sn (hrF Y) h).at (by rw [hh]; exact lv_n1 h4) (by rw [hh]; exact asc_lv h4))
    · rw [if_neg h3]; exact AS.vl f _ _ _ h.pi
theorem AS.va {Y : RSt} (h : AS Y) : AS (vaF Y).2 :=
  AS.xrdE _ (AS.go (AS.vl 20 0 1 1 (show AS (vs0 Y) from h)) (fun g e => g (by unfold vgo; rw [if_pos e])))
theorem sgo_go {g x : Int32} (h : ¬ sgo g x = 0) : ¬ g = 0 ∧ ¬ x = -1 ∧ asc x := by
  unfold sgo at h
  by_cases a : g = 0
  · rw [if_pos a] at h; exact absurd rfl h
  rw [if_neg a] at h
  refine ⟨a, ?_⟩
  by_cases b : x = 60
  · exact ⟨by rw [b]; decide, 60, by decide, b⟩
  rw [if_neg b] at h
  by_cases c : x = 61
  · exact ⟨by rw [c]; decide, 61, by decide, c⟩
  rw [if_neg c] at h
  by_cases d : x = 62
  · exact ⟨by rw [d]; decide, 62, by decide, d⟩
  rw [if_pos d] at h
  exact absurd rfl h
theorem rgo_go {g x : Int32} (h : ¬ rgo g x = 0) : ¬ g = 0 ∧ ¬ mvr x = 0 := by
  unfold rgo at h
  by_cases a : g = 0
  · rw [if_pos a] at h; exact absurd rfl h
  rw [if_neg a] at h
  exact ⟨a, fun e => h (by rw [if_pos e])⟩
theorem AS.first {Y : RSt} (h : AS Y) {n : Nat} (hn : n < 128) (e : hrF Y = nI n) : AS (atF Y) := h.at (by rw [e]; exact fun g => absurd (show nI n < 0 by rw [g]; decide) (nI_pos (by omega))) ⟨n, hn, e⟩
theorem AS.xst0 {Y : RSt} (h : AS Y) : AS (st0 Y).2 := by
  unfold st0
  by_cases a : asB (hrF Y) (bhF Y) = 0
  · rw [if_neg (fun g => g a)]
    by_cases b : hrF Y = 80
    · rw [if_pos b]; exact (h.first (n := 80) (by decide) b).va
    rw [if_neg b]
    by_cases b : hrF Y = 73
    · rw [if_pos b]
      have t := (h.first (n := 73) (by decide) b).va
      have t2 : AS (iI2 Y) := t.goat (fun g => sgo_go g)
      exact (t2.va.mu (x := 71) ⟨71, by decide, rfl⟩ (by decide)).ln
    rw [if_neg b]
    by_cases b : hrF Y = 71
    · rw [if_pos b]; exact (h.first (n := 71) (by decide) b).ln
    rw [if_neg b]
    by_cases b : hrF Y = 69
    · rw [if_pos b]; exact h.first (n := 69) (by decide) b
    rw [if_neg b]
    by_cases b : hrF Y = 87
    · rw [if_pos b]
      have t := (((h.first (n := 87) (by decide) b).dg.mu (x := 44) ⟨44, by decide, rfl⟩ (by decide)).va).mu (x := 44) ⟨44, by decide, rfl⟩ (by decide)
      exact t.va
    rw [if_neg b]
    by_cases b : hrF Y = 82
    · rw [if_pos b]
      have t := (((h.first (n := 82) (by decide) b).dg.mu (x := 44) ⟨44, by decide, rfl⟩ (by decide)).va).mu (x := 44) ⟨44, by decide, rfl⟩ (by decide)
      exact t.goat (fun g => ⟨(rgo_go g).1, mvr_n1 (rgo_go g).2, asc_mv (rgo_go g).2⟩)
    rw [if_neg b]
    exact fun g => absurd (show (0 : Int32) = 0 from rfl) g
  · rw [if_pos a]
    have hm := asB_m a
    exact ((h.at (mvr_n1 hm) (asc_mv hm)).mu (x := 61) ⟨61, by decide, rfl⟩ (by decide)).va
theorem tgo_go {Y : RSt} (h : ¬ tgo Y = 0) (he : Y.en < 2 ^ 31) (ha : Y.at1 < 2 ^ 31) : ¬ Y.go = 0 ∧ Y.at1 = Y.en := by
  unfold tgo at h
  by_cases a : Y.go = 0
  · rw [if_pos a] at h; exact absurd rfl h
  rw [if_neg a] at h
  refine ⟨a, ?_⟩
  by_cases b : nI Y.at1 = nI Y.en
  · exact (nI_eq ha he).mp b
  · rw [if_pos b] at h; exact absurd rfl h
def mkT (t : Nat → Int32) (d : Nat) : RSt := (0, 0, 0, 0, 0, 0, 0, 0, 0, 0, d, 1, 0, 0, 0, fun _ => 0, fun _ => 0, fun _ => 0, fun _ => 0, fun _ => 0, t, fun _ => 0, fun _ => 0, fun _ => 0, fun _ => 0)
def GL (t : Nat → Int32) (d : Nat) : Prop := ¬ (sR0 (mkT t d)).2.go = 0
theorem GL_of {X : RSt} {t : Nat → Int32} {d : Nat} (h1 : X.at1 = 0) (h2 : X.en = d) (h3 : X.go = 1) (h4 : ∀ i, i < d → TX X i = t i) : SI X (mkT t d) := ⟨h1, h2, h3, fun i hi => by
  rw [h4 i hi]
  show t i = (if (0 : Int32) = 0 then t (0 + i) else _)
  rw [if_pos rfl, Nat.zero_add]⟩
theorem GL_cg {t t' : Nat → Int32} {d : Nat} (hd : d ≤ 15) (h : ∀ i, i < d → t i = t' i) (g : GL t d) : GL t' d := by
  have s : SI (mkT t d) (mkT t' d) := GL_of rfl rfl rfl (fun i hi => by
    show (if (0 : Int32) = 0 then t (0 + i) else _) = t' i
    rw [if_pos rfl, Nat.zero_add]
    exact h i hi)
  unfold GL at g ⊢
  rw [← (s.xsR0 hd).2]
  exact g
theorem GL_wr {X : RSt} {t : Nat → Int32} {d : Nat} (hd : d ≤ 15) (s : SI X (mkT t d)) (g : GL t d) (hrec : ∀ n, n < 8 → X.dk (16 + 2 * n) = 16 → ∃ f, f < 32 ∧ X.dk (17 + 2 * n) = nI f) : wrP X := by
  intro hc
  have g0 : ¬ (sR0 X).2.go = 0 := by rw [(s.xsR0 hd).2]; exact g
  have g1 : ¬ tgo (st0 X).2 = 0 := g0
  have g2 : ¬ (st0 X).2.go = 0 := fun e => g1 (by unfold tgo; rw [if_pos e])
  have na : asB (hrF X) (bhF X) = 0 := by
    unfold asB
    rw [if_pos (by rcases hc with e | e <;> rw [e] <;> decide)]
  have key : ¬ (iW3 X).go = 0 ∧ (hrF X = 82 → ¬ mvr (hrF (iW3 X)) = 0) := by
    unfold st0 at g2
    rw [if_neg (fun q => q na)] at g2
    rcases hc with e | e
    · rw [e, if_neg (by decide), if_neg (by decide), if_neg (by decide), if_neg (by decide), if_pos rfl] at g2
      exact ⟨va_go g2, fun e2 => absurd (e.symm.trans e2) (by decide)⟩
    · rw [e, if_neg (by decide), if_neg (by decide), if_neg (by decide), if_neg (by decide), if_neg (by decide), if_pos rfl] at g2
      have q : ¬ rgo (iW3 X).go (hrF (iW3 X)) = 0 := g2
      exact ⟨(rgo_go q).1, fun _ => (rgo_go q).2⟩
  have k2 : ¬ (dgF (atF X)).2.go = 0 := mu_go (va_go (mu_go key.1))
  have k3 := dg_go k2
  obtain ⟨j, hj, ej⟩ : ∃ j : Nat, j < 8 ∧ hrF (atF X) = nI (48 + j) := by
    have h0 : ¬ hrF (atF X) < 0 := fun g => k3.2.1 (Int32.lt_trans g (by decide))
    obtain ⟨j, hj, e⟩ := nI_of2 (M := 55) (n := 55) (by decide) h0 (Int32.not_lt.mp k3.2.2)
    have h48 : 48 ≤ j := by
      rcases Nat.lt_or_ge j 48 with g | g
      · exact absurd (by rw [e]; exact nI_lt (b := 48) g (by decide)) k3.2.1
      · exact g
    exact ⟨j - 48, by omega, by rw [e, show 48 + (j - 48) = j by omega]⟩
  refine ⟨j, hj, ?_, hrec j hj, fun e => ?_⟩
  · show hrF (atF X) - 48 = nI j
    rw [ej]
    have e2 : nI (48 + j) - 48 = nI (48 + j - 48) := pk_sub (b := 48) (by omega)
    rw [e2, show 48 + j - 48 = j by omega]
  · exact vp_in_of (mvr_in (key.2 e)) (by decide)
theorem sm_I2 (Y : RSt) : smP Y (iI2 Y) := (((sm_at Y).tr (sm_va _)).tr (sm_go _ _)).tr (sm_at _)
theorem sm_W3 (Y : RSt) : smP Y (iW3 Y) := ((((sm_at Y).tr (sm_dg _)).tr (sm_mu _ _)).tr (sm_va _)).tr (sm_mu _ _)
theorem sm_R4 (Y : RSt) : smP Y (iR4 Y) := ((sm_W3 Y).tr (sm_go _ _)).tr (sm_at _)
theorem sm_I4 (Y : RSt) : smP Y (iI4 Y).2 := (((sm_I2 Y).tr (sm_va _)).tr (sm_mu _ _)).tr (sm_ln _)
theorem sm_st0 (Y : RSt) : smP Y (st0 Y).2 := by
  unfold st0
  repeat' split
  · exact ((sm_at Y).tr (sm_mu _ _)).tr (sm_va _)
  · exact (sm_at Y).tr (sm_va _)
  · exact sm_I4 Y
  · exact (sm_at Y).tr (sm_ln _)
  · exact sm_at Y
  · exact (sm_W3 Y).tr (sm_va _)
  · exact sm_R4 Y
  · exact (sm_at Y).tr (sm_go _ _)
theorem at_le {Y : RSt} (h : AS Y) (g : ¬ Y.go = 0) : Y.at1 ≤ Y.en := (h g).1
theorem GL_asc {t : Nat → Int32} {d : Nat} (hd : d ≤ 15) (g : GL t d) : ∀ i, i < d → asc (t i) := by
  have h : AS (mkT t d) := fun _ => ⟨Nat.zero_le _, fun i hi => absurd hi (Nat.not_lt_zero _)⟩
  have h2 := h.xst0
  have g1 : ¬ tgo (st0 (mkT t d)).2 = 0 := g
  have g2 : ¬ (st0 (mkT t d)).2.go = 0 := fun e => g1 (by unfold tgo; rw [if_pos e])
  have sm : smP (mkT t d) (st0 (mkT t d)).2 := sm_st0 _
  have en : (st0 (mkT t d)).2.en = d := sm_en sm
  have l := at_le h2 g2
  rw [en] at l
  have q := tgo_go g1 (by rw [en]; omega) (by omega)
  intro i hi
  have r := (h2 g2).2 i (by rw [q.2, en]; exact hi)
  rw [TX_sm sm] at r
  have e : TX (mkT t d) i = t i := by
    show (if (0 : Int32) = 0 then t (0 + i) else _) = t i
    rw [if_pos rfl, Nat.zero_add]
  rw [e] at r
  exact r
