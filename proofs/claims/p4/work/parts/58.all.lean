/-! a text read from two places is read alike -/
def pcG (Y : RSt) (g : Int32) (n : Nat) (v : Int32) : RSt := (Y.th, Y.ar, Y.de, Y.wr, Y.nx, Y.os, Y.tn, Y.ol, Y.fm, n, Y.en, g, Y.nn + 1, Y.sn, Y.my, Y.dk, Y.ln, Y.ch, Y.va, Y.ou, Y.tx, upd Y.nb Y.nn v, Y.sg, Y.wh, Y.ce)
def TX (Y : RSt) (i : Nat) : Int32 := if Y.ol = 0 then Y.tx (Y.fm + i) else Y.ch (Y.fm + i)
theorem hr_TX (Y : RSt) : hrF Y = if Y.at1 < Y.en then TX Y Y.at1 else -1 := rfl
def SI (X Y : RSt) : Prop := X.at1 = Y.at1 ∧ X.en = Y.en ∧ X.go = Y.go ∧ ∀ i, i < Y.en → TX X i = TX Y i
def SS (X Y : RSt) : Prop := SI X Y ∧ X.sn = Y.sn ∧ ∀ i, i < Y.sn → X.sg i = Y.sg i
theorem SI.hr {X Y : RSt} (h : SI X Y) : hrF X = hrF Y := by
  obtain ⟨a, b, _, d⟩ := h
  rw [hr_TX, hr_TX, a, b]
  by_cases g : Y.at1 < Y.en
  · rw [if_pos g, if_pos g, d _ g]
  · rw [if_neg g, if_neg g]
theorem SI.at {X Y : RSt} (h : SI X Y) : SI (atF X) (atF Y) := ⟨congrArg (· + 1) h.1, h.2.1, h.2.2.1, h.2.2.2⟩
theorem SI.go {X Y : RSt} (h : SI X Y) {g g' : Int32} (e : g = g') : SI (goF X g) (goF Y g') := ⟨h.1, h.2.1, e, h.2.2.2⟩
theorem SI.ta {X Y : RSt} (h : SI X Y) (x : Int32) : (taF X x).1 = (taF Y x).1 ∧ SI (taF X x).2 (taF Y x).2 := by
  unfold taF
  rw [h.hr]
  by_cases g : hrF Y = x
  · rw [if_pos g, if_pos g]; exact ⟨rfl, h.at⟩
  · rw [if_neg g, if_neg g]; exact ⟨rfl, h⟩
theorem SI.mu {X Y : RSt} (h : SI X Y) (x : Int32) : SI (muF X x) (muF Y x) := by
  have t := h.ta x
  exact t.2.go (by rw [t.1, t.2.2.2.1])
theorem SI.dg {X Y : RSt} (h : SI X Y) : (dgF X).1 = (dgF Y).1 ∧ SI (dgF X).2 (dgF Y).2 := by
  refine ⟨?_, h.at.go ?_⟩
  · show hrF X - 48 = hrF Y - 48
    rw [h.hr]
  · rw [h.hr, h.2.2.1]
theorem SI.xlnS : ∀ (f : Nat) (n : Int32) {X Y : RSt}, SI X Y → (lnS f n X).1 = (lnS f n Y).1 ∧ SI (lnS f n X).2 (lnS f n Y).2
  | 0, _, _, _, h => ⟨rfl, h⟩
  | f + 1, n, X, Y, h => by
    show (if dgt (hrF X) = 0 then (n, X) else lnS f (10 * n + hrF X - 48) (atF X)).1 = (if dgt (hrF Y) = 0 then (n, Y) else lnS f (10 * n + hrF Y - 48) (atF Y)).1 ∧ SI (if dgt (hrF X) = 0 then (n, X) else lnS f (10 * n + hrF X - 48) (atF X)).2 (if dgt (hrF Y) = 0 then (n, Y) else lnS f (10 * n + hrF Y - 48) (atF Y)).2
    rw [h.hr]
    by_cases g : dgt (hrF Y) = 0
    · rw [if_pos g, if_pos g]; exact ⟨rfl, h⟩
    · rw [if_neg g, if_neg g]; exact SI.xlnS f _ h.at
theorem SI.ln {X Y : RSt} (h : SI X Y) : (lnF X).1 = (lnF Y).1 ∧ SI (lnF X).2 (lnF Y).2 := by
  have t := SI.xlnS 2 0 h
  unfold lnF
  revert t
  generalize lnS 2 0 X = a
  generalize lnS 2 0 Y = c
  intro t
  exact ⟨t.1, t.2.go (by rw [t.1, t.2.2.2.1])⟩
theorem SS.re {X Y : RSt} (h : SS X Y) : SS (reF X) (reF Y) := ⟨h.1, by show X.sn - 1 = Y.sn - 1; rw [h.2.1], fun i hi => h.2.2 i (Nat.lt_of_lt_of_le hi (Nat.sub_le _ _))⟩
theorem SS.top {X Y : RSt} (h : SS X Y) (hs : 1 ≤ Y.sn) : X.sg (X.sn - 1) = Y.sg (Y.sn - 1) := by
  rw [h.2.1]
  exact h.2.2 _ (by omega)
theorem SS.xrdL : ∀ (f : Nat) (x : Int32) {X Y : RSt}, SS X Y → SS (rdL f x X) (rdL f x Y)
  | 0, _, _, _, h => h
  | f + 1, x, X, Y, h => by
    show SS (if X.sn = 0 then X else if lvl (X.sg (X.sn - 1)) < lvl x then X else rdL f x (reF X)) (if Y.sn = 0 then Y else if lvl (Y.sg (Y.sn - 1)) < lvl x then Y else rdL f x (reF Y))
    by_cases g : Y.sn = 0
    · rw [if_pos g, if_pos (h.2.1.trans g)]; exact h
    · rw [if_neg g, if_neg (fun e => g (h.2.1.symm.trans e)), h.top (by omega)]
      by_cases g2 : lvl (Y.sg (Y.sn - 1)) < lvl x
      · rw [if_pos g2, if_pos g2]; exact h
      · rw [if_neg g2, if_neg g2]; exact SS.xrdL f x h.re
theorem SS.xrdP {o : Nat} (ho : 0 < o) : ∀ (f : Nat) {X Y : RSt}, SS X Y → VI X o 0 → VI Y o 0 → SS (rdP f X) (rdP f Y)
  | 0, _, _, h, _, _ => h
  | f + 1, X, Y, h, hx, hy => by
    have hs := hy.2.1
    have hsx := hx.2.1
    show SS (if X.sg (X.sn - 1) = 40 then X else rdP f (reF X)) (if Y.sg (Y.sn - 1) = 40 then Y else rdP f (reF Y))
    have ht := h.top (by omega)
    by_cases g : Y.sg (Y.sn - 1) = 40
    · rw [if_pos g, if_pos (ht.trans g)]; exact h
    · have gx : ¬ X.sg (X.sn - 1) = 40 := fun e => g (ht.symm.trans e)
      rw [if_neg g, if_neg gx]
      exact SS.xrdP ho f h.re (VI_re hx (by omega) gx).2 (VI_re hy (by omega) g).2
theorem SS.xrdE : ∀ (f : Nat) {X Y : RSt}, SS X Y → SS (rdE f X) (rdE f Y)
  | 0, _, _, h => h
  | f + 1, X, Y, h => by
    show SS (if X.go = 0 then X else if X.sn = 0 then X else rdE f (reF X)) (if Y.go = 0 then Y else if Y.sn = 0 then Y else rdE f (reF Y))
    rw [h.1.2.2.1, h.2.1]
    by_cases g : Y.go = 0
    · rw [if_pos g, if_pos g]; exact h
    · rw [if_neg g, if_neg g]
      by_cases g2 : Y.sn = 0
      · rw [if_pos g2, if_pos g2]; exact h
      · rw [if_neg g2, if_neg g2]; exact SS.xrdE f h.re
theorem SS.xpdS : ∀ (f : Nat) (v w : Int32) (k : Nat) {X Y : RSt}, SS X Y → (pdS f v k X).2.1 = (pdS f w k Y).2.1 ∧ SS (pdS f v k X).2.2 (pdS f w k Y).2.2
  | 0, _, _, _, _, _, h => ⟨rfl, h⟩
  | f + 1, v, w, k, X, Y, h => by
    show (if dgt (hrF X) = 0 then (v, k, X) else pdS f (10 * v + hrF X - 48) (k + 1) (atF X)).2.1 = (if dgt (hrF Y) = 0 then (w, k, Y) else pdS f (10 * w + hrF Y - 48) (k + 1) (atF Y)).2.1 ∧ SS (if dgt (hrF X) = 0 then (v, k, X) else pdS f (10 * v + hrF X - 48) (k + 1) (atF X)).2.2 (if dgt (hrF Y) = 0 then (w, k, Y) else pdS f (10 * w + hrF Y - 48) (k + 1) (atF Y)).2.2
    rw [h.1.hr]
    by_cases g : dgt (hrF Y) = 0
    · rw [if_pos g, if_pos g]; exact ⟨rfl, h⟩
    · rw [if_neg g, if_neg g]; exact SS.xpdS f _ _ _ ⟨h.1.at, h.2⟩
theorem SS_pc1 {X Y : RSt} (h : SS X Y) : SS (pc1 X) (pc1 Y) := by
  refine ⟨⟨?_, h.1.2.1, h.1.2.2.1, h.1.2.2.2⟩, ?_, ?_⟩
  · show X.at1 + 1 = Y.at1 + 1
    rw [h.1.1]
  · show X.sn + 1 = Y.sn + 1
    rw [h.2.1]
  · intro i hi
    have hi : i < Y.sn + 1 := hi
    show upd X.sg X.sn 40 i = upd Y.sg Y.sn 40 i
    rw [h.2.1]
    by_cases e : i = Y.sn
    · rw [e, pk_us, pk_us]
    · rw [pk_un e, pk_un e]
      exact h.2.2 i (by omega)
theorem SS_pcG {X Y : RSt} (h : SS X Y) {g g' : Int32} (eg : g = g') {n n' : Nat} (en : n = n') (v v' : Int32) : SS (pcG X g n v) (pcG Y g' n' v') := ⟨⟨en, h.1.2.1, eg, h.1.2.2.2⟩, h.2⟩
theorem pc2_G (c v : Int32) (k : Nat) (Y : RSt) : pc2 c (v, k, Y) = pcG Y (pgo Y.go c k) (Y.at1 + (if mvr c = 0 then 0 else 1)) v := rfl
theorem SS.pi {X Y : RSt} (h : SS X Y) : (piR X).1 = (piR Y).1 ∧ SS (piR X).2 (piR Y).2 := by
  unfold piR
  rw [h.1.hr]
  by_cases g : hrF Y = 40
  · have ng : ¬ ¬ hrF Y = 40 := fun q => q g
    rw [if_neg ng, if_neg ng]
    exact ⟨rfl, SS_pc1 h⟩
  · rw [if_pos g, if_pos g]
    have t := h.xpdS 6 (pv0 X) (pv0 Y) 0
    revert t
    generalize pdS 6 (pv0 X) 0 X = a
    generalize pdS 6 (pv0 Y) 0 Y = c
    obtain ⟨a1, a2, a3⟩ := a
    obtain ⟨c1, c2, c3⟩ := c
    intro t
    have t1 : a2 = c2 := t.1
    have t2 : SS a3 c3 := t.2
    subst t1
    rw [pc2_G, pc2_G, t2.1.1, t2.1.2.2.1]
    exact ⟨rfl, SS_pcG t2 rfl rfl a1 c1⟩
theorem SS_ps {X Y : RSt} (h : SS X Y) (x : Int32) : SS (psF X x) (psF Y x) := by
  refine ⟨⟨?_, h.1.2.1, h.1.2.2.1, h.1.2.2.2⟩, ?_, ?_⟩
  · show X.at1 + 1 = Y.at1 + 1
    rw [h.1.1]
  · show X.sn + 1 = Y.sn + 1
    rw [h.2.1]
  · intro i hi
    have hi : i < Y.sn + 1 := hi
    show upd X.sg X.sn x i = upd Y.sg Y.sn x i
    rw [h.2.1]
    by_cases e : i = Y.sn
    · rw [e, pk_us, pk_us]
    · rw [pk_un e, pk_un e]
      exact h.2.2 i (by omega)
theorem SS_cp {X Y : RSt} (h : SS X Y) : SS (cpF X) (cpF Y) := by
  refine ⟨⟨?_, h.1.2.1, h.1.2.2.1, h.1.2.2.2⟩, ?_, ?_⟩
  · show X.at1 + 1 = Y.at1 + 1
    rw [h.1.1]
  · show X.sn - 1 = Y.sn - 1
    rw [h.2.1]
  · intro i hi
    have hi : i < Y.sn - 1 := hi
    show X.sg i = Y.sg i
    exact h.2.2 i (by omega)
/-! the stacks stay in order, without a bound on the place -/
theorem rdL_VI {o : Nat} : ∀ (f : Nat) {x : Int32} {Y : RSt}, ¬ lvl x ≤ 0 → VI Y o 0 → VI (rdL f x Y) o 0
  | 0, _, _, _, h => h
  | f + 1, x, Y, hx, h => by
    show VI (if Y.sn = 0 then Y else if lvl (Y.sg (Y.sn - 1)) < lvl x then Y else rdL f x (reF Y)) o 0
    by_cases g : Y.sn = 0
    · rw [if_pos g]; exact h
    · rw [if_neg g]
      by_cases g2 : lvl (Y.sg (Y.sn - 1)) < lvl x
      · rw [if_pos g2]; exact h
      · rw [if_neg g2]; exact rdL_VI f hx (VI_re h (by omega) (lv40 g2 hx)).2
theorem rdP_VI {o : Nat} (ho : 0 < o) : ∀ (f : Nat) {Y : RSt}, VI Y o 0 → VI (rdP f Y) o 0 ∧ (Y.sn ≤ f → (rdP f Y).sg ((rdP f Y).sn - 1) = 40)
  | 0, Y, h => ⟨h, fun e => absurd h.2.1 (by omega)⟩
  | f + 1, Y, h => by
    show VI (if Y.sg (Y.sn - 1) = 40 then Y else rdP f (reF Y)) o 0 ∧ (Y.sn ≤ f + 1 → (if Y.sg (Y.sn - 1) = 40 then Y else rdP f (reF Y)).sg ((if Y.sg (Y.sn - 1) = 40 then Y else rdP f (reF Y)).sn - 1) = 40)
    have hs := h.2.1
    by_cases g : Y.sg (Y.sn - 1) = 40
    · rw [if_pos g]; exact ⟨h, fun _ => g⟩
    · rw [if_neg g]
      have t := rdP_VI ho f (VI_re h (by omega) g).2
      exact ⟨t.1, fun e => t.2 (by show Y.sn - 1 ≤ f; omega)⟩
theorem VI_pcG {Y : RSt} {o : Nat} {g : Int32} {n : Nat} {v : Int32} (h1 : pcn Y.sg Y.sn = o) (h2 : o ≤ Y.sn) (h3 : Y.nn + 1 = Y.sn - o + 1) (h4 : Y.nn + 1 + Y.sn + (Y.en - n) ≤ 15) : VI (pcG Y g n v) o 0 := ⟨h1, h2, h3, h4⟩
theorem VI_pc1 {Y : RSt} {o : Nat} (h1 : pcn Y.sg Y.sn = o) (h2 : o ≤ Y.sn) (h3 : Y.nn = Y.sn - o) (h4 : Y.nn + Y.sn + (Y.en - Y.at1) ≤ 15) (hl : Y.at1 < Y.en) : VI (pc1 Y) (o + 1) 1 := by
  refine ⟨?_, ?_, ?_, ?_⟩
  · show pcn (upd Y.sg Y.sn 40) Y.sn + (if upd Y.sg Y.sn 40 Y.sn = 40 then 1 else 0) = o + 1
    rw [pcn_upd Y.sg Y.sn 40 Y.sn (Nat.le_refl _), pk_us, if_pos rfl, h1]
  · show o + 1 ≤ Y.sn + 1
    omega
  · show Y.nn = Y.sn + 1 - (o + 1) + 0
    omega
  · show Y.nn + (Y.sn + 1) + (Y.en - (Y.at1 + 1)) ≤ 15
    omega
theorem piV {Y : RSt} {o : Nat} {w : Int32} (hv : VI Y o w) (hw : ¬ w = 0) (hg : ¬ (piR Y).2.go = 0) : VI (piR Y).2 (if (piR Y).1 = 0 then o + 1 else o) (if (piR Y).1 = 0 then 1 else 0) := by
  obtain ⟨v1, v2, v3, v4⟩ := hv
  rw [if_neg hw] at v3
  revert hg
  unfold piR
  by_cases h : hrF Y = 40
  · rw [if_neg (fun g => g h)]
    intro _
    have hl := hr_lt (Y := Y) (by rw [h]; decide)
    exact VI_pc1 v1 v2 v3 v4 hl
  · rw [if_pos h]
    by_cases hm : mvr (hrF Y) = 0
    · obtain ⟨v', d, e, hd, he⟩ := pdS_sp 6 (pv0 Y) 0 Y
      rw [e, pc2_G]
      intro hg
      have hg : ¬ pgo (atN Y (Y.at1 + d)).go (hrF Y) (0 + d) = 0 := hg
      have hd0 : 0 < d := by
        rcases Nat.eq_zero_or_pos d with g | g
        · exfalso
          apply hg
          unfold pgo
          by_cases hgo : (atN Y (Y.at1 + d)).go = 0
          · rw [if_pos hgo]
          · rw [g, if_neg (by rw [g] at hgo; exact hgo), if_neg (fun q => q hm), if_pos (show nI (0 + 0) ≤ 0 by decide)]
        · exact g
      have hl := he hd0
      have r : VI (pcG (atN Y (Y.at1 + d)) (pgo (atN Y (Y.at1 + d)).go (hrF Y) (0 + d)) ((atN Y (Y.at1 + d)).at1 + (if mvr (hrF Y) = 0 then 0 else 1)) v') o 0 := by
        refine VI_pcG (Y := atN Y (Y.at1 + d)) v1 v2 (show Y.nn + 1 = Y.sn - o + 1 by omega) ?_
        rw [if_pos hm]
        show Y.nn + 1 + Y.sn + (Y.en - (Y.at1 + d + 0)) ≤ 15
        omega
      exact r
    · have hl := hr_lt (mvr_n1 hm)
      have e : pdS 6 (pv0 Y) 0 Y = (pv0 Y, 0, Y) := by
        show (if dgt (hrF Y) = 0 then (pv0 Y, 0, Y) else _) = _
        rw [if_pos (mvr_dg hm)]
      rw [e, pc2_G]
      intro hg
      have r : VI (pcG Y (pgo Y.go (hrF Y) 0) (Y.at1 + (if mvr (hrF Y) = 0 then 0 else 1)) (pv0 Y)) o 0 := by
        refine VI_pcG v1 v2 (by omega) ?_
        rw [if_neg hm]
        omega
      exact r
theorem SS.vl : ∀ (f o : Nat) (w m : Int32) {X Y : RSt}, SS X Y → (¬ Y.go = 0 → VI X o w ∧ VI Y o w) → (vlR f o w m X).1 = (vlR f o w m Y).1 ∧ SS (vlR f o w m X).2 (vlR f o w m Y).2
  | 0, _, _, _, _, _, h, _ => ⟨rfl, h⟩
  | f + 1, o, w, m, X, Y, h, hv => by
    unfold vlR
    rw [h.1.hr, h.1.2.2.1]
    by_cases h1 : m = 0
    · rw [if_pos h1, if_pos h1]; exact ⟨rfl, h⟩
    rw [if_neg h1, if_neg h1]
    by_cases h2 : Y.go = 0
    · rw [if_pos h2, if_pos h2]; exact ⟨rfl, h⟩
    rw [if_neg h2, if_neg h2]
    obtain ⟨vx, vy⟩ := hv h2
    by_cases h3 : w = 0
    · subst h3
      rw [if_pos rfl, if_pos rfl]
      by_cases h4 : lvl (hrF Y) ≤ 0
      · rw [if_pos h4, if_pos h4]
        by_cases h5 : hrF Y = 41
        · have nh : ¬ ¬ hrF Y = 41 := fun g => g h5
          rw [if_neg nh, if_neg nh]
          by_cases h6 : nI o ≤ 0
          · rw [if_pos h6, if_pos h6]; exact SS.vl f _ _ _ h hv
          · rw [if_neg h6, if_neg h6, h.2.1]
            have ho : 0 < o := by
              rcases Nat.eq_zero_or_pos o with g | g
              · exact absurd (by rw [g]; decide) h6
              · exact g
            have sp := SS.xrdP ho Y.sn h vx vy
            have px := rdP_VI ho Y.sn vx
            have py := rdP_VI ho Y.sn vy
            have qx := rdP_sp Y.sn X
            have qy := rdP_sp Y.sn Y
            have hl := hr_lt (Y := Y) (by rw [h5]; decide)
            refine SS.vl f _ _ _ (SS_cp sp) (fun _ => ⟨VI_cp px.1 ho (px.2 (by rw [h.2.1]; exact Nat.le_refl _)) ?_, VI_cp py.1 ho (py.2 (Nat.le_refl _)) ?_⟩)
            · rw [qx.1, qx.2.1, h.1.1, h.1.2.1]; exact hl
            · rw [qy.1, qy.2.1]; exact hl
        · rw [if_pos h5, if_pos h5]; exact SS.vl f _ _ _ h hv
      · rw [if_neg h4, if_neg h4, h.2.1]
        have sp := SS.xrdL Y.sn (hrF Y) h
        have px := rdL_VI Y.sn h4 vx
        have py := rdL_VI Y.sn h4 vy
        have qx := rdL_sp Y.sn (hrF Y) X
        have qy := rdL_sp Y.sn (hrF Y) Y
        have hl := hr_lt (lv_n1 h4)
        refine SS.vl f _ _ _ (SS_ps sp _) (fun _ => ⟨VI_ps px h4 ?_, VI_ps py h4 ?_⟩)
        · rw [qx.1, qx.2.1, h.1.1, h.1.2.1]; exact hl
        · rw [qy.1, qy.2.1]; exact hl
    · rw [if_neg h3, if_neg h3]
      have t := h.pi
      rw [t.1]
      refine SS.vl f _ _ _ t.2 (fun g => ⟨?_, piV vy h3 g⟩)
      have q := piV vx h3 (by rw [t.2.1.2.2.1]; exact g)
      rw [t.1] at q
      exact q
theorem SI.va {X Y : RSt} (h : SI X Y) (hen : Y.en ≤ 15) : SI (vaF X).2 (vaF Y).2 := by
  have s0 : SS (vs0 X) (vs0 Y) := ⟨h, rfl, fun i hi => absurd hi (Nat.not_lt_zero _)⟩
  have hx : X.en ≤ 15 := by rw [h.2.1]; exact hen
  have t := SS.vl 20 0 1 1 s0 (fun _ => ⟨⟨rfl, Nat.le_refl _, rfl, by show 0 + 0 + (X.en - X.at1) ≤ 15; omega⟩, ⟨rfl, Nat.le_refl _, rfl, by show 0 + 0 + (Y.en - Y.at1) ≤ 15; omega⟩⟩)
  unfold vaF va2
  revert t
  generalize vlR 20 0 1 1 (vs0 X) = a
  generalize vlR 20 0 1 1 (vs0 Y) = c
  obtain ⟨a1, a2⟩ := a
  obtain ⟨c1, c2⟩ := c
  intro t
  have t1 : SS (va1 (a1, a2)) (va1 (c1, c2)) := ⟨t.2.1.go (by rw [show a1 = c1 from t.1]; rw [show a2.go = c2.go from t.2.1.2.2.1]), t.2.2⟩
  revert t1
  generalize va1 (a1, a2) = A
  generalize va1 (c1, c2) = C
  intro t1
  show SI (rdE A.sn A) (rdE C.sn C)
  rw [t1.2.1]
  exact (SS.xrdE _ t1).1
theorem SI.bh {X Y : RSt} (h : SI X Y) : bhF X = bhF Y := by
  obtain ⟨a, b, _, d⟩ := h
  show (if X.at1 + 1 < X.en then TX X (X.at1 + 1) else -1) = (if Y.at1 + 1 < Y.en then TX Y (Y.at1 + 1) else -1)
  rw [a, b]
  by_cases g : Y.at1 + 1 < Y.en
  · rw [if_pos g, if_pos g, d _ g]
  · rw [if_neg g, if_neg g]
theorem SI.I2 {X Y : RSt} (h : SI X Y) (hen : Y.en ≤ 15) : SI (iI2 X) (iI2 Y) := by
  have t := h.at.va hen
  refine SI.at (t.go ?_)
  rw [t.2.2.1, t.hr]
theorem SI.I4 {X Y : RSt} (h : SI X Y) (hen : Y.en ≤ 15) : SI (iI4 X).2 (iI4 Y).2 := by
  have t := h.I2 hen
  have e : (iI2 Y).en = Y.en := sm_en ((((sm_at Y).tr (sm_va _)).tr (sm_go _ _)).tr (sm_at _))
  exact ((t.va (by rw [e]; exact hen)).mu 71).ln.2
theorem SI.W2 {X Y : RSt} (h : SI X Y) (hen : Y.en ≤ 15) : SI (iW2 X).2 (iW2 Y).2 :=
  (h.at.dg.2.mu 44).va (by rw [sm_en (((sm_at Y).tr (sm_dg _)).tr (sm_mu _ _))]; exact hen)
theorem en_W3 (Y : RSt) : (iW3 Y).en = Y.en := sm_en (((((sm_at Y).tr (sm_dg _)).tr (sm_mu _ _)).tr (sm_va _)).tr (sm_mu _ _))
theorem SI.W3 {X Y : RSt} (h : SI X Y) (hen : Y.en ≤ 15) : SI (iW3 X) (iW3 Y) := (h.W2 hen).mu 44
theorem SI.R4 {X Y : RSt} (h : SI X Y) (hen : Y.en ≤ 15) : SI (iR4 X) (iR4 Y) := by
  have t := h.W3 hen
  refine SI.at (t.go ?_)
  rw [t.2.2.1, t.hr]
theorem and_mk {a : Int32} {A B : RSt} (h : SI A B) : ((a, A) : Int32 × RSt).1 = ((a, B) : Int32 × RSt).1 ∧ SI ((a, A) : Int32 × RSt).2 ((a, B) : Int32 × RSt).2 := ⟨rfl, h⟩
theorem SI.xst0 {X Y : RSt} (h : SI X Y) (hen : Y.en ≤ 15) : (st0 X).1 = (st0 Y).1 ∧ SI (st0 X).2 (st0 Y).2 := by
  unfold st0
  rw [h.hr, h.bh]
  by_cases a : asB (hrF Y) (bhF Y) = 0
  · have na : ¬ ¬ asB (hrF Y) (bhF Y) = 0 := fun g => g a
    rw [if_neg na, if_neg na]
    by_cases b : hrF Y = 80
    · rw [if_pos b, if_pos b]; exact and_mk (h.at.va hen)
    rw [if_neg b, if_neg b]
    by_cases b : hrF Y = 73
    · rw [if_pos b, if_pos b]; exact and_mk (h.I4 hen)
    rw [if_neg b, if_neg b]
    by_cases b : hrF Y = 71
    · rw [if_pos b, if_pos b]; exact and_mk (h.at.ln.2)
    rw [if_neg b, if_neg b]
    by_cases b : hrF Y = 69
    · rw [if_pos b, if_pos b]; exact and_mk (h.at)
    rw [if_neg b, if_neg b]
    by_cases b : hrF Y = 87
    · rw [if_pos b, if_pos b]; exact and_mk ((h.W3 hen).va (by rw [en_W3]; exact hen))
    rw [if_neg b, if_neg b]
    by_cases b : hrF Y = 82
    · rw [if_pos b, if_pos b]; exact and_mk (h.R4 hen)
    rw [if_neg b, if_neg b]
    exact and_mk (h.at.go rfl)
  · rw [if_pos a, if_pos a]
    exact and_mk ((h.at.mu 61).va (by rw [sm_en ((sm_at Y).tr (sm_mu _ _))]; exact hen))
theorem SI.xsR0 {X Y : RSt} (h : SI X Y) (hen : Y.en ≤ 15) : (sR0 X).1 = (sR0 Y).1 ∧ (sR0 X).2.go = (sR0 Y).2.go := by
  have t := h.xst0 hen
  unfold sR0
  revert t
  generalize st0 X = a
  generalize st0 Y = c
  obtain ⟨a1, a2⟩ := a
  obtain ⟨c1, c2⟩ := c
  intro t
  have t1 : a1 = c1 := t.1
  have t2 : SI a2 c2 := t.2
  refine ⟨t1, ?_⟩
  show tgo a2 = tgo c2
  unfold tgo
  rw [t2.1, t2.2.1, t2.2.2.1]
/-! once bad, bad to the end; a good text is of small signs -/
theorem mu_go {Y : RSt} {x : Int32} (h : ¬ (muF Y x).go = 0) : ¬ Y.go = 0 := fun e => h (by
  show andI (taF Y x).2.go (taF Y x).1 = 0
  have e2 : (taF Y x).2.go = Y.go := by unfold taF; split <;> rfl
  unfold andI
  rw [e2, if_pos e])
theorem mu_in {Y : RSt} {x : Int32} (h : ¬ (muF Y x).go = 0) : hrF Y = x := Decidable.byContradiction (fun e => h (by
  show andI (taF Y x).2.go (taF Y x).1 = 0
  unfold taF andI
  rw [if_neg e]
  show (if Y.go = 0 then (0 : Int32) else if (0 : Int32) = 0 then 0 else 1) = 0
  split <;> rfl))
theorem dg_go {Y : RSt} (h : ¬ (dgF Y).2.go = 0) : ¬ Y.go = 0 ∧ ¬ hrF Y < 48 ∧ ¬ 55 < hrF Y := by
  have h : ¬ (if Y.go = 0 then (0 : Int32) else if hrF Y < 48 then 0 else if 55 < hrF Y then 0 else 1) = 0 := h
  refine ⟨fun e => h (by rw [if_pos e]), fun e => h ?_, fun e => h ?_⟩
  · rw [if_pos e]; split <;> rfl
  · rw [if_pos e]; split
    · rfl
    · split <;> rfl
theorem lnS_go : ∀ (f : Nat) (n : Int32) (Y : RSt), (lnS f n Y).2.go = Y.go
  | 0, _, _ => rfl
  | f + 1, n, Y => by
    unfold lnS
    split
    · rfl
    · exact lnS_go f _ _
theorem ln_go {Y : RSt} (h : ¬ (lnF Y).2.go = 0) : ¬ Y.go = 0 := fun e => h (by
  show (if (lnS 2 0 Y).2.go = 0 then (0 : Int32) else if (lnS 2 0 Y).1 ≤ 0 then 0 else 1) = 0
  rw [lnS_go, if_pos e])
theorem va_bad {Y : RSt} (h : Y.go = 0) : (vaF Y).2.go = 0 ∧ (vaF Y).2.at1 = Y.at1 := by
  have e1 : vlR 20 0 1 1 (vs0 Y) = (0, vs0 Y) := by
    unfold vlR
    rw [if_neg (by decide), if_pos (show (vs0 Y).go = 0 from h)]
  have e2 : va1 (vlR 20 0 1 1 (vs0 Y)) = goF (vs0 Y) 0 := by
    rw [e1]
    show goF (vs0 Y) (vgo (vs0 Y).go 0) = _
    unfold vgo
    rw [if_pos (show (vs0 Y).go = 0 from h)]
  unfold vaF va2
  rw [e2]
  exact ⟨rfl, rfl⟩
theorem va_go {Y : RSt} (h : ¬ (vaF Y).2.go = 0) : ¬ Y.go = 0 := fun e => h (va_bad e).1
def asc (c : Int32) : Prop := ∃ n : Nat, n < 128 ∧ c = nI n
def AS (Y : RSt) : Prop := ¬ Y.go = 0 → Y.at1 ≤ Y.en ∧ ∀ i, i < Y.at1 → asc (TX Y i)
theorem TX_sm {Y Z : RSt} (h : smP Y Z) (i : Nat) : TX Z i = TX Y i := by
  have h : Z = mix Y Z := h
  rw [h]
  rfl
theorem hr_eq {Y Z : RSt} (e : smP Y Z) (q : Z.at1 = Y.at1) : hrF Z = hrF Y := by
  rw [hr_TX Z, hr_TX Y, q, sm_en e, TX_sm e]
theorem hr_at {Y : RSt} (h : ¬ hrF Y = -1) : hrF Y = TX Y Y.at1 := by
  rw [hr_TX, if_pos (hr_lt h)]
theorem AS.at {Y : RSt} (h : AS Y) (hn : ¬ hrF Y = -1) (ha : asc (hrF Y)) : AS (atF Y) := fun g => by
  have t := h g
  refine ⟨hr_lt hn, fun i hi => ?_⟩
  have hi : i < Y.at1 + 1 := hi
  show asc (TX Y i)
  by_cases e : i = Y.at1
  · rw [e, ← hr_at hn]; exact ha
  · exact t.2 i (by omega)
theorem AS_step {Y Z : RSt} (e1 : Z.at1 = Y.at1 + 1) (e2 : Z.en = Y.en) (e3 : Z.go = Y.go) (e4 : ∀ i, TX Z i = TX Y i) (h : AS Y) (hn : ¬ hrF Y = -1) (ha : asc (hrF Y)) : AS Z := fun g => by
  have t := h.at hn ha
  have t := t (show ¬ Y.go = 0 by rw [← e3]; exact g)
  refine ⟨by rw [e1, e2]; exact t.1, fun i hi => ?_⟩
  rw [e1] at hi
  rw [e4]
  exact t.2 i hi
theorem AS.go {Y : RSt} (h : AS Y) {g : Int32} (hg : ¬ g = 0 → ¬ Y.go = 0) : AS (goF Y g) := fun q => h (hg q)
theorem AS.atgo {Y : RSt} (h : AS Y) {g : Int32} (hg : ¬ g = 0 → ¬ Y.go = 0 ∧ ¬ hrF Y = -1 ∧ asc (hrF Y)) : AS (goF (atF Y) g) := fun q => by
  have t := hg q
  exact (h.at t.2.1 t.2.2) t.1
theorem AS.goat {Y : RSt} (h : AS Y) {g : Int32} (hg : ¬ g = 0 → ¬ Y.go = 0 ∧ ¬ hrF Y = -1 ∧ asc (hrF Y)) : AS (atF (goF Y g)) := fun q => by
  have t := hg q
  exact (h.at t.2.1 t.2.2) t.1
theorem asc_dg {x : Int32} (h : ¬ dgt x = 0) : asc x := by
  obtain ⟨j, hj, e⟩ := dg_in h
  exact ⟨48 + j, by omega, e⟩
theorem asc_rg {x : Int32} {a b : Nat} (h1 : ¬ x < nI a) (h2 : ¬ nI b < x) (ha : a < 2 ^ 31) (hb : b < 128) : asc x := by
  have h0 : ¬ x < 0 := fun g => h1 (Int32.lt_of_lt_of_le g (nI_pos' ha))
  obtain ⟨j, hj, rfl⟩ := nI_of h0
  refine ⟨j, ?_, rfl⟩
  have : ¬ b < j := fun g => h2 (nI_lt g hj)
  omega
theorem asc_mv {x : Int32} (h : ¬ mvr x = 0) : asc x := by
  obtain ⟨j, hj, e⟩ := vp_in_of (mvr_in h) (by decide)
  refine ⟨j + 65, by omega, ?_⟩
  have e3 : nI j + 65 = nI (j + 65) := nI_add j 65
  rw [← e3, ← e]
  exact (Int32.sub_add_cancel x 65).symm
theorem as_mk {a : Int32} {A : RSt} (h : AS A) : AS ((a, A) : Int32 × RSt).2 := h
theorem AS.ta {Y : RSt} (h : AS Y) {x : Int32} (hx : asc x) (hn : ¬ x = -1) : AS (taF Y x).2 := by
  unfold taF
  by_cases e : hrF Y = x
  · rw [if_pos e]
    exact as_mk (h.at (by rw [e]; exact hn) (by rw [e]; exact hx))
  · rw [if_neg e]
    exact as_mk h
theorem AS.mu {Y : RSt} (h : AS Y) {x : Int32} (hx : asc x) (hn : ¬ x = -1) : AS (muF Y x) := by
  have t := h.ta hx hn
  unfold muF
  revert t
  generalize taF Y x = a
  intro t
  exact t.go (fun g e => g (by unfold andI; rw [if_pos e]))
theorem AS.dg {Y : RSt} (h : AS Y) : AS (dgF Y).2 := h.atgo (fun g => by
  have t := dg_go (Y := Y) g
  exact ⟨t.1, fun e => t.2.1 (by rw [e]; decide), asc_rg (a := 48) (b := 55) t.2.1 t.2.2 (by decide) (by decide)⟩)
theorem AS.xlnS : ∀ (f : Nat) (n : Int32) {Y : RSt}, AS Y → AS (lnS f n Y).2
  | 0, _, _, h => h
  | f + 1, n, Y, h => by
    unfold lnS
    by_cases g : dgt (hrF Y) = 0
    · rw [if_pos g]; exact h
    · rw [if_neg g]; exact AS.xlnS f _ (h.at (dg_n1 g) (asc_dg g))
theorem AS.ln {Y : RSt} (h : AS Y) : AS (lnF Y).2 := by
  have t := AS.xlnS 2 0 h
  unfold lnF
  revert t
  generalize lnS 2 0 Y = a
  intro t
  exact t.go (fun g e => g (by rw [if_pos e]))
theorem AS.re {Y : RSt} (h : AS Y) : AS (reF Y) := h
theorem AS.xrdL : ∀ (f : Nat) (x : Int32) {Y : RSt}, AS Y → AS (rdL f x Y)
  | 0, _, _, h => h
  | f + 1, x, Y, h => by
    unfold rdL
    split
    · exact h
    · split
      · exact h
      · exact AS.xrdL f x h.re
theorem AS.xrdP : ∀ (f : Nat) {Y : RSt}, AS Y → AS (rdP f Y)
  | 0, _, h => h
  | f + 1, Y, h => by
    unfold rdP
    split
    · exact h
    · exact AS.xrdP f h.re
theorem AS.xrdE : ∀ (f : Nat) {Y : RSt}, AS Y → AS (rdE f Y)
  | 0, _, h => h
  | f + 1, Y, h => by
    unfold rdE
    split
    · exact h
    · split
      · exact h
      · exact AS.xrdE f h.re
theorem AS.xpdS : ∀ (f : Nat) (v : Int32) (k : Nat) {Y : RSt}, AS Y → AS (pdS f v k Y).2.2
  | 0, _, _, _, h => h
  | f + 1, v, k, Y, h => by
    unfold pdS
    by_cases g : dgt (hrF Y) = 0
    · rw [if_pos g]; exact h
    · rw [if_neg g]; exact AS.xpdS f _ _ (h.at (dg_n1 g) (asc_dg g))
theorem pgo_go {g c : Int32} {k : Nat} (h : ¬ pgo g c k = 0) : ¬ g = 0 := fun e => h (by unfold pgo; rw [if_pos e])
theorem AS_pcG {Y : RSt} {g : Int32} {n : Nat} {v : Int32} (h : ¬ g = 0 → n ≤ Y.en ∧ ∀ i, i < n → asc (TX Y i)) : AS (pcG Y g n v) := h
theorem AS.pi {Y : RSt} (h : AS Y) : AS (piR Y).2 := by
  unfold piR
  by_cases g : hrF Y = 40
  · rw [if_neg (fun q => q g)]
    exact AS_step rfl rfl rfl (fun _ => rfl) h (by rw [g]; decide) ⟨40, by decide, g⟩
  · rw [if_pos g]
    by_cases hm : mvr (hrF Y) = 0
    · have t := h.xpdS 6 (pv0 Y) 0
      revert t
      generalize pdS 6 (pv0 Y) 0 Y = a
      obtain ⟨a1, a2, a3⟩ := a
      intro t
      have t : AS a3 := t
      rw [pc2_G, if_pos hm]
      exact AS_pcG (fun q => t (pgo_go q))
    · have e : pdS 6 (pv0 Y) 0 Y = (pv0 Y, 0, Y) := by
        show (if dgt (hrF Y) = 0 then (pv0 Y, 0, Y) else _) = _
        rw [if_pos (mvr_dg hm)]
      rw [e, pc2_G, if_neg hm]
      exact AS_pcG (fun q => (h.at (mvr_n1 hm) (asc_mv hm)) (pgo_go q))
theorem asc_lv {x : Int32} (h : ¬ lvl x ≤ 0) : asc x := by
  unfold lvl at h
  by_cases a : x = 42
  · exact ⟨42, by decide, a⟩
  · rw [if_pos a] at h
    by_cases b : x = 43
    · exact ⟨43, by decide, b⟩
    · rw [if_neg b] at h
      by_cases c : x = 45
      · exact ⟨45, by decide, c⟩
      · rw [if_pos c] at h
        exact absurd (by decide) h
theorem AS_cp {Y : RSt} (h : AS Y) (hn : ¬ hrF Y = -1) (ha : asc (hrF Y)) : AS (cpF Y) := AS_step rfl rfl rfl (fun _ => rfl) h hn ha
theorem AS_ps {Y : RSt} (x : Int32) (h : AS Y) (hn : ¬ hrF Y = -1) (ha : asc (hrF Y)) : AS (psF Y x) := AS_step rfl rfl rfl (fun _ => rfl) h hn ha
theorem AS.vl : ∀ (f o : Nat) (w m : Int32) {Y : RSt}, AS Y → AS (vlR f o w m Y).2
  | 0, _, _, _, _, h => h
  | f + 1, o, w, m, Y, h => by
    unfold vlR
    by_cases h1 : m = 0
    · rw [if_pos h1]; exact h
    rw [if_neg h1]
    by_cases h2 : Y.go = 0
    · rw [if_pos h2]; exact h
    rw [if_neg h2]
    by_cases h3 : w = 0
    · rw [if_pos h3]
      by_cases h4 : lvl (hrF Y) ≤ 0
      · rw [if_pos h4]
        by_cases h5 : hrF Y = 41
        · rw [if_neg (fun g => g h5)]
          by_cases h6 : nI o ≤ 0
          · rw [if_pos h6]; exact AS.vl f _ _ _ h
          · rw [if_neg h6]
            have e := sm_rdP Y.sn Y
            have q := rdP_sp Y.sn Y
            have hh : hrF (rdP Y.sn Y) = hrF Y := hr_eq e q.1
            exact AS.vl f _ _ _ (AS_cp (AS.xrdP Y.sn h) (by rw [hh, h5]; decide) (by rw [hh]; exact ⟨41, by decide, h5⟩))
        · rw [if_pos h5]; exact AS.vl f _ _ _ h
      · rw [if_neg h4]
        have e := sm_rdL Y.sn (hrF Y) Y
        have q := rdL_sp Y.sn (hrF Y) Y
        have hh : hrF (rdL Y.sn (hrF Y) Y) = hrF Y := hr_eq e q.1
        exact AS.vl f _ _ _ (AS_ps _ (AS.xrdL Y.sn (hrF Y) h) (by rw [hh]; exact lv_n1 h4) (by rw [hh]; exact asc_lv h4))
    · rw [if_neg h3]; exact AS.vl f _ _ _ h.pi
theorem AS.va {Y : RSt} (h : AS Y) : AS (vaF Y).2 := by
  have t := AS.vl 20 0 1 1 (show AS (vs0 Y) from h)
  unfold vaF va2
  revert t
  generalize vlR 20 0 1 1 (vs0 Y) = a
  intro t
  exact AS.xrdE _ (show AS (goF a.2 (vgo a.2.go a.1)) from t.go (fun g e => g (by unfold vgo; rw [if_pos e])))
theorem sgo_go {g x : Int32} (h : ¬ sgo g x = 0) : ¬ g = 0 ∧ ¬ x = -1 ∧ asc x := by
  unfold sgo at h
  by_cases a : g = 0
  · rw [if_pos a] at h; exact absurd rfl h
  rw [if_neg a] at h
  refine ⟨a, ?_⟩
  by_cases b : x = 60
  · exact ⟨by rw [b]; decide, 60, by decide, b⟩
  rw [if_neg b] at h
  by_cases c : x = 61
  · exact ⟨by rw [c]; decide, 61, by decide, c⟩
  rw [if_neg c] at h
  by_cases d : x = 62
  · exact ⟨by rw [d]; decide, 62, by decide, d⟩
  rw [if_pos d] at h
  exact absurd rfl h
theorem rgo_go {g x : Int32} (h : ¬ rgo g x = 0) : ¬ g = 0 ∧ ¬ mvr x = 0 := by
  unfold rgo at h
  by_cases a : g = 0
  · rw [if_pos a] at h; exact absurd rfl h
  rw [if_neg a] at h
  exact ⟨a, fun e => h (by rw [if_pos e])⟩
theorem AS.first {Y : RSt} (h : AS Y) {n : Nat} (hn : n < 128) (e : hrF Y = nI n) : AS (atF Y) := h.at (by rw [e]; exact fun g => absurd (show nI n < 0 by rw [g]; decide) (nI_pos (by omega))) ⟨n, hn, e⟩
theorem AS_W3 {Y : RSt} (h : AS (atF Y)) : AS (iW3 Y) := by
  unfold iW3 iW2
  exact (((h.dg.mu (x := 44) ⟨44, by decide, rfl⟩ (by decide)).va).mu (x := 44) ⟨44, by decide, rfl⟩ (by decide))
theorem AS_R4 {Y : RSt} (h : AS (iW3 Y)) : AS (iR4 Y) := by
  unfold iR4
  revert h
  generalize iW3 Y = M
  intro h
  exact h.goat (fun g => ⟨(rgo_go g).1, mvr_n1 (rgo_go g).2, asc_mv (rgo_go g).2⟩)
theorem AS_I2 {Y : RSt} (h : AS (atF Y)) : AS (iI2 Y) := by
  have t := h.va
  unfold iI2
  revert t
  generalize vaF (atF Y) = M
  intro t
  exact t.goat (fun g => sgo_go g)
theorem AS_I4 {Y : RSt} (h : AS (iI2 Y)) : AS (iI4 Y).2 := by
  unfold iI4
  exact (h.va.mu (x := 71) ⟨71, by decide, rfl⟩ (by decide)).ln
theorem AS.xst0 {Y : RSt} (h : AS Y) : AS (st0 Y).2 := by
  unfold st0
  by_cases a : asB (hrF Y) (bhF Y) = 0
  · rw [if_neg (fun g => g a)]
    by_cases b : hrF Y = 80
    · rw [if_pos b]; exact as_mk ((h.first (n := 80) (by decide) b).va)
    rw [if_neg b]
    by_cases b : hrF Y = 73
    · rw [if_pos b]
      exact as_mk (AS_I4 (AS_I2 (h.first (n := 73) (by decide) b)))
    rw [if_neg b]
    by_cases b : hrF Y = 71
    · rw [if_pos b]; exact as_mk ((h.first (n := 71) (by decide) b).ln)
    rw [if_neg b]
    by_cases b : hrF Y = 69
    · rw [if_pos b]; exact as_mk (h.first (n := 69) (by decide) b)
    rw [if_neg b]
    by_cases b : hrF Y = 87
    · rw [if_pos b]
      have t := AS_W3 (h.first (n := 87) (by decide) b)
      exact as_mk t.va
    rw [if_neg b]
    by_cases b : hrF Y = 82
    · rw [if_pos b]
      exact as_mk (AS_R4 (AS_W3 (h.first (n := 82) (by decide) b)))
    rw [if_neg b]
    exact as_mk (fun g => absurd (show (0 : Int32) = 0 from rfl) g)
  · rw [if_pos a]
    have hm := asB_m a
    exact as_mk (((h.at (mvr_n1 hm) (asc_mv hm)).mu (x := 61) ⟨61, by decide, rfl⟩ (by decide)).va)
theorem tgo_go {Y : RSt} (h : ¬ tgo Y = 0) (he : Y.en < 2 ^ 31) (ha : Y.at1 < 2 ^ 31) : ¬ Y.go = 0 ∧ Y.at1 = Y.en := by
  unfold tgo at h
  by_cases a : Y.go = 0
  · rw [if_pos a] at h; exact absurd rfl h
  rw [if_neg a] at h
  refine ⟨a, ?_⟩
  by_cases b : nI Y.at1 = nI Y.en
  · exact (nI_eq ha he).mp b
  · rw [if_pos b] at h; exact absurd rfl h
def mkT (t : Nat → Int32) (d : Nat) : RSt := (0, 0, 0, 0, 0, 0, 0, 0, 0, 0, d, 1, 0, 0, 0, fun _ => 0, fun _ => 0, fun _ => 0, fun _ => 0, fun _ => 0, t, fun _ => 0, fun _ => 0, fun _ => 0, fun _ => 0)
def GL (t : Nat → Int32) (d : Nat) : Prop := ¬ (sR0 (mkT t d)).2.go = 0
theorem GL_of {X : RSt} {t : Nat → Int32} {d : Nat} (h1 : X.at1 = 0) (h2 : X.en = d) (h3 : X.go = 1) (h4 : ∀ i, i < d → TX X i = t i) : SI X (mkT t d) := ⟨h1, h2, h3, fun i hi => by
  rw [h4 i hi]
  show t i = (if (0 : Int32) = 0 then t (0 + i) else _)
  rw [if_pos rfl, Nat.zero_add]⟩
theorem GL_cg {t t' : Nat → Int32} {d : Nat} (hd : d ≤ 15) (h : ∀ i, i < d → t i = t' i) (g : GL t d) : GL t' d := by
  have s : SI (mkT t d) (mkT t' d) := GL_of rfl rfl rfl (fun i hi => by
    show (if (0 : Int32) = 0 then t (0 + i) else _) = t' i
    rw [if_pos rfl, Nat.zero_add]
    exact h i hi)
  unfold GL at g ⊢
  rw [← (s.xsR0 hd).2]
  exact g
theorem go_mk {a : Int32} {A : RSt} (h : ¬ ((a, A) : Int32 × RSt).2.go = 0) : ¬ A.go = 0 := h
theorem tgo_g {Z : RSt} (h : ¬ tgo Z = 0) : ¬ Z.go = 0 := fun e => h (by unfold tgo; rw [if_pos e])
theorem sR0_g {X : RSt} (h : ¬ (sR0 X).2.go = 0) : ¬ (st0 X).2.go = 0 := by
  unfold sR0 at h
  revert h
  generalize st0 X = w
  intro h
  exact tgo_g h
theorem asB_WR {c d : Int32} (hc : c = 87 ∨ c = 82) : asB c d = 0 := by
  unfold asB
  rcases hc with e | e
  · rw [e, if_pos (by decide)]
  · rw [e, if_pos (by decide)]
theorem st0_W {X : RSt} (e : hrF X = 87) : st0 X = (0, (vaF (iW3 X)).2) := by
  have na : ¬ ¬ asB (hrF X) (bhF X) = 0 := fun q => q (asB_WR (Or.inl e))
  unfold st0
  rw [if_neg na, if_neg (by rw [e]; decide), if_neg (by rw [e]; decide), if_neg (by rw [e]; decide), if_neg (by rw [e]; decide), if_pos e]
theorem st0_R {X : RSt} (e : hrF X = 82) : st0 X = (0, iR4 X) := by
  have na : ¬ ¬ asB (hrF X) (bhF X) = 0 := fun q => q (asB_WR (Or.inr e))
  unfold st0
  rw [if_neg na, if_neg (by rw [e]; decide), if_neg (by rw [e]; decide), if_neg (by rw [e]; decide), if_neg (by rw [e]; decide), if_neg (by rw [e]; decide), if_pos e]
theorem iR4_g {X : RSt} (h : ¬ (iR4 X).go = 0) : ¬ (iW3 X).go = 0 ∧ ¬ mvr (hrF (iW3 X)) = 0 := by
  unfold iR4 at h
  revert h
  generalize iW3 X = M
  intro h
  exact rgo_go (show ¬ rgo M.go (hrF M) = 0 from h)
theorem iW3_g {X : RSt} (h : ¬ (iW3 X).go = 0) : ¬ (dgF (atF X)).2.go = 0 := by
  unfold iW3 iW2 at h
  exact mu_go (x := 44) (va_go (mu_go (x := 44) h))
theorem dig8 {c : Int32} (h1 : ¬ c < 48) (h2 : ¬ 55 < c) : ∃ j : Nat, j < 8 ∧ c - 48 = nI j := by
  have h0 : ¬ c < 0 := fun g => h1 (Int32.lt_trans g (by decide))
  obtain ⟨j, hj, e⟩ := nI_of2 (M := 55) (n := 55) (by decide) h0 (Int32.not_lt.mp h2)
  have h48 : 48 ≤ j := by
    rcases Nat.lt_or_ge j 48 with g | g
    · exact absurd (by rw [e]; exact nI_lt (b := 48) g (by decide)) h1
    · exact g
  refine ⟨j - 48, by omega, ?_⟩
  rw [e]
  exact pk_sub (b := 48) h48
theorem GL_wr {X : RSt} {t : Nat → Int32} {d : Nat} (hd : d ≤ 15) (s : SI X (mkT t d)) (g : GL t d) (hrec : ∀ n, n < 8 → X.dk (16 + 2 * n) = 16 → ∃ f, f < 32 ∧ X.dk (17 + 2 * n) = nI f) : wrP X := by
  intro hc
  have e0 := (s.xsR0 hd).2
  have g0 : ¬ (sR0 X).2.go = 0 := fun e => g (by rw [← e0]; exact e)
  have g2 := sR0_g g0
  have key : ¬ (iW3 X).go = 0 ∧ (hrF X = 82 → ¬ mvr (hrF (iW3 X)) = 0) := by
    rcases hc with e | e
    · rw [st0_W e] at g2
      exact ⟨va_go (go_mk g2), fun e2 => absurd (e.symm.trans e2) (by decide)⟩
    · rw [st0_R e] at g2
      have q := iR4_g (go_mk g2)
      exact ⟨q.1, fun _ => q.2⟩
  have k3 := dg_go (iW3_g key.1)
  obtain ⟨j, hj, ej⟩ := dig8 k3.2.1 k3.2.2
  exact ⟨j, hj, ej, hrec j hj, fun e => vp_in_of (mvr_in (key.2 e)) (by decide)⟩
theorem sm_I2 (Y : RSt) : smP Y (iI2 Y) := (((sm_at Y).tr (sm_va _)).tr (sm_go _ _)).tr (sm_at _)
theorem sm_W3 (Y : RSt) : smP Y (iW3 Y) := ((((sm_at Y).tr (sm_dg _)).tr (sm_mu _ _)).tr (sm_va _)).tr (sm_mu _ _)
theorem sm_R4 (Y : RSt) : smP Y (iR4 Y) := ((sm_W3 Y).tr (sm_go _ _)).tr (sm_at _)
theorem sm_I4 (Y : RSt) : smP Y (iI4 Y).2 := (((sm_I2 Y).tr (sm_va _)).tr (sm_mu _ _)).tr (sm_ln _)
theorem sm_mk {a : Int32} {Y A : RSt} (h : smP Y A) : smP Y ((a, A) : Int32 × RSt).2 := h
theorem sm_st0 (Y : RSt) : smP Y (st0 Y).2 := by
  unfold st0
  repeat' split
  · exact sm_mk (((sm_at Y).tr (sm_mu _ _)).tr (sm_va _))
  · exact sm_mk ((sm_at Y).tr (sm_va _))
  · exact sm_mk (sm_I4 Y)
  · exact sm_mk ((sm_at Y).tr (sm_ln _))
  · exact sm_mk (sm_at Y)
  · exact sm_mk ((sm_W3 Y).tr (sm_va _))
  · exact sm_mk (sm_R4 Y)
  · exact sm_mk ((sm_at Y).tr (sm_go _ _))
theorem at_le {Y : RSt} (h : AS Y) (g : ¬ Y.go = 0) : Y.at1 ≤ Y.en := (h g).1
theorem GL_asc {t : Nat → Int32} {d : Nat} (hd : d ≤ 15) (g : GL t d) : ∀ i, i < d → asc (t i) := by
  have h : AS (mkT t d) := fun _ => ⟨Nat.zero_le _, fun i hi => absurd hi (Nat.not_lt_zero _)⟩
  have h2 := h.xst0
  have g1 : ¬ tgo (st0 (mkT t d)).2 = 0 := g
  have sm : smP (mkT t d) (st0 (mkT t d)).2 := sm_st0 _
  have en0 : (mkT t d).en = d := rfl
  have tx0 : ∀ i, TX (mkT t d) i = t i := fun i => by
    show (if (0 : Int32) = 0 then t (0 + i) else _) = t i
    rw [if_pos rfl, Nat.zero_add]
  revert h2 g1 sm
  generalize st0 (mkT t d) = w
  obtain ⟨w1, w2⟩ := w
  intro h2 g1 sm
  have h2 : AS w2 := h2
  have g1 : ¬ tgo w2 = 0 := g1
  have sm : smP (mkT t d) w2 := sm
  have g2 : ¬ w2.go = 0 := fun e => g1 (by unfold tgo; rw [if_pos e])
  have en : w2.en = d := (sm_en sm).trans en0
  have l := at_le h2 g2
  rw [en] at l
  have q := tgo_go g1 (by rw [en]; omega) (by omega)
  intro i hi
  have r := (h2 g2).2 i (by rw [q.2, en]; exact hi)
  rw [TX_sm sm, tx0] at r
  exact r
