/-! a text read from two places is read alike -/
def pcG (Y : RSt) (g : Int32) (n : Nat) (v : Int32) : RSt := (Y.th, Y.ar, Y.de, Y.wr, Y.nx, Y.os, Y.tn, Y.ol, Y.fm, n, Y.en, g, Y.nn + 1, Y.sn, Y.my, Y.dk, Y.ln, Y.ch, Y.va, Y.ou, Y.tx, upd Y.nb Y.nn v, Y.sg, Y.wh, Y.ce)
def TX (Y : RSt) (i : Nat) : Int32 := if Y.ol = 0 then Y.tx (Y.fm + i) else Y.ch (Y.fm + i)
theorem hr_TX (Y : RSt) : hrF Y = if Y.at1 < Y.en then TX Y Y.at1 else -1 := rfl
def SI (X Y : RSt) : Prop := X.at1 = Y.at1 ∧ X.en = Y.en ∧ X.go = Y.go ∧ ∀ i, i < Y.en → TX X i = TX Y i
def SS (X Y : RSt) : Prop := SI X Y ∧ X.sn = Y.sn ∧ ∀ i, i < Y.sn → X.sg i = Y.sg i
theorem SI.hr {X Y : RSt} (h : SI X Y) : hrF X = hrF Y := by
  obtain ⟨a, b, _, d⟩ := h
  rw [hr_TX, hr_TX, a, b]
  by_cases g : Y.at1 < Y.en
  · rw [if_pos g, if_pos g, d _ g]
  · rw [if_neg g, if_neg g]
theorem SI.at {X Y : RSt} (h : SI X Y) : SI (atF X) (atF Y) := ⟨congrArg (· + 1) h.1, h.2.1, h.2.2.1, h.2.2.2⟩
theorem SI.go {X Y : RSt} (h : SI X Y) {g g' : Int32} (e : g = g') : SI (goF X g) (goF Y g') := ⟨h.1, h.2.1, e, h.2.2.2⟩
theorem SI.ta {X Y : RSt} (h : SI X Y) (x : Int32) : (taF X x).1 = (taF Y x).1 ∧ SI (taF X x).2 (taF Y x).2 := by
  unfold taF
  rw [h.hr]
  by_cases g : hrF Y = x
  · rw [if_pos g, if_pos g]; exact ⟨rfl, h.at⟩
  · rw [if_neg g, if_neg g]; exact ⟨rfl, h⟩
theorem SI.mu {X Y : RSt} (h : SI X Y) (x : Int32) : SI (muF X x) (muF Y x) := by
  have t := h.ta x
  exact t.2.go (by rw [t.1, t.2.2.2.1])
theorem SI.dg {X Y : RSt} (h : SI X Y) : (dgF X).1 = (dgF Y).1 ∧ SI (dgF X).2 (dgF Y).2 := by
  refine ⟨?_, h.at.go ?_⟩
  · show hrF X - 48 = hrF Y - 48
    rw [h.hr]
  · rw [h.hr, h.2.2.1]
theorem SI.xlnS : ∀ (f : Nat) (n : Int32) {X Y : RSt}, SI X Y → (lnS f n X).1 = (lnS f n Y).1 ∧ SI (lnS f n X).2 (lnS f n Y).2
  | 0, _, _, _, h => ⟨rfl, h⟩
  | f + 1, n, X, Y, h => by
    show (if dgt (hrF X) = 0 then (n, X) else lnS f (10 * n + hrF X - 48) (atF X)).1 = (if dgt (hrF Y) = 0 then (n, Y) else lnS f (10 * n + hrF Y - 48) (atF Y)).1 ∧ SI (if dgt (hrF X) = 0 then (n, X) else lnS f (10 * n + hrF X - 48) (atF X)).2 (if dgt (hrF Y) = 0 then (n, Y) else lnS f (10 * n + hrF Y - 48) (atF Y)).2
    rw [h.hr]
    by_cases g : dgt (hrF Y) = 0
    · rw [if_pos g, if_pos g]; exact ⟨rfl, h⟩
    · rw [if_neg g, if_neg g]; exact SI.xlnS f _ h.at
theorem SI.ln {X Y : RSt} (h : SI X Y) : (lnF X).1 = (lnF Y).1 ∧ SI (lnF X).2 (lnF Y).2 := by
  have t := SI.xlnS 2 0 h
  unfold lnF
  revert t
  generalize lnS 2 0 X = a
  generalize lnS 2 0 Y = c
  intro t
  exact ⟨t.1, t.2.go (by rw [t.1, t.2.2.2.1])⟩
theorem SS.re {X Y : RSt} (h : SS X Y) : SS (reF X) (reF Y) := ⟨h.1, by show X.sn - 1 = Y.sn - 1; rw [h.2.1], fun i hi => h.2.2 i (Nat.lt_of_lt_of_le hi (Nat.sub_le _ _))⟩
theorem SS.top {X Y : RSt} (h : SS X Y) (hs : 1 ≤ Y.sn) : X.sg (X.sn - 1) = Y.sg (Y.sn - 1) := by
  rw [h.2.1]
  exact h.2.2 _ (by omega)
theorem SS.xrdL : ∀ (f : Nat) (x : Int32) {X Y : RSt}, SS X Y → SS (rdL f x X) (rdL f x Y)
  | 0, _, _, _, h => h
  | f + 1, x, X, Y, h => by
    show SS (if X.sn = 0 then X else if lvl (X.sg (X.sn - 1)) < lvl x then X else rdL f x (reF X)) (if Y.sn = 0 then Y else if lvl (Y.sg (Y.sn - 1)) < lvl x then Y else rdL f x (reF Y))
    by_cases g : Y.sn = 0
    · rw [if_pos g, if_pos (h.2.1.trans g)]; exact h
    · rw [if_neg g, if_neg (fun e => g (h.2.1.symm.trans e)), h.top (by omega)]
      by_cases g2 : lvl (Y.sg (Y.sn - 1)) < lvl x
      · rw [if_pos g2, if_pos g2]; exact h
      · rw [if_neg g2, if_neg g2]; exact SS.xrdL f x h.re
theorem SS.xrdP {o : Nat} (ho : 0 < o) : ∀ (f : Nat) {X Y : RSt}, SS X Y → VI X o 0 → VI Y o 0 → SS (rdP f X) (rdP f Y)
  | 0, _, _, h, _, _ => h
  | f + 1, X, Y, h, hx, hy => by
    have hs := hy.2.1
    have hsx := hx.2.1
    show SS (if X.sg (X.sn - 1) = 40 then X else rdP f (reF X)) (if Y.sg (Y.sn - 1) = 40 then Y else rdP f (reF Y))
    have ht := h.top (by omega)
    by_cases g : Y.sg (Y.sn - 1) = 40
    · rw [if_pos g, if_pos (ht.trans g)]; exact h
    · have gx : ¬ X.sg (X.sn - 1) = 40 := fun e => g (ht.symm.trans e)
      rw [if_neg g, if_neg gx]
      exact SS.xrdP ho f h.re (VI_re hx (by omega) gx).2 (VI_re hy (by omega) g).2
theorem SS.xrdE : ∀ (f : Nat) {X Y : RSt}, SS X Y → SS (rdE f X) (rdE f Y)
  | 0, _, _, h => h
  | f + 1, X, Y, h => by
    show SS (if X.go = 0 then X else if X.sn = 0 then X else rdE f (reF X)) (if Y.go = 0 then Y else if Y.sn = 0 then Y else rdE f (reF Y))
    rw [h.1.2.2.1, h.2.1]
    by_cases g : Y.go = 0
    · rw [if_pos g, if_pos g]; exact h
    · rw [if_neg g, if_neg g]
      by_cases g2 : Y.sn = 0
      · rw [if_pos g2, if_pos g2]; exact h
      · rw [if_neg g2, if_neg g2]; exact SS.xrdE f h.re
