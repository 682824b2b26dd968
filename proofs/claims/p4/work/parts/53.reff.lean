/-! the reference: a statement -/
def mix (Y Z : RSt) : RSt := (Y.th, Y.ar, Y.de, Y.wr, Y.nx, Y.os, Y.tn, Y.ol, Y.fm, Z.at1, Y.en, Z.go, Z.nn, Z.sn, Y.my, Y.dk, Y.ln, Y.ch, Y.va, Y.ou, Y.tx, Z.nb, Z.sg, Y.wh, Y.ce)
def smP (Y Z : RSt) : Prop := Z = mix Y Z
theorem smP.tr {X Y Z : RSt} (h : smP X Y) (g : smP Y Z) : smP X Z := by
  have g : Z = mix Y Z := g
  have h : Y = mix X Y := h
  show Z = mix X Z
  rw [h] at g
  exact g
theorem sm_rf (Y : RSt) : smP Y Y := rfl
theorem sm_at (Y : RSt) : smP Y (atF Y) := rfl
theorem sm_go (Y : RSt) (g : Int32) : smP Y (goF Y g) := rfl
theorem sm_cp (Y : RSt) : smP Y (cpF Y) := rfl
theorem sm_ps (Y : RSt) (x : Int32) : smP Y (psF Y x) := rfl
theorem sm_re (Y : RSt) : smP Y (reF Y) := rfl
theorem sm_ta (Y : RSt) (x : Int32) : smP Y (taF Y x).2 := by
  unfold taF
  split <;> rfl
theorem sm_mu (Y : RSt) (x : Int32) : smP Y (muF Y x) := (sm_ta Y x).tr (sm_go _ _)
theorem sm_dg (Y : RSt) : smP Y (dgF Y).2 := rfl
theorem sm_lnS : ∀ (f : Nat) (n : Int32) (Y : RSt), smP Y (lnS f n Y).2
  | 0, _, _ => rfl
  | f + 1, n, Y => by
    unfold lnS
    split
    · exact sm_rf Y
    · exact (sm_at Y).tr (sm_lnS f _ _)
theorem sm_ln (Y : RSt) : smP Y (lnF Y).2 := (sm_lnS 2 0 Y).tr (sm_go _ _)
theorem sm_rdL : ∀ (f : Nat) (x : Int32) (Y : RSt), smP Y (rdL f x Y)
  | 0, _, _ => rfl
  | f + 1, x, Y => by
    unfold rdL
    split
    · exact sm_rf Y
    · split
      · exact sm_rf Y
      · exact (sm_re Y).tr (sm_rdL f x _)
theorem sm_rdP : ∀ (f : Nat) (Y : RSt), smP Y (rdP f Y)
  | 0, _ => rfl
  | f + 1, Y => by
    unfold rdP
    split
    · exact sm_rf Y
    · exact (sm_re Y).tr (sm_rdP f _)
theorem sm_rdE : ∀ (f : Nat) (Y : RSt), smP Y (rdE f Y)
  | 0, _ => rfl
  | f + 1, Y => by
    unfold rdE
    split
    · exact sm_rf Y
    · split
      · exact sm_rf Y
      · exact (sm_re Y).tr (sm_rdE f _)
theorem sm_pdS : ∀ (f : Nat) (v : Int32) (k : Nat) (Y : RSt), smP Y (pdS f v k Y).2.2
  | 0, _, _, _ => rfl
  | f + 1, v, k, Y => by
    unfold pdS
    split
    · exact sm_rf Y
    · exact (sm_at Y).tr (sm_pdS f _ _ _)
theorem sm_pi (Y : RSt) : smP Y (piR Y).2 := by
  unfold piR
  split
  · exact (sm_pdS 6 (pv0 Y) 0 Y).tr rfl
  · rfl
theorem sm_vl : ∀ (f o : Nat) (w m : Int32) (Y : RSt), smP Y (vlR f o w m Y).2
  | 0, _, _, _, _ => rfl
  | f + 1, o, w, m, Y => by
    unfold vlR
    by_cases h1 : m = 0
    · rw [if_pos h1]; exact sm_rf Y
    rw [if_neg h1]
    by_cases h2 : Y.go = 0
    · rw [if_pos h2]; exact sm_rf Y
    rw [if_neg h2]
    by_cases h3 : w = 0
    · rw [if_pos h3]
      by_cases h4 : lvl (hrF Y) ≤ 0
      · rw [if_pos h4]
        by_cases h5 : hrF Y = 41
        · rw [if_neg (fun g => g h5)]
          by_cases h6 : nI o ≤ 0
          · rw [if_pos h6]; exact sm_vl f _ _ _ _
          · rw [if_neg h6]; exact ((sm_rdP _ Y).tr (sm_cp _)).tr (sm_vl f _ _ _ _)
        · rw [if_pos h5]; exact sm_vl f _ _ _ _
      · rw [if_neg h4]; exact ((sm_rdL _ _ Y).tr (sm_ps _ _)).tr (sm_vl f _ _ _ _)
    · rw [if_neg h3]; exact (sm_pi Y).tr (sm_vl f _ _ _ _)
theorem sm_va (Y : RSt) : smP Y (vaF Y).2 :=
  ((show smP Y (vs0 Y) from rfl).tr ((sm_vl 20 0 1 1 (vs0 Y)).tr (sm_go _ _))).tr (sm_rdE _ _)
theorem sm_en {Y Z : RSt} (h : smP Y Z) : Z.en = Y.en := (congrArg RSt.en (show Z = mix Y Z from h) : RSt.en Z = RSt.en (mix Y Z))
theorem sm_os {Y Z : RSt} (h : smP Y Z) : Z.os = Y.os := (congrArg RSt.os (show Z = mix Y Z from h) : RSt.os Z = RSt.os (mix Y Z))
theorem sm_dk {Y Z : RSt} (h : smP Y Z) : Z.dk = Y.dk := (congrArg RSt.dk (show Z = mix Y Z from h) : RSt.dk Z = RSt.dk (mix Y Z))
def bhF (Y : RSt) : Int32 := if Y.at1 + 1 < Y.en then (if Y.ol = 0 then Y.tx (Y.fm + Y.at1 + 1) else Y.ch (Y.fm + Y.at1 + 1)) else -1
def asB (c d : Int32) : Int32 := if mvr c = 0 then 0 else if d = 61 then 1 else if c = 69 then 0 else if c = 71 then 0 else 1
theorem asB_m {c d : Int32} (h : ¬ asB c d = 0) : ¬ mvr c = 0 := fun e => h (by unfold asB; rw [if_pos e])
def sgo (g x : Int32) : Int32 := if g = 0 then 0 else if x = 60 then 1 else if x = 61 then 1 else if ¬ x = 62 then 0 else 1
theorem sgo_b (g x : Int32) : sgo g x = 0 ∨ sgo g x = 1 := by
  unfold sgo
  repeat' split
  all_goals simp
def rgo (g x : Int32) : Int32 := if g = 0 then 0 else if mvr x = 0 then 0 else 1
theorem rgo_b (g x : Int32) : rgo g x = 0 ∨ rgo g x = 1 := by
  unfold rgo
  repeat' split
  all_goals simp
def hol (c x y : Int32) : Int32 := if ¬ c = 60 then (if ¬ c = 61 then (if x ≤ y then 0 else 1) else if ¬ x = y then 0 else 1) else if y ≤ x then 0 else 1
def tgo (Y : RSt) : Int32 := if Y.go = 0 then 0 else if ¬ nI Y.at1 = nI Y.en then 0 else 1
theorem tgo_b (Y : RSt) : tgo Y = 0 ∨ tgo Y = 1 := by
  unfold tgo
  repeat' split
  all_goals simp
def nxv (f t x : Int32) : Int32 := if ¬ f = 0 then (if ¬ f = -1 then x else 0) else t
def tl0 (Y : RSt) : RSt := goF Y (tgo Y)
def tl1 (Y : RSt) (t f : Int32) : RSt := if ¬ Y.de = 0 then tl0 Y else nxR (tl0 Y) (nxv f t Y.nx)
def iI2 (Y : RSt) : RSt := atF (goF (vaF (atF Y)).2 (sgo (vaF (atF Y)).2.go (hrF (vaF (atF Y)).2)))
def iI4 (Y : RSt) : Int32 × RSt := lnF (muF (vaF (iI2 Y)).2 71)
def iI5 (Y : RSt) (t : Int32) : Int32 := if hol (hrF (vaF (atF Y)).2) (vaF (atF Y)).1 (vaF (iI2 Y)).1 = 0 then t else (iI4 Y).1
def iW2 (Y : RSt) : Int32 × RSt := vaF (muF (dgF (atF Y)).2 44)
def iW3 (Y : RSt) : RSt := muF (iW2 Y).2 44
def iR4 (Y : RSt) : RSt := atF (goF (iW3 Y) (rgo (iW3 Y).go (hrF (iW3 Y))))
def st0 (Y : RSt) : Int32 × RSt :=
  if ¬ asB (hrF Y) (bhF Y) = 0 then (0, (vaF (muF (atF Y) 61)).2)
  else if hrF Y = 80 then (0, (vaF (atF Y)).2)
  else if hrF Y = 73 then (0, (iI4 Y).2)
  else if hrF Y = 71 then (0, (lnF (atF Y)).2)
  else if hrF Y = 69 then (-1, atF Y)
  else if hrF Y = 87 then (0, (vaF (iW3 Y)).2)
  else if hrF Y = 82 then (0, iR4 Y)
  else (0, goF (atF Y) 0)
def sR0 (Y : RSt) : Int32 × RSt := ((st0 Y).1, tl0 (st0 Y).2)
def st1 (Y : RSt) (t : Int32) : Int32 × Int32 × RSt :=
  if ¬ asB (hrF Y) (bhF Y) = 0 then (t, 0, vaAll (vaF (muF (atF Y) 61)).2 (upd (vaF (muF (atF Y) 61)).2.va (hrF Y - 65).toNatClampNeg (vaF (muF (atF Y) 61)).1))
  else if hrF Y = 80 then (t, 0, coF (vaF (atF Y)).2 (vaF (atF Y)).1)
  else if hrF Y = 73 then (iI5 Y t, 0, (iI4 Y).2)
  else if hrF Y = 71 then ((lnF (atF Y)).1, 0, (lnF (atF Y)).2)
  else if hrF Y = 69 then (t, -1, atF Y)
  else if hrF Y = 87 then (t, rwR (vaF (iW3 Y)).2 (dgF (atF Y)).1.toNatClampNeg (iW2 Y).1 (vaF (iW3 Y)).1)
  else if hrF Y = 82 then (t, rrR (iR4 Y) (dgF (atF Y)).1.toNatClampNeg (iW2 Y).1 (hrF (iW3 Y) - 65).toNatClampNeg)
  else (t, 0, goF (atF Y) 0)
def sR1 (Y : RSt) (t : Int32) : Int32 × RSt := ((st1 Y t).2.1, tl1 (st1 Y t).2.2 (st1 Y t).1 (st1 Y t).2.1)
def wrP (Y : RSt) : Prop := hrF Y = 87 ∨ hrF Y = 82 → ∃ n, n < 8 ∧ (dgF (atF Y)).1 = nI n ∧ (Y.dk (16 + 2 * n) = 16 → ∃ f, f < 32 ∧ Y.dk (17 + 2 * n) = nI f) ∧ (hrF Y = 82 → ∃ t, t < 8 ∧ hrF (iW3 Y) - 65 = nI t)
set_option maxHeartbeats 4000000 in
set_option maxRecDepth 100000 in
theorem sg_Mo_st0 {p : Program} {l : Launch} {e : Env} {R : Room} {s : State} {m : MethodId} {args : Array Value} {below : List Frame} {meth : Method} {c : Code} {cells slots : Nat} {Q : State → Prop} {A : Nat → Prop} {dC : Nat → ClassId} {dI : Nat → Nat → Nat} (hx : p.tables.exec = Jvm.exec) (hb : c.code = b_Mo_statement) (hml : c.maxLocals = 12) (hts : ∀ w ∈ gw, w.before args s = true) (hown : s.vm.findClass "LineDiskModel" = some m.cls) (hkw : kw s) (hA : ∀ q : Nat, s.heap.size ≤ q → A q) (b : RAd) (M : RSt) (t9 f9 : Int32) (hK0 : va_K (dC, dI) cls [(b.cdk, .int), (b.cln, .int), (b.cch, .int), (b.cva, .int), (b.cou, .int), (b.ctx, .int), (b.cnb, .int), (b.csg, .int), (b.cwh, .int), (b.cce, .int)] s) (hRf : 1 ≤ R.frames) (hRl : 40 ≤ R.locals) (hRc : cells ≤ R.cells) (hRs : slots ≤ R.slots) (k555 : ∀ (ls : Array Slot) (H : Heap) (locs : List Loc), lv_has ls 12 [(6, .int f9)] → va_P (dC, dI) cls [(b.r0, .inr (5, [.int ((tl0 M).th), .ref b.pdk, .int ((tl0 M).ar), .int ((tl0 M).de), .int ((tl0 M).wr), .ref b.pln, .ref b.pch, .ref b.pva, .int ((tl0 M).nx), .int (nI ((tl0 M).os)), .ref b.pou, .int (nI ((tl0 M).tn)), .ref b.ptx, .int ((tl0 M).ol), .int (nI ((tl0 M).fm)), .int (nI ((tl0 M).at1)), .int (nI ((tl0 M).en)), .int ((tl0 M).go), .int (nI ((tl0 M).nn)), .ref b.pnb, .int (nI ((tl0 M).sn)), .ref b.psg, .int (nI ((tl0 M).my)), .ref b.pwh, .ref b.pce])), (b.pdk, .inl (b.cdk, 512, .inl ((tl0 M).dk))), (b.pln, .inl (b.cln, 100, .inl ((tl0 M).ln))), (b.pch, .inl (b.cch, 1200, .inl ((tl0 M).ch))), (b.pva, .inl (b.cva, 8, .inl ((tl0 M).va))), (b.pou, .inl (b.cou, 60, .inl ((tl0 M).ou))), (b.ptx, .inl (b.ctx, 15, .inl ((tl0 M).tx))), (b.pnb, .inl (b.cnb, 16, .inl ((tl0 M).nb))), (b.psg, .inl (b.csg, 16, .inl ((tl0 M).sg))), (b.pwh, .inl (b.cwh, 6, .inl ((tl0 M).wh))), (b.pce, .inl (b.cce, 96, .inl ((tl0 M).ce)))] H → va_D A [(b.r0, .inr (5, [.int ((tl0 M).th), .ref b.pdk, .int ((tl0 M).ar), .int ((tl0 M).de), .int ((tl0 M).wr), .ref b.pln, .ref b.pch, .ref b.pva, .int ((tl0 M).nx), .int (nI ((tl0 M).os)), .ref b.pou, .int (nI ((tl0 M).tn)), .ref b.ptx, .int ((tl0 M).ol), .int (nI ((tl0 M).fm)), .int (nI ((tl0 M).at1)), .int (nI ((tl0 M).en)), .int ((tl0 M).go), .int (nI ((tl0 M).nn)), .ref b.pnb, .int (nI ((tl0 M).sn)), .ref b.psg, .int (nI ((tl0 M).my)), .ref b.pwh, .ref b.pce])), (b.pdk, .inl (b.cdk, 512, .inl ((tl0 M).dk))), (b.pln, .inl (b.cln, 100, .inl ((tl0 M).ln))), (b.pch, .inl (b.cch, 1200, .inl ((tl0 M).ch))), (b.pva, .inl (b.cva, 8, .inl ((tl0 M).va))), (b.pou, .inl (b.cou, 60, .inl ((tl0 M).ou))), (b.ptx, .inl (b.ctx, 15, .inl ((tl0 M).tx))), (b.pnb, .inl (b.cnb, 16, .inl ((tl0 M).nb))), (b.psg, .inl (b.csg, 16, .inl ((tl0 M).sg))), (b.pwh, .inl (b.cwh, 6, .inl ((tl0 M).wh))), (b.pce, .inl (b.cce, 96, .inl ((tl0 M).ce)))] → va_S A s.heap H locs → W p l e R s m args below meth c H locs cells slots Q (F0 m 555 ls [])) : ∀ (ls : Array Slot) (H : Heap) (locs : List Loc), lv_has ls 12 [(6, .int f9), (5, .int t9), (1, .int 0), (0, .ref b.r0)] → va_P (dC, dI) cls [(b.r0, .inr (5, [.int M.th, .ref b.pdk, .int M.ar, .int M.de, .int M.wr, .ref b.pln, .ref b.pch, .ref b.pva, .int M.nx, .int (nI M.os), .ref b.pou, .int (nI M.tn), .ref b.ptx, .int M.ol, .int (nI M.fm), .int (nI M.at1), .int (nI M.en), .int M.go, .int (nI M.nn), .ref b.pnb, .int (nI M.sn), .ref b.psg, .int (nI M.my), .ref b.pwh, .ref b.pce])), (b.pdk, .inl (b.cdk, 512, .inl M.dk)), (b.pln, .inl (b.cln, 100, .inl M.ln)), (b.pch, .inl (b.cch, 1200, .inl M.ch)), (b.pva, .inl (b.cva, 8, .inl M.va)), (b.pou, .inl (b.cou, 60, .inl M.ou)), (b.ptx, .inl (b.ctx, 15, .inl M.tx)), (b.pnb, .inl (b.cnb, 16, .inl M.nb)), (b.psg, .inl (b.csg, 16, .inl M.sg)), (b.pwh, .inl (b.cwh, 6, .inl M.wh)), (b.pce, .inl (b.cce, 96, .inl M.ce))] H → va_D A [(b.r0, .inr (5, [.int M.th, .ref b.pdk, .int M.ar, .int M.de, .int M.wr, .ref b.pln, .ref b.pch, .ref b.pva, .int M.nx, .int (nI M.os), .ref b.pou, .int (nI M.tn), .ref b.ptx, .int M.ol, .int (nI M.fm), .int (nI M.at1), .int (nI M.en), .int M.go, .int (nI M.nn), .ref b.pnb, .int (nI M.sn), .ref b.psg, .int (nI M.my), .ref b.pwh, .ref b.pce])), (b.pdk, .inl (b.cdk, 512, .inl M.dk)), (b.pln, .inl (b.cln, 100, .inl M.ln)), (b.pch, .inl (b.cch, 1200, .inl M.ch)), (b.pva, .inl (b.cva, 8, .inl M.va)), (b.pou, .inl (b.cou, 60, .inl M.ou)), (b.ptx, .inl (b.ctx, 15, .inl M.tx)), (b.pnb, .inl (b.cnb, 16, .inl M.nb)), (b.psg, .inl (b.csg, 16, .inl M.sg)), (b.pwh, .inl (b.cwh, 6, .inl M.wh)), (b.pce, .inl (b.cce, 96, .inl M.ce))] → va_S A s.heap H locs → (True) → W p l e R s m args below meth c H locs cells slots Q (F0 m 489 ls []) := by
  have F : CallFix p m c b_Mo_statement 12 s args gw "LineDiskModel" := ⟨hx, hb, hml, hown, hts⟩
  intro ls H locs hl hP hD hS hf
  have hK := hK0
  refine lv_aload_n hx hb d_Mo_statement_489 rfl (lv_at hl 3 rfl) ?_
  refine lv_aload_n hx hb d_Mo_statement_490 rfl (lv_at hl 3 rfl) ?_
  refine jn2 (D := (dC, dI)) (A := A) (ws := [(b.r0, .inr (5, [.int M.th, .ref b.pdk, .int M.ar, .int M.de, .int M.wr, .ref b.pln, .ref b.pch, .ref b.pva, .int M.nx, .int (nI M.os), .ref b.pou, .int (nI M.tn), .ref b.ptx, .int M.ol, .int (nI M.fm), .int (nI M.at1), .int (nI M.en), .int M.go, .int (nI M.nn), .ref b.pnb, .int (nI M.sn), .ref b.psg, .int (nI M.my), .ref b.pwh, .ref b.pce])), (b.pdk, .inl (b.cdk, 512, .inl M.dk)), (b.pln, .inl (b.cln, 100, .inl M.ln)), (b.pch, .inl (b.cch, 1200, .inl M.ch)), (b.pva, .inl (b.cva, 8, .inl M.va)), (b.pou, .inl (b.cou, 60, .inl M.ou)), (b.ptx, .inl (b.ctx, 15, .inl M.tx)), (b.pnb, .inl (b.cnb, 16, .inl M.nb)), (b.psg, .inl (b.csg, 16, .inl M.sg)), (b.pwh, .inl (b.cwh, 6, .inl M.wh)), (b.pce, .inl (b.cce, 96, .inl M.ce))]) (s0 := s.heap) (ls := ls) (pc := 513) (rest := [.ref b.r0]) (x := tgo M) (fun key1 => ?_) (fun H locs hP hD hS => ?_)
  · skip
    refine va_get (D := (dC, dI)) (ci := 5) (v := .int M.go) (C := R_Mo) (T := F_Mo) (N := 25) hx hb hts in_Mo hown hK hP 0 rfl rfl 17 (by decide) (hts _ w_610) (fun _ h9 => h9) rfl d_Mo_statement_491 ?_
    refine lv_if_eq (tgt := 512) hx hb d_Mo_statement_494 (by decide) (fun c494 => ?_) (fun c494 => ?_)
    · skip
      refine lv_iconst (v := 0) hx hb d_Mo_statement_512 (by decide) ?_
      exact key1 _ _ _ (by (simp only [tgo, c494, if_true, if_false, not_true_eq_false, not_false_eq_true, ite_not] <;> try simp)) hP hD hS
    · skip
      refine lv_aload_n hx hb d_Mo_statement_497 rfl (lv_at hl 3 rfl) ?_
      refine go_i (wr := []) (tr := []) (rV (C := "LineDiskModel") (ci := 5) (q0 := 0) (b := b.r0) (n := 0) (As := []) (rest := [.ref b.r0]) F hkw (g_Mo_last l dC dI b M H.size) xT_bl (fun _ _ _ => trivial) w_785 w_787 ws_57 w_6 w_788 rfl rfl (by decide +kernel) ⟨Nat.le_trans (by decide) hRf, Nat.le_trans (by decide) hRl⟩ (hP.sub (ws' := [(b.r0, .inr (5, [.int M.th, .ref b.pdk, .int M.ar, .int M.de, .int M.wr, .ref b.pln, .ref b.pch, .ref b.pva, .int M.nx, .int (nI M.os), .ref b.pou, .int (nI M.tn), .ref b.ptx, .int M.ol, .int (nI M.fm), .int (nI M.at1), .int (nI M.en), .int M.go, .int (nI M.nn), .ref b.pnb, .int (nI M.sn), .ref b.psg, .int (nI M.my), .ref b.pwh, .ref b.pce])), (b.pdk, .inl (b.cdk, 512, .inl M.dk)), (b.pln, .inl (b.cln, 100, .inl M.ln)), (b.pch, .inl (b.cch, 1200, .inl M.ch)), (b.pva, .inl (b.cva, 8, .inl M.va)), (b.pou, .inl (b.cou, 60, .inl M.ou)), (b.ptx, .inl (b.ctx, 15, .inl M.tx)), (b.pnb, .inl (b.cnb, 16, .inl M.nb)), (b.psg, .inl (b.csg, 16, .inl M.sg)), (b.pwh, .inl (b.cwh, 6, .inl M.wh)), (b.pce, .inl (b.cce, 96, .inl M.ce))]) [0, 1, 2, 3, 4, 5, 6, 7, 8, 9, 10] rfl) (hD.sub (ws' := [(b.r0, .inr (5, [.int M.th, .ref b.pdk, .int M.ar, .int M.de, .int M.wr, .ref b.pln, .ref b.pch, .ref b.pva, .int M.nx, .int (nI M.os), .ref b.pou, .int (nI M.tn), .ref b.ptx, .int M.ol, .int (nI M.fm), .int (nI M.at1), .int (nI M.en), .int M.go, .int (nI M.nn), .ref b.pnb, .int (nI M.sn), .ref b.psg, .int (nI M.my), .ref b.pwh, .ref b.pce])), (b.pdk, .inl (b.cdk, 512, .inl M.dk)), (b.pln, .inl (b.cln, 100, .inl M.ln)), (b.pch, .inl (b.cch, 1200, .inl M.ch)), (b.pva, .inl (b.cva, 8, .inl M.va)), (b.pou, .inl (b.cou, 60, .inl M.ou)), (b.ptx, .inl (b.ctx, 15, .inl M.tx)), (b.pnb, .inl (b.cnb, 16, .inl M.nb)), (b.psg, .inl (b.csg, 16, .inl M.sg)), (b.pwh, .inl (b.cwh, 6, .inl M.wh)), (b.pce, .inl (b.cce, 96, .inl M.ce))]) [0, 1, 2, 3, 4, 5, 6, 7, 8, 9, 10] (by decide) rfl) (hK.sub (tys' := [(b.cdk, .int), (b.cln, .int), (b.cch, .int), (b.cva, .int), (b.cou, .int), (b.ctx, .int), (b.cnb, .int), (b.csg, .int), (b.cwh, .int), (b.cce, .int)]) [0, 1, 2, 3, 4, 5, 6, 7, 8, 9] rfl) rfl rfl rfl rfl hl.1 rfl (Nat.le_of_ble_eq_true rfl) d_Mo_statement_498 ⟨hRc, hRs⟩) hP hD hK hS hA [0, 1, 2, 3, 4, 5, 6, 7, 8, 9, 10] [] [] rfl rfl (by decide) (by decide) rfl (fun rl ul H locs pl hP hD hK hS => ?_)
      have hP : va_P (dC, dI) cls [(b.r0, .inr (5, [.int ul.th, .ref b.pdk, .int ul.ar, .int ul.de, .int ul.wr, .ref b.pln, .ref b.pch, .ref b.pva, .int ul.nx, .int (nI ul.os), .ref b.pou, .int (nI ul.tn), .ref b.ptx, .int ul.ol, .int (nI ul.fm), .int (nI ul.at1), .int (nI ul.en), .int ul.go, .int (nI ul.nn), .ref b.pnb, .int (nI ul.sn), .ref b.psg, .int (nI ul.my), .ref b.pwh, .ref b.pce])), (b.pdk, .inl (b.cdk, 512, .inl ul.dk)), (b.pln, .inl (b.cln, 100, .inl ul.ln)), (b.pch, .inl (b.cch, 1200, .inl ul.ch)), (b.pva, .inl (b.cva, 8, .inl ul.va)), (b.pou, .inl (b.cou, 60, .inl ul.ou)), (b.ptx, .inl (b.ctx, 15, .inl ul.tx)), (b.pnb, .inl (b.cnb, 16, .inl ul.nb)), (b.psg, .inl (b.csg, 16, .inl ul.sg)), (b.pwh, .inl (b.cwh, 6, .inl ul.wh)), (b.pce, .inl (b.cce, 96, .inl ul.ce))] H := hP
      have hD : va_D A [(b.r0, .inr (5, [.int ul.th, .ref b.pdk, .int ul.ar, .int ul.de, .int ul.wr, .ref b.pln, .ref b.pch, .ref b.pva, .int ul.nx, .int (nI ul.os), .ref b.pou, .int (nI ul.tn), .ref b.ptx, .int ul.ol, .int (nI ul.fm), .int (nI ul.at1), .int (nI ul.en), .int ul.go, .int (nI ul.nn), .ref b.pnb, .int (nI ul.sn), .ref b.psg, .int (nI ul.my), .ref b.pwh, .ref b.pce])), (b.pdk, .inl (b.cdk, 512, .inl ul.dk)), (b.pln, .inl (b.cln, 100, .inl ul.ln)), (b.pch, .inl (b.cch, 1200, .inl ul.ch)), (b.pva, .inl (b.cva, 8, .inl ul.va)), (b.pou, .inl (b.cou, 60, .inl ul.ou)), (b.ptx, .inl (b.ctx, 15, .inl ul.tx)), (b.pnb, .inl (b.cnb, 16, .inl ul.nb)), (b.psg, .inl (b.csg, 16, .inl ul.sg)), (b.pwh, .inl (b.cwh, 6, .inl ul.wh)), (b.pce, .inl (b.cce, 96, .inl ul.ce))] := hD
      have hK : va_K (dC, dI) cls [(b.cdk, .int), (b.cln, .int), (b.cch, .int), (b.cva, .int), (b.cou, .int), (b.ctx, .int), (b.cnb, .int), (b.csg, .int), (b.cwh, .int), (b.cce, .int)] s := hK
      refine W.widen (k := cells) (n := slots) (Nat.le_refl _) (Nat.le_refl _) ?_
      obtain ⟨e1h, e2h⟩ := pl
      have hP : va_P (dC, dI) cls [(b.r0, .inr (5, [.int M.th, .ref b.pdk, .int M.ar, .int M.de, .int M.wr, .ref b.pln, .ref b.pch, .ref b.pva, .int M.nx, .int (nI M.os), .ref b.pou, .int (nI M.tn), .ref b.ptx, .int M.ol, .int (nI M.fm), .int (nI M.at1), .int (nI M.en), .int M.go, .int (nI M.nn), .ref b.pnb, .int (nI M.sn), .ref b.psg, .int (nI M.my), .ref b.pwh, .ref b.pce])), (b.pdk, .inl (b.cdk, 512, .inl M.dk)), (b.pln, .inl (b.cln, 100, .inl M.ln)), (b.pch, .inl (b.cch, 1200, .inl M.ch)), (b.pva, .inl (b.cva, 8, .inl M.va)), (b.pou, .inl (b.cou, 60, .inl M.ou)), (b.ptx, .inl (b.ctx, 15, .inl M.tx)), (b.pnb, .inl (b.cnb, 16, .inl M.nb)), (b.psg, .inl (b.csg, 16, .inl M.sg)), (b.pwh, .inl (b.cwh, 6, .inl M.wh)), (b.pce, .inl (b.cce, 96, .inl M.ce))] H := by rw [← e2h]; exact hP
      have hD : va_D A [(b.r0, .inr (5, [.int M.th, .ref b.pdk, .int M.ar, .int M.de, .int M.wr, .ref b.pln, .ref b.pch, .ref b.pva, .int M.nx, .int (nI M.os), .ref b.pou, .int (nI M.tn), .ref b.ptx, .int M.ol, .int (nI M.fm), .int (nI M.at1), .int (nI M.en), .int M.go, .int (nI M.nn), .ref b.pnb, .int (nI M.sn), .ref b.psg, .int (nI M.my), .ref b.pwh, .ref b.pce])), (b.pdk, .inl (b.cdk, 512, .inl M.dk)), (b.pln, .inl (b.cln, 100, .inl M.ln)), (b.pch, .inl (b.cch, 1200, .inl M.ch)), (b.pva, .inl (b.cva, 8, .inl M.va)), (b.pou, .inl (b.cou, 60, .inl M.ou)), (b.ptx, .inl (b.ctx, 15, .inl M.tx)), (b.pnb, .inl (b.cnb, 16, .inl M.nb)), (b.psg, .inl (b.csg, 16, .inl M.sg)), (b.pwh, .inl (b.cwh, 6, .inl M.wh)), (b.pce, .inl (b.cce, 96, .inl M.ce))] := by rw [← e2h]; exact hD
      subst e1h
      refine lv_aload_n hx hb d_Mo_statement_501 rfl (lv_at hl 3 rfl) ?_
      refine va_get (D := (dC, dI)) (ci := 5) (v := .int (nI M.en)) (C := R_Mo) (T := F_Mo) (N := 25) hx hb hts in_Mo hown hK hP 0 rfl rfl 16 (by decide) (hts _ w_609) (fun _ h9 => h9) rfl d_Mo_statement_502 ?_
      refine lv_icmp_ne (tgt := 512) hx hb d_Mo_statement_505 (by decide) (fun c505 => ?_) (fun c505 => ?_)
      · skip
        refine lv_iconst (v := 0) hx hb d_Mo_statement_512 (by decide) ?_
        exact key1 _ _ _ (by (simp only [tgo, c494, c505, if_true, if_false, not_true_eq_false, not_false_eq_true, ite_not] <;> try simp)) hP hD hS
      · skip
        refine lv_iconst (v := 1) hx hb d_Mo_statement_508 (by decide) ?_
        refine lv_goto (tgt := 513) hx hb d_Mo_statement_509 (by decide) ?_
        exact key1 _ _ _ (by (simp only [tgo, c494, c505, if_true, if_false, not_true_eq_false, not_false_eq_true, ite_not] <;> try simp)) hP hD hS
  · skip
    have hP : va_P (dC, dI) cls [(b.r0, .inr (5, [.int M.th, .ref b.pdk, .int M.ar, .int M.de, .int M.wr, .ref b.pln, .ref b.pch, .ref b.pva, .int M.nx, .int (nI M.os), .ref b.pou, .int (nI M.tn), .ref b.ptx, .int M.ol, .int (nI M.fm), .int (nI M.at1), .int (nI M.en), .int M.go, .int (nI M.nn), .ref b.pnb, .int (nI M.sn), .ref b.psg, .int (nI M.my), .ref b.pwh, .ref b.pce])), (b.pdk, .inl (b.cdk, 512, .inl M.dk)), (b.pln, .inl (b.cln, 100, .inl M.ln)), (b.pch, .inl (b.cch, 1200, .inl M.ch)), (b.pva, .inl (b.cva, 8, .inl M.va)), (b.pou, .inl (b.cou, 60, .inl M.ou)), (b.ptx, .inl (b.ctx, 15, .inl M.tx)), (b.pnb, .inl (b.cnb, 16, .inl M.nb)), (b.psg, .inl (b.csg, 16, .inl M.sg)), (b.pwh, .inl (b.cwh, 6, .inl M.wh)), (b.pce, .inl (b.cce, 96, .inl M.ce))] H := hP
    have hD : va_D A [(b.r0, .inr (5, [.int M.th, .ref b.pdk, .int M.ar, .int M.de, .int M.wr, .ref b.pln, .ref b.pch, .ref b.pva, .int M.nx, .int (nI M.os), .ref b.pou, .int (nI M.tn), .ref b.ptx, .int M.ol, .int (nI M.fm), .int (nI M.at1), .int (nI M.en), .int M.go, .int (nI M.nn), .ref b.pnb, .int (nI M.sn), .ref b.psg, .int (nI M.my), .ref b.pwh, .ref b.pce])), (b.pdk, .inl (b.cdk, 512, .inl M.dk)), (b.pln, .inl (b.cln, 100, .inl M.ln)), (b.pch, .inl (b.cch, 1200, .inl M.ch)), (b.pva, .inl (b.cva, 8, .inl M.va)), (b.pou, .inl (b.cou, 60, .inl M.ou)), (b.ptx, .inl (b.ctx, 15, .inl M.tx)), (b.pnb, .inl (b.cnb, 16, .inl M.nb)), (b.psg, .inl (b.csg, 16, .inl M.sg)), (b.pwh, .inl (b.cwh, 6, .inl M.wh)), (b.pce, .inl (b.cce, 96, .inl M.ce))] := hD
    refine va_put (D := (dC, dI)) (ci := 5) (v := .int (tgo M)) (ty := .boolean) (C := R_Mo) (T := F_Mo) (N := 25) hx hb hts in_Mo t_Mo t_Mo_ok n_Mo hown hK hP hD hS 0 rfl rfl 17 (by decide) (hts _ w_610) (fun _ h9 => h9) rfl (by decide +kernel) (nar_b (tgo_b M)) (fit_b (tgo_b M)) (Nat.le_of_ble_eq_true rfl) d_Mo_statement_513 (fun H locs hP hD hS => ?_)
    have hP : va_P (dC, dI) cls [(b.r0, .inr (5, [.int M.th, .ref b.pdk, .int M.ar, .int M.de, .int M.wr, .ref b.pln, .ref b.pch, .ref b.pva, .int M.nx, .int (nI M.os), .ref b.pou, .int (nI M.tn), .ref b.ptx, .int M.ol, .int (nI M.fm), .int (nI M.at1), .int (nI M.en), .int (tgo M), .int (nI M.nn), .ref b.pnb, .int (nI M.sn), .ref b.psg, .int (nI M.my), .ref b.pwh, .ref b.pce])), (b.pdk, .inl (b.cdk, 512, .inl M.dk)), (b.pln, .inl (b.cln, 100, .inl M.ln)), (b.pch, .inl (b.cch, 1200, .inl M.ch)), (b.pva, .inl (b.cva, 8, .inl M.va)), (b.pou, .inl (b.cou, 60, .inl M.ou)), (b.ptx, .inl (b.ctx, 15, .inl M.tx)), (b.pnb, .inl (b.cnb, 16, .inl M.nb)), (b.psg, .inl (b.csg, 16, .inl M.sg)), (b.pwh, .inl (b.cwh, 6, .inl M.wh)), (b.pce, .inl (b.cce, 96, .inl M.ce))] H := hP
    have hD : va_D A [(b.r0, .inr (5, [.int M.th, .ref b.pdk, .int M.ar, .int M.de, .int M.wr, .ref b.pln, .ref b.pch, .ref b.pva, .int M.nx, .int (nI M.os), .ref b.pou, .int (nI M.tn), .ref b.ptx, .int M.ol, .int (nI M.fm), .int (nI M.at1), .int (nI M.en), .int (tgo M), .int (nI M.nn), .ref b.pnb, .int (nI M.sn), .ref b.psg, .int (nI M.my), .ref b.pwh, .ref b.pce])), (b.pdk, .inl (b.cdk, 512, .inl M.dk)), (b.pln, .inl (b.cln, 100, .inl M.ln)), (b.pch, .inl (b.cch, 1200, .inl M.ch)), (b.pva, .inl (b.cva, 8, .inl M.va)), (b.pou, .inl (b.cou, 60, .inl M.ou)), (b.ptx, .inl (b.ctx, 15, .inl M.tx)), (b.pnb, .inl (b.cnb, 16, .inl M.nb)), (b.psg, .inl (b.csg, 16, .inl M.sg)), (b.pwh, .inl (b.cwh, 6, .inl M.wh)), (b.pce, .inl (b.cce, 96, .inl M.ce))] := hD
    refine lv_iload_n hx hb d_Mo_statement_516 rfl (lv_at hl 2 rfl) ?_
    refine lv_if_eq (tgt := 555) hx hb d_Mo_statement_517 (by decide) (fun _ => ?_) (fun h => absurd (by decide) h)
    exact k555 ls _ _ (lv_sub hl [0] rfl) (hP.sub [0, 1, 2, 3, 4, 5, 6, 7, 8, 9, 10] rfl) (hD.sub [0, 1, 2, 3, 4, 5, 6, 7, 8, 9, 10] (by decide) rfl) hS
set_option maxHeartbeats 4000000 in
set_option maxRecDepth 100000 in
theorem sg_Mo_st1 {p : Program} {l : Launch} {e : Env} {R : Room} {s : State} {m : MethodId} {args : Array Value} {below : List Frame} {meth : Method} {c : Code} {cells slots : Nat} {Q : State → Prop} {A : Nat → Prop} {dC : Nat → ClassId} {dI : Nat → Nat → Nat} (hx : p.tables.exec = Jvm.exec) (hb : c.code = b_Mo_statement) (hml : c.maxLocals = 12) (hts : ∀ w ∈ gw, w.before args s = true) (hown : s.vm.findClass "LineDiskModel" = some m.cls) (hkw : kw s) (hA : ∀ q : Nat, s.heap.size ≤ q → A q) (b : RAd) (M : RSt) (t9 f9 : Int32) (hK0 : va_K (dC, dI) cls [(b.cdk, .int), (b.cln, .int), (b.cch, .int), (b.cva, .int), (b.cou, .int), (b.ctx, .int), (b.cnb, .int), (b.csg, .int), (b.cwh, .int), (b.cce, .int)] s) (hRf : 1 ≤ R.frames) (hRl : 40 ≤ R.locals) (hRc : cells ≤ R.cells) (hRs : slots ≤ R.slots) (k555 : ∀ (ls : Array Slot) (H : Heap) (locs : List Loc), lv_has ls 12 [(6, .int f9)] → va_P (dC, dI) cls [(b.r0, .inr (5, [.int ((tl1 M t9 f9).th), .ref b.pdk, .int ((tl1 M t9 f9).ar), .int ((tl1 M t9 f9).de), .int ((tl1 M t9 f9).wr), .ref b.pln, .ref b.pch, .ref b.pva, .int ((tl1 M t9 f9).nx), .int (nI ((tl1 M t9 f9).os)), .ref b.pou, .int (nI ((tl1 M t9 f9).tn)), .ref b.ptx, .int ((tl1 M t9 f9).ol), .int (nI ((tl1 M t9 f9).fm)), .int (nI ((tl1 M t9 f9).at1)), .int (nI ((tl1 M t9 f9).en)), .int ((tl1 M t9 f9).go), .int (nI ((tl1 M t9 f9).nn)), .ref b.pnb, .int (nI ((tl1 M t9 f9).sn)), .ref b.psg, .int (nI ((tl1 M t9 f9).my)), .ref b.pwh, .ref b.pce])), (b.pdk, .inl (b.cdk, 512, .inl ((tl1 M t9 f9).dk))), (b.pln, .inl (b.cln, 100, .inl ((tl1 M t9 f9).ln))), (b.pch, .inl (b.cch, 1200, .inl ((tl1 M t9 f9).ch))), (b.pva, .inl (b.cva, 8, .inl ((tl1 M t9 f9).va))), (b.pou, .inl (b.cou, 60, .inl ((tl1 M t9 f9).ou))), (b.ptx, .inl (b.ctx, 15, .inl ((tl1 M t9 f9).tx))), (b.pnb, .inl (b.cnb, 16, .inl ((tl1 M t9 f9).nb))), (b.psg, .inl (b.csg, 16, .inl ((tl1 M t9 f9).sg))), (b.pwh, .inl (b.cwh, 6, .inl ((tl1 M t9 f9).wh))), (b.pce, .inl (b.cce, 96, .inl ((tl1 M t9 f9).ce)))] H → va_D A [(b.r0, .inr (5, [.int ((tl1 M t9 f9).th), .ref b.pdk, .int ((tl1 M t9 f9).ar), .int ((tl1 M t9 f9).de), .int ((tl1 M t9 f9).wr), .ref b.pln, .ref b.pch, .ref b.pva, .int ((tl1 M t9 f9).nx), .int (nI ((tl1 M t9 f9).os)), .ref b.pou, .int (nI ((tl1 M t9 f9).tn)), .ref b.ptx, .int ((tl1 M t9 f9).ol), .int (nI ((tl1 M t9 f9).fm)), .int (nI ((tl1 M t9 f9).at1)), .int (nI ((tl1 M t9 f9).en)), .int ((tl1 M t9 f9).go), .int (nI ((tl1 M t9 f9).nn)), .ref b.pnb, .int (nI ((tl1 M t9 f9).sn)), .ref b.psg, .int (nI ((tl1 M t9 f9).my)), .ref b.pwh, .ref b.pce])), (b.pdk, .inl (b.cdk, 512, .inl ((tl1 M t9 f9).dk))), (b.pln, .inl (b.cln, 100, .inl ((tl1 M t9 f9).ln))), (b.pch, .inl (b.cch, 1200, .inl ((tl1 M t9 f9).ch))), (b.pva, .inl (b.cva, 8, .inl ((tl1 M t9 f9).va))), (b.pou, .inl (b.cou, 60, .inl ((tl1 M t9 f9).ou))), (b.ptx, .inl (b.ctx, 15, .inl ((tl1 M t9 f9).tx))), (b.pnb, .inl (b.cnb, 16, .inl ((tl1 M t9 f9).nb))), (b.psg, .inl (b.csg, 16, .inl ((tl1 M t9 f9).sg))), (b.pwh, .inl (b.cwh, 6, .inl ((tl1 M t9 f9).wh))), (b.pce, .inl (b.cce, 96, .inl ((tl1 M t9 f9).ce)))] → va_S A s.heap H locs → W p l e R s m args below meth c H locs cells slots Q (F0 m 555 ls [])) : ∀ (ls : Array Slot) (H : Heap) (locs : List Loc), lv_has ls 12 [(6, .int f9), (5, .int t9), (1, .int 1), (0, .ref b.r0)] → va_P (dC, dI) cls [(b.r0, .inr (5, [.int M.th, .ref b.pdk, .int M.ar, .int M.de, .int M.wr, .ref b.pln, .ref b.pch, .ref b.pva, .int M.nx, .int (nI M.os), .ref b.pou, .int (nI M.tn), .ref b.ptx, .int M.ol, .int (nI M.fm), .int (nI M.at1), .int (nI M.en), .int M.go, .int (nI M.nn), .ref b.pnb, .int (nI M.sn), .ref b.psg, .int (nI M.my), .ref b.pwh, .ref b.pce])), (b.pdk, .inl (b.cdk, 512, .inl M.dk)), (b.pln, .inl (b.cln, 100, .inl M.ln)), (b.pch, .inl (b.cch, 1200, .inl M.ch)), (b.pva, .inl (b.cva, 8, .inl M.va)), (b.pou, .inl (b.cou, 60, .inl M.ou)), (b.ptx, .inl (b.ctx, 15, .inl M.tx)), (b.pnb, .inl (b.cnb, 16, .inl M.nb)), (b.psg, .inl (b.csg, 16, .inl M.sg)), (b.pwh, .inl (b.cwh, 6, .inl M.wh)), (b.pce, .inl (b.cce, 96, .inl M.ce))] H → va_D A [(b.r0, .inr (5, [.int M.th, .ref b.pdk, .int M.ar, .int M.de, .int M.wr, .ref b.pln, .ref b.pch, .ref b.pva, .int M.nx, .int (nI M.os), .ref b.pou, .int (nI M.tn), .ref b.ptx, .int M.ol, .int (nI M.fm), .int (nI M.at1), .int (nI M.en), .int M.go, .int (nI M.nn), .ref b.pnb, .int (nI M.sn), .ref b.psg, .int (nI M.my), .ref b.pwh, .ref b.pce])), (b.pdk, .inl (b.cdk, 512, .inl M.dk)), (b.pln, .inl (b.cln, 100, .inl M.ln)), (b.pch, .inl (b.cch, 1200, .inl M.ch)), (b.pva, .inl (b.cva, 8, .inl M.va)), (b.pou, .inl (b.cou, 60, .inl M.ou)), (b.ptx, .inl (b.ctx, 15, .inl M.tx)), (b.pnb, .inl (b.cnb, 16, .inl M.nb)), (b.psg, .inl (b.csg, 16, .inl M.sg)), (b.pwh, .inl (b.cwh, 6, .inl M.wh)), (b.pce, .inl (b.cce, 96, .inl M.ce))] → va_S A s.heap H locs → (True) → W p l e R s m args below meth c H locs cells slots Q (F0 m 489 ls []) := by
  have F : CallFix p m c b_Mo_statement 12 s args gw "LineDiskModel" := ⟨hx, hb, hml, hown, hts⟩
  intro ls H locs hl hP hD hS hf
  have hK := hK0
  refine lv_aload_n hx hb d_Mo_statement_489 rfl (lv_at hl 3 rfl) ?_
  refine lv_aload_n hx hb d_Mo_statement_490 rfl (lv_at hl 3 rfl) ?_
  refine jn2 (D := (dC, dI)) (A := A) (ws := [(b.r0, .inr (5, [.int M.th, .ref b.pdk, .int M.ar, .int M.de, .int M.wr, .ref b.pln, .ref b.pch, .ref b.pva, .int M.nx, .int (nI M.os), .ref b.pou, .int (nI M.tn), .ref b.ptx, .int M.ol, .int (nI M.fm), .int (nI M.at1), .int (nI M.en), .int M.go, .int (nI M.nn), .ref b.pnb, .int (nI M.sn), .ref b.psg, .int (nI M.my), .ref b.pwh, .ref b.pce])), (b.pdk, .inl (b.cdk, 512, .inl M.dk)), (b.pln, .inl (b.cln, 100, .inl M.ln)), (b.pch, .inl (b.cch, 1200, .inl M.ch)), (b.pva, .inl (b.cva, 8, .inl M.va)), (b.pou, .inl (b.cou, 60, .inl M.ou)), (b.ptx, .inl (b.ctx, 15, .inl M.tx)), (b.pnb, .inl (b.cnb, 16, .inl M.nb)), (b.psg, .inl (b.csg, 16, .inl M.sg)), (b.pwh, .inl (b.cwh, 6, .inl M.wh)), (b.pce, .inl (b.cce, 96, .inl M.ce))]) (s0 := s.heap) (ls := ls) (pc := 513) (rest := [.ref b.r0]) (x := tgo M) (fun key1 => ?_) (fun H locs hP hD hS => ?_)
  · skip
    refine va_get (D := (dC, dI)) (ci := 5) (v := .int M.go) (C := R_Mo) (T := F_Mo) (N := 25) hx hb hts in_Mo hown hK hP 0 rfl rfl 17 (by decide) (hts _ w_610) (fun _ h9 => h9) rfl d_Mo_statement_491 ?_
    refine lv_if_eq (tgt := 512) hx hb d_Mo_statement_494 (by decide) (fun c494 => ?_) (fun c494 => ?_)
    · skip
      refine lv_iconst (v := 0) hx hb d_Mo_statement_512 (by decide) ?_
      exact key1 _ _ _ (by (simp only [tgo, c494, if_true, if_false, not_true_eq_false, not_false_eq_true, ite_not] <;> try simp)) hP hD hS
    · skip
      refine lv_aload_n hx hb d_Mo_statement_497 rfl (lv_at hl 3 rfl) ?_
      refine go_i (wr := []) (tr := []) (rV (C := "LineDiskModel") (ci := 5) (q0 := 0) (b := b.r0) (n := 0) (As := []) (rest := [.ref b.r0]) F hkw (g_Mo_last l dC dI b M H.size) xT_bl (fun _ _ _ => trivial) w_785 w_787 ws_57 w_6 w_788 rfl rfl (by decide +kernel) ⟨Nat.le_trans (by decide) hRf, Nat.le_trans (by decide) hRl⟩ (hP.sub (ws' := [(b.r0, .inr (5, [.int M.th, .ref b.pdk, .int M.ar, .int M.de, .int M.wr, .ref b.pln, .ref b.pch, .ref b.pva, .int M.nx, .int (nI M.os), .ref b.pou, .int (nI M.tn), .ref b.ptx, .int M.ol, .int (nI M.fm), .int (nI M.at1), .int (nI M.en), .int M.go, .int (nI M.nn), .ref b.pnb, .int (nI M.sn), .ref b.psg, .int (nI M.my), .ref b.pwh, .ref b.pce])), (b.pdk, .inl (b.cdk, 512, .inl M.dk)), (b.pln, .inl (b.cln, 100, .inl M.ln)), (b.pch, .inl (b.cch, 1200, .inl M.ch)), (b.pva, .inl (b.cva, 8, .inl M.va)), (b.pou, .inl (b.cou, 60, .inl M.ou)), (b.ptx, .inl (b.ctx, 15, .inl M.tx)), (b.pnb, .inl (b.cnb, 16, .inl M.nb)), (b.psg, .inl (b.csg, 16, .inl M.sg)), (b.pwh, .inl (b.cwh, 6, .inl M.wh)), (b.pce, .inl (b.cce, 96, .inl M.ce))]) [0, 1, 2, 3, 4, 5, 6, 7, 8, 9, 10] rfl) (hD.sub (ws' := [(b.r0, .inr (5, [.int M.th, .ref b.pdk, .int M.ar, .int M.de, .int M.wr, .ref b.pln, .ref b.pch, .ref b.pva, .int M.nx, .int (nI M.os), .ref b.pou, .int (nI M.tn), .ref b.ptx, .int M.ol, .int (nI M.fm), .int (nI M.at1), .int (nI M.en), .int M.go, .int (nI M.nn), .ref b.pnb, .int (nI M.sn), .ref b.psg, .int (nI M.my), .ref b.pwh, .ref b.pce])), (b.pdk, .inl (b.cdk, 512, .inl M.dk)), (b.pln, .inl (b.cln, 100, .inl M.ln)), (b.pch, .inl (b.cch, 1200, .inl M.ch)), (b.pva, .inl (b.cva, 8, .inl M.va)), (b.pou, .inl (b.cou, 60, .inl M.ou)), (b.ptx, .inl (b.ctx, 15, .inl M.tx)), (b.pnb, .inl (b.cnb, 16, .inl M.nb)), (b.psg, .inl (b.csg, 16, .inl M.sg)), (b.pwh, .inl (b.cwh, 6, .inl M.wh)), (b.pce, .inl (b.cce, 96, .inl M.ce))]) [0, 1, 2, 3, 4, 5, 6, 7, 8, 9, 10] (by decide) rfl) (hK.sub (tys' := [(b.cdk, .int), (b.cln, .int), (b.cch, .int), (b.cva, .int), (b.cou, .int), (b.ctx, .int), (b.cnb, .int), (b.csg, .int), (b.cwh, .int), (b.cce, .int)]) [0, 1, 2, 3, 4, 5, 6, 7, 8, 9] rfl) rfl rfl rfl rfl hl.1 rfl (Nat.le_of_ble_eq_true rfl) d_Mo_statement_498 ⟨hRc, hRs⟩) hP hD hK hS hA [0, 1, 2, 3, 4, 5, 6, 7, 8, 9, 10] [] [] rfl rfl (by decide) (by decide) rfl (fun rl ul H locs pl hP hD hK hS => ?_)
      have hP : va_P (dC, dI) cls [(b.r0, .inr (5, [.int ul.th, .ref b.pdk, .int ul.ar, .int ul.de, .int ul.wr, .ref b.pln, .ref b.pch, .ref b.pva, .int ul.nx, .int (nI ul.os), .ref b.pou, .int (nI ul.tn), .ref b.ptx, .int ul.ol, .int (nI ul.fm), .int (nI ul.at1), .int (nI ul.en), .int ul.go, .int (nI ul.nn), .ref b.pnb, .int (nI ul.sn), .ref b.psg, .int (nI ul.my), .ref b.pwh, .ref b.pce])), (b.pdk, .inl (b.cdk, 512, .inl ul.dk)), (b.pln, .inl (b.cln, 100, .inl ul.ln)), (b.pch, .inl (b.cch, 1200, .inl ul.ch)), (b.pva, .inl (b.cva, 8, .inl ul.va)), (b.pou, .inl (b.cou, 60, .inl ul.ou)), (b.ptx, .inl (b.ctx, 15, .inl ul.tx)), (b.pnb, .inl (b.cnb, 16, .inl ul.nb)), (b.psg, .inl (b.csg, 16, .inl ul.sg)), (b.pwh, .inl (b.cwh, 6, .inl ul.wh)), (b.pce, .inl (b.cce, 96, .inl ul.ce))] H := hP
      have hD : va_D A [(b.r0, .inr (5, [.int ul.th, .ref b.pdk, .int ul.ar, .int ul.de, .int ul.wr, .ref b.pln, .ref b.pch, .ref b.pva, .int ul.nx, .int (nI ul.os), .ref b.pou, .int (nI ul.tn), .ref b.ptx, .int ul.ol, .int (nI ul.fm), .int (nI ul.at1), .int (nI ul.en), .int ul.go, .int (nI ul.nn), .ref b.pnb, .int (nI ul.sn), .ref b.psg, .int (nI ul.my), .ref b.pwh, .ref b.pce])), (b.pdk, .inl (b.cdk, 512, .inl ul.dk)), (b.pln, .inl (b.cln, 100, .inl ul.ln)), (b.pch, .inl (b.cch, 1200, .inl ul.ch)), (b.pva, .inl (b.cva, 8, .inl ul.va)), (b.pou, .inl (b.cou, 60, .inl ul.ou)), (b.ptx, .inl (b.ctx, 15, .inl ul.tx)), (b.pnb, .inl (b.cnb, 16, .inl ul.nb)), (b.psg, .inl (b.csg, 16, .inl ul.sg)), (b.pwh, .inl (b.cwh, 6, .inl ul.wh)), (b.pce, .inl (b.cce, 96, .inl ul.ce))] := hD
      have hK : va_K (dC, dI) cls [(b.cdk, .int), (b.cln, .int), (b.cch, .int), (b.cva, .int), (b.cou, .int), (b.ctx, .int), (b.cnb, .int), (b.csg, .int), (b.cwh, .int), (b.cce, .int)] s := hK
      refine W.widen (k := cells) (n := slots) (Nat.le_refl _) (Nat.le_refl _) ?_
      obtain ⟨e1h, e2h⟩ := pl
      have hP : va_P (dC, dI) cls [(b.r0, .inr (5, [.int M.th, .ref b.pdk, .int M.ar, .int M.de, .int M.wr, .ref b.pln, .ref b.pch, .ref b.pva, .int M.nx, .int (nI M.os), .ref b.pou, .int (nI M.tn), .ref b.ptx, .int M.ol, .int (nI M.fm), .int (nI M.at1), .int (nI M.en), .int M.go, .int (nI M.nn), .ref b.pnb, .int (nI M.sn), .ref b.psg, .int (nI M.my), .ref b.pwh, .ref b.pce])), (b.pdk, .inl (b.cdk, 512, .inl M.dk)), (b.pln, .inl (b.cln, 100, .inl M.ln)), (b.pch, .inl (b.cch, 1200, .inl M.ch)), (b.pva, .inl (b.cva, 8, .inl M.va)), (b.pou, .inl (b.cou, 60, .inl M.ou)), (b.ptx, .inl (b.ctx, 15, .inl M.tx)), (b.pnb, .inl (b.cnb, 16, .inl M.nb)), (b.psg, .inl (b.csg, 16, .inl M.sg)), (b.pwh, .inl (b.cwh, 6, .inl M.wh)), (b.pce, .inl (b.cce, 96, .inl M.ce))] H := by rw [← e2h]; exact hP
      have hD : va_D A [(b.r0, .inr (5, [.int M.th, .ref b.pdk, .int M.ar, .int M.de, .int M.wr, .ref b.pln, .ref b.pch, .ref b.pva, .int M.nx, .int (nI M.os), .ref b.pou, .int (nI M.tn), .ref b.ptx, .int M.ol, .int (nI M.fm), .int (nI M.at1), .int (nI M.en), .int M.go, .int (nI M.nn), .ref b.pnb, .int (nI M.sn), .ref b.psg, .int (nI M.my), .ref b.pwh, .ref b.pce])), (b.pdk, .inl (b.cdk, 512, .inl M.dk)), (b.pln, .inl (b.cln, 100, .inl M.ln)), (b.pch, .inl (b.cch, 1200, .inl M.ch)), (b.pva, .inl (b.cva, 8, .inl M.va)), (b.pou, .inl (b.cou, 60, .inl M.ou)), (b.ptx, .inl (b.ctx, 15, .inl M.tx)), (b.pnb, .inl (b.cnb, 16, .inl M.nb)), (b.psg, .inl (b.csg, 16, .inl M.sg)), (b.pwh, .inl (b.cwh, 6, .inl M.wh)), (b.pce, .inl (b.cce, 96, .inl M.ce))] := by rw [← e2h]; exact hD
      subst e1h
      refine lv_aload_n hx hb d_Mo_statement_501 rfl (lv_at hl 3 rfl) ?_
      refine va_get (D := (dC, dI)) (ci := 5) (v := .int (nI M.en)) (C := R_Mo) (T := F_Mo) (N := 25) hx hb hts in_Mo hown hK hP 0 rfl rfl 16 (by decide) (hts _ w_609) (fun _ h9 => h9) rfl d_Mo_statement_502 ?_
      refine lv_icmp_ne (tgt := 512) hx hb d_Mo_statement_505 (by decide) (fun c505 => ?_) (fun c505 => ?_)
      · skip
        refine lv_iconst (v := 0) hx hb d_Mo_statement_512 (by decide) ?_
        exact key1 _ _ _ (by (simp only [tgo, c494, c505, if_true, if_false, not_true_eq_false, not_false_eq_true, ite_not] <;> try simp)) hP hD hS
      · skip
        refine lv_iconst (v := 1) hx hb d_Mo_statement_508 (by decide) ?_
        refine lv_goto (tgt := 513) hx hb d_Mo_statement_509 (by decide) ?_
        exact key1 _ _ _ (by (simp only [tgo, c494, c505, if_true, if_false, not_true_eq_false, not_false_eq_true, ite_not] <;> try simp)) hP hD hS
  · skip
    have hP : va_P (dC, dI) cls [(b.r0, .inr (5, [.int M.th, .ref b.pdk, .int M.ar, .int M.de, .int M.wr, .ref b.pln, .ref b.pch, .ref b.pva, .int M.nx, .int (nI M.os), .ref b.pou, .int (nI M.tn), .ref b.ptx, .int M.ol, .int (nI M.fm), .int (nI M.at1), .int (nI M.en), .int M.go, .int (nI M.nn), .ref b.pnb, .int (nI M.sn), .ref b.psg, .int (nI M.my), .ref b.pwh, .ref b.pce])), (b.pdk, .inl (b.cdk, 512, .inl M.dk)), (b.pln, .inl (b.cln, 100, .inl M.ln)), (b.pch, .inl (b.cch, 1200, .inl M.ch)), (b.pva, .inl (b.cva, 8, .inl M.va)), (b.pou, .inl (b.cou, 60, .inl M.ou)), (b.ptx, .inl (b.ctx, 15, .inl M.tx)), (b.pnb, .inl (b.cnb, 16, .inl M.nb)), (b.psg, .inl (b.csg, 16, .inl M.sg)), (b.pwh, .inl (b.cwh, 6, .inl M.wh)), (b.pce, .inl (b.cce, 96, .inl M.ce))] H := hP
    have hD : va_D A [(b.r0, .inr (5, [.int M.th, .ref b.pdk, .int M.ar, .int M.de, .int M.wr, .ref b.pln, .ref b.pch, .ref b.pva, .int M.nx, .int (nI M.os), .ref b.pou, .int (nI M.tn), .ref b.ptx, .int M.ol, .int (nI M.fm), .int (nI M.at1), .int (nI M.en), .int M.go, .int (nI M.nn), .ref b.pnb, .int (nI M.sn), .ref b.psg, .int (nI M.my), .ref b.pwh, .ref b.pce])), (b.pdk, .inl (b.cdk, 512, .inl M.dk)), (b.pln, .inl (b.cln, 100, .inl M.ln)), (b.pch, .inl (b.cch, 1200, .inl M.ch)), (b.pva, .inl (b.cva, 8, .inl M.va)), (b.pou, .inl (b.cou, 60, .inl M.ou)), (b.ptx, .inl (b.ctx, 15, .inl M.tx)), (b.pnb, .inl (b.cnb, 16, .inl M.nb)), (b.psg, .inl (b.csg, 16, .inl M.sg)), (b.pwh, .inl (b.cwh, 6, .inl M.wh)), (b.pce, .inl (b.cce, 96, .inl M.ce))] := hD
    refine va_put (D := (dC, dI)) (ci := 5) (v := .int (tgo M)) (ty := .boolean) (C := R_Mo) (T := F_Mo) (N := 25) hx hb hts in_Mo t_Mo t_Mo_ok n_Mo hown hK hP hD hS 0 rfl rfl 17 (by decide) (hts _ w_610) (fun _ h9 => h9) rfl (by decide +kernel) (nar_b (tgo_b M)) (fit_b (tgo_b M)) (Nat.le_of_ble_eq_true rfl) d_Mo_statement_513 (fun H locs hP hD hS => ?_)
    have hP : va_P (dC, dI) cls [(b.r0, .inr (5, [.int M.th, .ref b.pdk, .int M.ar, .int M.de, .int M.wr, .ref b.pln, .ref b.pch, .ref b.pva, .int M.nx, .int (nI M.os), .ref b.pou, .int (nI M.tn), .ref b.ptx, .int M.ol, .int (nI M.fm), .int (nI M.at1), .int (nI M.en), .int (tgo M), .int (nI M.nn), .ref b.pnb, .int (nI M.sn), .ref b.psg, .int (nI M.my), .ref b.pwh, .ref b.pce])), (b.pdk, .inl (b.cdk, 512, .inl M.dk)), (b.pln, .inl (b.cln, 100, .inl M.ln)), (b.pch, .inl (b.cch, 1200, .inl M.ch)), (b.pva, .inl (b.cva, 8, .inl M.va)), (b.pou, .inl (b.cou, 60, .inl M.ou)), (b.ptx, .inl (b.ctx, 15, .inl M.tx)), (b.pnb, .inl (b.cnb, 16, .inl M.nb)), (b.psg, .inl (b.csg, 16, .inl M.sg)), (b.pwh, .inl (b.cwh, 6, .inl M.wh)), (b.pce, .inl (b.cce, 96, .inl M.ce))] H := hP
    have hD : va_D A [(b.r0, .inr (5, [.int M.th, .ref b.pdk, .int M.ar, .int M.de, .int M.wr, .ref b.pln, .ref b.pch, .ref b.pva, .int M.nx, .int (nI M.os), .ref b.pou, .int (nI M.tn), .ref b.ptx, .int M.ol, .int (nI M.fm), .int (nI M.at1), .int (nI M.en), .int (tgo M), .int (nI M.nn), .ref b.pnb, .int (nI M.sn), .ref b.psg, .int (nI M.my), .ref b.pwh, .ref b.pce])), (b.pdk, .inl (b.cdk, 512, .inl M.dk)), (b.pln, .inl (b.cln, 100, .inl M.ln)), (b.pch, .inl (b.cch, 1200, .inl M.ch)), (b.pva, .inl (b.cva, 8, .inl M.va)), (b.pou, .inl (b.cou, 60, .inl M.ou)), (b.ptx, .inl (b.ctx, 15, .inl M.tx)), (b.pnb, .inl (b.cnb, 16, .inl M.nb)), (b.psg, .inl (b.csg, 16, .inl M.sg)), (b.pwh, .inl (b.cwh, 6, .inl M.wh)), (b.pce, .inl (b.cce, 96, .inl M.ce))] := hD
    refine lv_iload_n hx hb d_Mo_statement_516 rfl (lv_at hl 2 rfl) ?_
    refine lv_if_eq (tgt := 555) hx hb d_Mo_statement_517 (by decide) (fun h => absurd h (by decide)) (fun _ => ?_)
    refine lv_aload_n hx hb d_Mo_statement_520 rfl (lv_at hl 3 rfl) ?_
    refine va_get (D := (dC, dI)) (ci := 5) (v := .int M.de) (C := R_Mo) (T := F_Mo) (N := 25) hx hb hts in_Mo hown hK hP 0 rfl rfl 3 (by decide) (hts _ w_596) (fun _ h9 => h9) rfl d_Mo_statement_521 ?_
    refine lv_if_ne (tgt := 555) hx hb d_Mo_statement_524 (by decide) (fun c524 => ?_) (fun c524 => ?_)
    · skip
      have et : tl1 M t9 f9 = tl0 M := by unfold tl1; rw [if_pos c524]
      rw [et] at k555
      exact k555 ls _ _ (lv_sub hl [0] rfl) (hP.sub [0, 1, 2, 3, 4, 5, 6, 7, 8, 9, 10] rfl) (hD.sub [0, 1, 2, 3, 4, 5, 6, 7, 8, 9, 10] (by decide) rfl) hS
    · skip
      refine lv_aload_n hx hb d_Mo_statement_527 rfl (lv_at hl 3 rfl) ?_
      refine jn2 (D := (dC, dI)) (A := A) (ws := [(b.r0, .inr (5, [.int M.th, .ref b.pdk, .int M.ar, .int M.de, .int M.wr, .ref b.pln, .ref b.pch, .ref b.pva, .int M.nx, .int (nI M.os), .ref b.pou, .int (nI M.tn), .ref b.ptx, .int M.ol, .int (nI M.fm), .int (nI M.at1), .int (nI M.en), .int (tgo M), .int (nI M.nn), .ref b.pnb, .int (nI M.sn), .ref b.psg, .int (nI M.my), .ref b.pwh, .ref b.pce])), (b.pdk, .inl (b.cdk, 512, .inl M.dk)), (b.pln, .inl (b.cln, 100, .inl M.ln)), (b.pch, .inl (b.cch, 1200, .inl M.ch)), (b.pva, .inl (b.cva, 8, .inl M.va)), (b.pou, .inl (b.cou, 60, .inl M.ou)), (b.ptx, .inl (b.ctx, 15, .inl M.tx)), (b.pnb, .inl (b.cnb, 16, .inl M.nb)), (b.psg, .inl (b.csg, 16, .inl M.sg)), (b.pwh, .inl (b.cwh, 6, .inl M.wh)), (b.pce, .inl (b.cce, 96, .inl M.ce))]) (s0 := s.heap) (ls := ls) (pc := 552) (rest := [.ref b.r0]) (x := nxv f9 t9 M.nx) (fun key2 => ?_) (fun H locs hP hD hS => ?_)
      · skip
        refine lv_iload hx hb d_Mo_statement_528 (lv_at hl 0 rfl) ?_
        refine lv_if_ne (tgt := 538) hx hb d_Mo_statement_530 (by decide) (fun c530 => ?_) (fun c530 => ?_)
        · skip
          refine lv_iload hx hb d_Mo_statement_538 (lv_at hl 0 rfl) ?_
          refine lv_iconst (v := (-1)) hx hb d_Mo_statement_540 (by decide) ?_
          refine lv_icmp_ne (tgt := 548) hx hb d_Mo_statement_541 (by decide) (fun c541 => ?_) (fun c541 => ?_)
          · skip
            refine lv_aload_n hx hb d_Mo_statement_548 rfl (lv_at hl 3 rfl) ?_
            refine va_get (D := (dC, dI)) (ci := 5) (v := .int M.nx) (C := R_Mo) (T := F_Mo) (N := 25) hx hb hts in_Mo hown hK hP 0 rfl rfl 8 (by decide) (hts _ w_601) (fun _ h9 => h9) rfl d_Mo_statement_549 ?_
            exact key2 _ _ _ (by (simp only [nxv, c530, c541, if_true, if_false, not_true_eq_false, not_false_eq_true, ite_not] <;> try simp)) hP hD hS
          · skip
            refine lv_iconst (v := 0) hx hb d_Mo_statement_544 (by decide) ?_
            refine lv_goto (tgt := 552) hx hb d_Mo_statement_545 (by decide) ?_
            exact key2 _ _ _ (by (simp only [nxv, c530, c541, if_true, if_false, not_true_eq_false, not_false_eq_true, ite_not] <;> try simp)) hP hD hS
        · skip
          refine lv_iload hx hb d_Mo_statement_533 (lv_at hl 1 rfl) ?_
          refine lv_goto (tgt := 552) hx hb d_Mo_statement_535 (by decide) ?_
          exact key2 _ _ _ (by (simp only [nxv, c530, if_true, if_false, not_true_eq_false, not_false_eq_true, ite_not] <;> try simp)) hP hD hS
      · skip
        have hP : va_P (dC, dI) cls [(b.r0, .inr (5, [.int M.th, .ref b.pdk, .int M.ar, .int M.de, .int M.wr, .ref b.pln, .ref b.pch, .ref b.pva, .int M.nx, .int (nI M.os), .ref b.pou, .int (nI M.tn), .ref b.ptx, .int M.ol, .int (nI M.fm), .int (nI M.at1), .int (nI M.en), .int (tgo M), .int (nI M.nn), .ref b.pnb, .int (nI M.sn), .ref b.psg, .int (nI M.my), .ref b.pwh, .ref b.pce])), (b.pdk, .inl (b.cdk, 512, .inl M.dk)), (b.pln, .inl (b.cln, 100, .inl M.ln)), (b.pch, .inl (b.cch, 1200, .inl M.ch)), (b.pva, .inl (b.cva, 8, .inl M.va)), (b.pou, .inl (b.cou, 60, .inl M.ou)), (b.ptx, .inl (b.ctx, 15, .inl M.tx)), (b.pnb, .inl (b.cnb, 16, .inl M.nb)), (b.psg, .inl (b.csg, 16, .inl M.sg)), (b.pwh, .inl (b.cwh, 6, .inl M.wh)), (b.pce, .inl (b.cce, 96, .inl M.ce))] H := hP
        have hD : va_D A [(b.r0, .inr (5, [.int M.th, .ref b.pdk, .int M.ar, .int M.de, .int M.wr, .ref b.pln, .ref b.pch, .ref b.pva, .int M.nx, .int (nI M.os), .ref b.pou, .int (nI M.tn), .ref b.ptx, .int M.ol, .int (nI M.fm), .int (nI M.at1), .int (nI M.en), .int (tgo M), .int (nI M.nn), .ref b.pnb, .int (nI M.sn), .ref b.psg, .int (nI M.my), .ref b.pwh, .ref b.pce])), (b.pdk, .inl (b.cdk, 512, .inl M.dk)), (b.pln, .inl (b.cln, 100, .inl M.ln)), (b.pch, .inl (b.cch, 1200, .inl M.ch)), (b.pva, .inl (b.cva, 8, .inl M.va)), (b.pou, .inl (b.cou, 60, .inl M.ou)), (b.ptx, .inl (b.ctx, 15, .inl M.tx)), (b.pnb, .inl (b.cnb, 16, .inl M.nb)), (b.psg, .inl (b.csg, 16, .inl M.sg)), (b.pwh, .inl (b.cwh, 6, .inl M.wh)), (b.pce, .inl (b.cce, 96, .inl M.ce))] := hD
        refine va_put (D := (dC, dI)) (ci := 5) (v := .int (nxv f9 t9 M.nx)) (ty := .int) (C := R_Mo) (T := F_Mo) (N := 25) hx hb hts in_Mo t_Mo t_Mo_ok n_Mo hown hK hP hD hS 0 rfl rfl 8 (by decide) (hts _ w_601) (fun _ h9 => h9) rfl (by decide +kernel) (rfl) (rfl) (Nat.le_of_ble_eq_true rfl) d_Mo_statement_552 (fun H locs hP hD hS => ?_)
        have hP : va_P (dC, dI) cls [(b.r0, .inr (5, [.int M.th, .ref b.pdk, .int M.ar, .int M.de, .int M.wr, .ref b.pln, .ref b.pch, .ref b.pva, .int (nxv f9 t9 M.nx), .int (nI M.os), .ref b.pou, .int (nI M.tn), .ref b.ptx, .int M.ol, .int (nI M.fm), .int (nI M.at1), .int (nI M.en), .int (tgo M), .int (nI M.nn), .ref b.pnb, .int (nI M.sn), .ref b.psg, .int (nI M.my), .ref b.pwh, .ref b.pce])), (b.pdk, .inl (b.cdk, 512, .inl M.dk)), (b.pln, .inl (b.cln, 100, .inl M.ln)), (b.pch, .inl (b.cch, 1200, .inl M.ch)), (b.pva, .inl (b.cva, 8, .inl M.va)), (b.pou, .inl (b.cou, 60, .inl M.ou)), (b.ptx, .inl (b.ctx, 15, .inl M.tx)), (b.pnb, .inl (b.cnb, 16, .inl M.nb)), (b.psg, .inl (b.csg, 16, .inl M.sg)), (b.pwh, .inl (b.cwh, 6, .inl M.wh)), (b.pce, .inl (b.cce, 96, .inl M.ce))] H := hP
        have hD : va_D A [(b.r0, .inr (5, [.int M.th, .ref b.pdk, .int M.ar, .int M.de, .int M.wr, .ref b.pln, .ref b.pch, .ref b.pva, .int (nxv f9 t9 M.nx), .int (nI M.os), .ref b.pou, .int (nI M.tn), .ref b.ptx, .int M.ol, .int (nI M.fm), .int (nI M.at1), .int (nI M.en), .int (tgo M), .int (nI M.nn), .ref b.pnb, .int (nI M.sn), .ref b.psg, .int (nI M.my), .ref b.pwh, .ref b.pce])), (b.pdk, .inl (b.cdk, 512, .inl M.dk)), (b.pln, .inl (b.cln, 100, .inl M.ln)), (b.pch, .inl (b.cch, 1200, .inl M.ch)), (b.pva, .inl (b.cva, 8, .inl M.va)), (b.pou, .inl (b.cou, 60, .inl M.ou)), (b.ptx, .inl (b.ctx, 15, .inl M.tx)), (b.pnb, .inl (b.cnb, 16, .inl M.nb)), (b.psg, .inl (b.csg, 16, .inl M.sg)), (b.pwh, .inl (b.cwh, 6, .inl M.wh)), (b.pce, .inl (b.cce, 96, .inl M.ce))] := hD
        have et : tl1 M t9 f9 = (M.th, M.ar, M.de, M.wr, nxv f9 t9 M.nx, M.os, M.tn, M.ol, M.fm, M.at1, M.en, tgo M, M.nn, M.sn, M.my, M.dk, M.ln, M.ch, M.va, M.ou, M.tx, M.nb, M.sg, M.wh, M.ce) := by unfold tl1; rw [if_neg (fun g => g c524)]; (try rfl)
        rw [et] at k555
        exact k555 ls _ _ (lv_sub hl [0] rfl) (hP.sub [0, 1, 2, 3, 4, 5, 6, 7, 8, 9, 10] rfl) (hD.sub [0, 1, 2, 3, 4, 5, 6, 7, 8, 9, 10] (by decide) rfl) hS
section
variable {p : Program} {l : Launch} {e : Env} {R : Room} {s : State} {m : MethodId} {args : Array Value} {below : List Frame} {meth : Method} {c : Code} {H : Heap} {locs : List Loc} {cells slots : Nat} {Q : State → Prop}
theorem jn4 {D : va_G} {A : Nat → Prop} {ws : va_W} {s0 : Heap} {ls : Array Slot} {pa pb : Nat} {P : Prop} {g : JFrame} (k1 : (∀ (H : Heap) (locs : List Loc), P → va_P D cls ws H → va_D A ws → va_S A s0 H locs → W p l e R s m args below meth c H locs cells slots Q (F0 m pa ls [])) → (∀ (H : Heap) (locs : List Loc), ¬ P → va_P D cls ws H → va_D A ws → va_S A s0 H locs → W p l e R s m args below meth c H locs cells slots Q (F0 m pb ls [])) → W p l e R s m args below meth c H locs cells slots Q g) (ka : ∀ (H : Heap) (locs : List Loc), P → va_P D cls ws H → va_D A ws → va_S A s0 H locs → W p l e R s m args below meth c H locs cells slots Q (F0 m pa ls [])) (kb : ∀ (H : Heap) (locs : List Loc), ¬ P → va_P D cls ws H → va_D A ws → va_S A s0 H locs → W p l e R s m args below meth c H locs cells slots Q (F0 m pb ls [])) : W p l e R s m args below meth c H locs cells slots Q g := k1 ka kb
end
