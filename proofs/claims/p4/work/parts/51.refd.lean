/-! the reference: a value -/
theorem dec1 {a : Nat} (h : 0 < a) : nI a + Int32.ofInt (-1) = nI (a - 1) := by
  rw [show Int32.ofInt (-1) = -1 from by decide, ← Int32.sub_eq_add_neg]
  exact pk_sub (b := 1) h
def psF (Y : RSt) (x : Int32) : RSt := (Y.th, Y.ar, Y.de, Y.wr, Y.nx, Y.os, Y.tn, Y.ol, Y.fm, Y.at1 + 1, Y.en, Y.go, Y.nn, Y.sn + 1, Y.my, Y.dk, Y.ln, Y.ch, Y.va, Y.ou, Y.tx, Y.nb, upd Y.sg Y.sn x, Y.wh, Y.ce)
def cpF (Y : RSt) : RSt := (Y.th, Y.ar, Y.de, Y.wr, Y.nx, Y.os, Y.tn, Y.ol, Y.fm, Y.at1 + 1, Y.en, Y.go, Y.nn, Y.sn - 1, Y.my, Y.dk, Y.ln, Y.ch, Y.va, Y.ou, Y.tx, Y.nb, Y.sg, Y.wh, Y.ce)
def atN (Y : RSt) (x : Nat) : RSt := (Y.th, Y.ar, Y.de, Y.wr, Y.nx, Y.os, Y.tn, Y.ol, Y.fm, x, Y.en, Y.go, Y.nn, Y.sn, Y.my, Y.dk, Y.ln, Y.ch, Y.va, Y.ou, Y.tx, Y.nb, Y.sg, Y.wh, Y.ce)
def vlR : Nat → Nat → Int32 → Int32 → RSt → Nat × RSt
  | 0, o, _, _, Y => (o, Y)
  | f + 1, o, w, m, Y =>
    if m = 0 then (o, Y) else if Y.go = 0 then (o, Y) else
    if w = 0 then
      (if lvl (hrF Y) ≤ 0 then (if ¬ hrF Y = 41 then vlR f o w 0 Y else if nI o ≤ 0 then vlR f o w 0 Y else vlR f (o - 1) w m (cpF (rdP Y.sn Y)))
       else vlR f o 1 m (psF (rdL Y.sn (hrF Y) Y) (hrF Y)))
    else vlR f (if (piR Y).1 = 0 then o + 1 else o) (if (piR Y).1 = 0 then 1 else 0) m (piR Y).2
theorem pdS_sp : ∀ (f : Nat) (v : Int32) (k : Nat) (Y : RSt), ∃ v' d, pdS f v k Y = (v', k + d, atN Y (Y.at1 + d)) ∧ d ≤ f ∧ (0 < d → Y.at1 + d ≤ Y.en)
  | 0, v, k, Y => ⟨v, 0, rfl, Nat.le_refl _, fun h => absurd h (by omega)⟩
  | f + 1, v, k, Y => by
    by_cases h : dgt (hrF Y) = 0
    · refine ⟨v, 0, ?_, by omega, fun h => absurd h (by omega)⟩
      show (if dgt (hrF Y) = 0 then (v, k, Y) else _) = _
      rw [if_pos h]
      rfl
    · obtain ⟨v', d, e, h1, h2⟩ := pdS_sp f (10 * v + hrF Y - 48) (k + 1) (atF Y)
      have hl := hr_lt (dg_n1 h)
      have h2 : 0 < d → Y.at1 + 1 + d ≤ Y.en := h2
      refine ⟨v', d + 1, ?_, by omega, fun _ => ?_⟩
      · show (if dgt (hrF Y) = 0 then (v, k, Y) else pdS f (10 * v + hrF Y - 48) (k + 1) (atF Y)) = _
        rw [if_neg h, e, show k + 1 + d = k + (d + 1) by omega]
        show (v', k + (d + 1), atN Y (Y.at1 + 1 + d)) = _
        rw [show Y.at1 + 1 + d = Y.at1 + (d + 1) by omega]
      · rcases Nat.eq_zero_or_pos d with g | g
        · omega
        · have := h2 g
          omega
theorem mvr_dg {c : Int32} (h : ¬ mvr c = 0) : dgt c = 0 := by
  obtain ⟨j, hj, e⟩ := vp_in_of (mvr_in h) (by decide)
  have e2 : c = nI j + 65 := by rw [← e]; exact (Int32.sub_add_cancel c 65).symm
  have e3 : nI j + 65 = nI (j + 65) := nI_add j 65
  rw [e2, e3]
  exact (by decide +kernel : ∀ j : Fin 8, dgt (nI (j.val + 65)) = 0) ⟨j, hj⟩
theorem piR_inv {Y : RSt} {o m : Nat} {w : Int32} (hr : RB Y m) (hv : VI Y o w) (hw : ¬ w = 0) : RB (piR Y).2 m ∧ (piR Y).2.en = Y.en ∧ (¬ (piR Y).2.go = 0 → VI (piR Y).2 (if (piR Y).1 = 0 then o + 1 else o) (if (piR Y).1 = 0 then 1 else 0) ∧ Y.at1 < (piR Y).2.at1 ∧ (piR Y).2.at1 ≤ Y.en) := by
  obtain ⟨v1, v2, v3, v4⟩ := hv
  rw [if_neg hw] at v3
  unfold piR
  by_cases h : hrF Y = 40
  · rw [if_neg (fun g => g h)]
    have hl := hr_lt (Y := Y) (by rw [h]; decide)
    refine ⟨RB_at hr (by rw [h]; decide), rfl, fun _ => ⟨⟨?_, ?_, ?_, ?_⟩, Nat.lt_succ_self _, hl⟩⟩
    · show pcn (upd Y.sg Y.sn 40) Y.sn + (if upd Y.sg Y.sn 40 Y.sn = 40 then 1 else 0) = (if (0 : Int32) = 0 then o + 1 else o)
      rw [pcn_upd Y.sg Y.sn 40 Y.sn (Nat.le_refl _), pk_us, if_pos rfl, if_pos rfl, v1]
    · show (if (0 : Int32) = 0 then o + 1 else o) ≤ Y.sn + 1
      rw [if_pos rfl]
      omega
    · show Y.nn = Y.sn + 1 - (if (0 : Int32) = 0 then o + 1 else o) + (if (if (0 : Int32) = 0 then (1 : Int32) else 0) = 0 then 1 else 0)
      rw [if_pos rfl, if_pos rfl, if_neg (by decide)]
      omega
    · show Y.nn + (Y.sn + 1) + (Y.en - (Y.at1 + 1)) ≤ 15
      omega
  · rw [if_pos h]
    by_cases hm : mvr (hrF Y) = 0
    · obtain ⟨v', d, e, hd, he⟩ := pdS_sp 6 (pv0 Y) 0 Y
      rw [e]
      have ea : ((1 : Int32), pc2 (hrF Y) (v', 0 + d, atN Y (Y.at1 + d))).2.at1 = Y.at1 + d := by
        show Y.at1 + d + (if mvr (hrF Y) = 0 then 0 else 1) = _
        rw [if_pos hm]
        rfl
      refine ⟨⟨?_, hr.2⟩, rfl, fun hg => ?_⟩
      · rw [ea]
        rcases Nat.eq_zero_or_pos d with g | g
        · rw [g]; exact hr.1
        · exact Nat.le_trans (he g) hr.2.1
      · have hg : ¬ pgo Y.go (hrF Y) (0 + d) = 0 := hg
        have hd0 : 0 < d := by
          rcases Nat.eq_zero_or_pos d with g | g
          · exfalso
            apply hg
            unfold pgo
            by_cases hgo : Y.go = 0
            · rw [if_pos hgo]
            · rw [g, if_neg hgo, if_neg (fun q => q hm), if_pos (show nI (0 + 0) ≤ 0 by decide)]
          · exact g
        have hl := he hd0
        refine ⟨⟨?_, ?_, ?_, ?_⟩, ?_, ?_⟩
        · show pcn Y.sg Y.sn = (if (1 : Int32) = 0 then o + 1 else o)
          rw [if_neg (by decide)]
          exact v1
        · show (if (1 : Int32) = 0 then o + 1 else o) ≤ Y.sn
          rw [if_neg (by decide)]
          exact v2
        · show Y.nn + 1 = Y.sn - o + 1
          omega
        · rw [ea]
          show Y.nn + 1 + Y.sn + (Y.en - (Y.at1 + d)) ≤ 15
          omega
        · rw [ea]
          omega
        · rw [ea]
          exact hl
    · have hn1 := mvr_n1 hm
      have hl := hr_lt hn1
      have e : pdS 6 (pv0 Y) 0 Y = (pv0 Y, 0, Y) := by
        show (if dgt (hrF Y) = 0 then (pv0 Y, 0, Y) else _) = _
        rw [if_pos (mvr_dg hm)]
      rw [e]
      have ea : ((1 : Int32), pc2 (hrF Y) (pv0 Y, 0, Y)).2.at1 = Y.at1 + 1 := by
        show Y.at1 + (if mvr (hrF Y) = 0 then 0 else 1) = _
        rw [if_neg hm]
      refine ⟨⟨?_, hr.2⟩, rfl, fun hg => ⟨⟨?_, ?_, ?_, ?_⟩, ?_, ?_⟩⟩
      · rw [ea]
        exact Nat.le_trans hl hr.2.1
      · show pcn Y.sg Y.sn = (if (1 : Int32) = 0 then o + 1 else o)
        rw [if_neg (by decide)]
        exact v1
      · show (if (1 : Int32) = 0 then o + 1 else o) ≤ Y.sn
        rw [if_neg (by decide)]
        exact v2
      · show Y.nn + 1 = Y.sn - o + 1
        omega
      · rw [ea]
        show Y.nn + 1 + Y.sn + (Y.en - (Y.at1 + 1)) ≤ 15
        omega
      · rw [ea]
        omega
      · rw [ea]
        exact hl
theorem rdL_sp : ∀ (f : Nat) (x : Int32) (Y : RSt), (rdL f x Y).at1 = Y.at1 ∧ (rdL f x Y).en = Y.en ∧ (rdL f x Y).go = Y.go
  | 0, _, _ => ⟨rfl, rfl, rfl⟩
  | f + 1, x, Y => by
    unfold rdL
    split
    · exact ⟨rfl, rfl, rfl⟩
    · split
      · exact ⟨rfl, rfl, rfl⟩
      · exact rdL_sp f x (reF Y)
theorem rdP_sp : ∀ (f : Nat) (Y : RSt), (rdP f Y).at1 = Y.at1 ∧ (rdP f Y).en = Y.en ∧ (rdP f Y).go = Y.go
  | 0, _ => ⟨rfl, rfl, rfl⟩
  | f + 1, Y => by
    unfold rdP
    split
    · exact ⟨rfl, rfl, rfl⟩
    · exact rdP_sp f (reF Y)
theorem VI_ps {Y : RSt} {o : Nat} {x : Int32} (hv : VI Y o 0) (hx : ¬ lvl x ≤ 0) (ha : Y.at1 < Y.en) : VI (psF Y x) o 1 := by
  obtain ⟨v1, v2, v3, v4⟩ := hv
  rw [if_pos rfl] at v3
  refine ⟨?_, ?_, ?_, ?_⟩
  · show pcn (upd Y.sg Y.sn x) Y.sn + (if upd Y.sg Y.sn x Y.sn = 40 then 1 else 0) = o
    rw [pcn_upd Y.sg Y.sn x Y.sn (Nat.le_refl _), pk_us, if_neg (fun e => hx (by rw [e]; decide)), v1]
    rfl
  · show o ≤ Y.sn + 1
    omega
  · show Y.nn = Y.sn + 1 - o + (if (1 : Int32) = 0 then 1 else 0)
    rw [if_neg (by decide)]
    omega
  · show Y.nn + (Y.sn + 1) + (Y.en - (Y.at1 + 1)) ≤ 15
    omega
theorem VI_cp {Y : RSt} {o : Nat} (hv : VI Y o 0) (ho : 0 < o) (ht : Y.sg (Y.sn - 1) = 40) (ha : Y.at1 < Y.en) : VI (cpF Y) (o - 1) 0 := by
  obtain ⟨v1, v2, v3, v4⟩ := hv
  rw [if_pos rfl] at v3
  have e := pcn_s Y.sg (k := Y.sn) (by omega)
  rw [if_pos ht] at e
  refine ⟨?_, ?_, ?_, ?_⟩
  · show pcn Y.sg (Y.sn - 1) = o - 1
    omega
  · show o - 1 ≤ Y.sn - 1
    omega
  · show Y.nn = Y.sn - 1 - (o - 1) + (if (0 : Int32) = 0 then 1 else 0)
    rw [if_pos rfl]
    omega
  · show Y.nn + (Y.sn - 1) + (Y.en - (Y.at1 + 1)) ≤ 15
    omega
theorem lv_n1 {x : Int32} (h : ¬ lvl x ≤ 0) : ¬ x = -1 := fun e => h (by rw [e]; decide)
set_option maxHeartbeats 4000000 in
set_option maxRecDepth 100000 in
theorem lp_Mo_value1 {p : Program} {l : Launch} {e : Env} {R : Room} {s : State} {m : MethodId} {args : Array Value} {below : List Frame} {meth : Method} {c : Code} {cells slots : Nat} {Q : State → Prop} {A : Nat → Prop} {dC : Nat → ClassId} {dI : Nat → Nat → Nat} (hx : p.tables.exec = Jvm.exec) (hb : c.code = b_Mo_value) (hml : c.maxLocals = 6) (hts : ∀ w ∈ gw, w.before args s = true) (hown : s.vm.findClass "LineDiskModel" = some m.cls) (hkw : kw s) (hA : ∀ q : Nat, s.heap.size ≤ q → A q) (b : RAd) (Y : RSt) (m1 : Nat) (hK0 : va_K (dC, dI) cls [(b.cdk, .int), (b.cln, .int), (b.cch, .int), (b.cva, .int), (b.cou, .int), (b.ctx, .int), (b.cnb, .int), (b.csg, .int), (b.cwh, .int), (b.cce, .int)] s) (hRf : 4 ≤ R.frames) (hRl : 285 ≤ R.locals) (hRc : cells ≤ R.cells) (hRs : slots ≤ R.slots)  (k_215 : ∀ (k : Nat), k ≤ 20 → ∀ (ls : Array Slot) (H : Heap) (locs : List Loc) (M : RSt) (o9 : Nat) (w9 : Int32) (m9 : Int32), lv_has ls 6 [(1, .int (nI o9)), (0, .ref b.r0)] → va_P (dC, dI) cls [(b.r0, .inr (5, [.int M.th, .ref b.pdk, .int M.ar, .int M.de, .int M.wr, .ref b.pln, .ref b.pch, .ref b.pva, .int M.nx, .int (nI M.os), .ref b.pou, .int (nI M.tn), .ref b.ptx, .int M.ol, .int (nI M.fm), .int (nI M.at1), .int (nI M.en), .int M.go, .int (nI M.nn), .ref b.pnb, .int (nI M.sn), .ref b.psg, .int (nI M.my), .ref b.pwh, .ref b.pce])), (b.pdk, .inl (b.cdk, 512, .inl M.dk)), (b.pln, .inl (b.cln, 100, .inl M.ln)), (b.pch, .inl (b.cch, 1200, .inl M.ch)), (b.pva, .inl (b.cva, 8, .inl M.va)), (b.pou, .inl (b.cou, 60, .inl M.ou)), (b.ptx, .inl (b.ctx, 15, .inl M.tx)), (b.pnb, .inl (b.cnb, 16, .inl M.nb)), (b.psg, .inl (b.csg, 16, .inl M.sg)), (b.pwh, .inl (b.cwh, 6, .inl M.wh)), (b.pce, .inl (b.cce, 96, .inl M.ce))] H → va_D A [(b.r0, .inr (5, [.int M.th, .ref b.pdk, .int M.ar, .int M.de, .int M.wr, .ref b.pln, .ref b.pch, .ref b.pva, .int M.nx, .int (nI M.os), .ref b.pou, .int (nI M.tn), .ref b.ptx, .int M.ol, .int (nI M.fm), .int (nI M.at1), .int (nI M.en), .int M.go, .int (nI M.nn), .ref b.pnb, .int (nI M.sn), .ref b.psg, .int (nI M.my), .ref b.pwh, .ref b.pce])), (b.pdk, .inl (b.cdk, 512, .inl M.dk)), (b.pln, .inl (b.cln, 100, .inl M.ln)), (b.pch, .inl (b.cch, 1200, .inl M.ch)), (b.pva, .inl (b.cva, 8, .inl M.va)), (b.pou, .inl (b.cou, 60, .inl M.ou)), (b.ptx, .inl (b.ctx, 15, .inl M.tx)), (b.pnb, .inl (b.cnb, 16, .inl M.nb)), (b.psg, .inl (b.csg, 16, .inl M.sg)), (b.pwh, .inl (b.cwh, 6, .inl M.wh)), (b.pce, .inl (b.cce, 96, .inl M.ce))] → va_S A s.heap H locs → (vlR 20 0 1 1 Y = (o9, M) ∧ RB M m1 ∧ (¬ M.go = 0 → VI M o9 0)) → W p l e R s m args below meth c H locs cells slots Q (F0 m 215 ls [])) : ∀ (j k : Nat), k + j = 20 → ∀ (ls : Array Slot) (H : Heap) (locs : List Loc) (M : RSt) (o9 : Nat) (w9 : Int32) (m9 : Int32), lv_has ls 6 [(3, .int m9), (2, .int w9), (1, .int (nI o9)), (0, .ref b.r0)] → va_P (dC, dI) cls [(b.r0, .inr (5, [.int M.th, .ref b.pdk, .int M.ar, .int M.de, .int M.wr, .ref b.pln, .ref b.pch, .ref b.pva, .int M.nx, .int (nI M.os), .ref b.pou, .int (nI M.tn), .ref b.ptx, .int M.ol, .int (nI M.fm), .int (nI M.at1), .int (nI M.en), .int M.go, .int (nI M.nn), .ref b.pnb, .int (nI M.sn), .ref b.psg, .int (nI M.my), .ref b.pwh, .ref b.pce])), (b.pdk, .inl (b.cdk, 512, .inl M.dk)), (b.pln, .inl (b.cln, 100, .inl M.ln)), (b.pch, .inl (b.cch, 1200, .inl M.ch)), (b.pva, .inl (b.cva, 8, .inl M.va)), (b.pou, .inl (b.cou, 60, .inl M.ou)), (b.ptx, .inl (b.ctx, 15, .inl M.tx)), (b.pnb, .inl (b.cnb, 16, .inl M.nb)), (b.psg, .inl (b.csg, 16, .inl M.sg)), (b.pwh, .inl (b.cwh, 6, .inl M.wh)), (b.pce, .inl (b.cce, 96, .inl M.ce))] H → va_D A [(b.r0, .inr (5, [.int M.th, .ref b.pdk, .int M.ar, .int M.de, .int M.wr, .ref b.pln, .ref b.pch, .ref b.pva, .int M.nx, .int (nI M.os), .ref b.pou, .int (nI M.tn), .ref b.ptx, .int M.ol, .int (nI M.fm), .int (nI M.at1), .int (nI M.en), .int M.go, .int (nI M.nn), .ref b.pnb, .int (nI M.sn), .ref b.psg, .int (nI M.my), .ref b.pwh, .ref b.pce])), (b.pdk, .inl (b.cdk, 512, .inl M.dk)), (b.pln, .inl (b.cln, 100, .inl M.ln)), (b.pch, .inl (b.cch, 1200, .inl M.ch)), (b.pva, .inl (b.cva, 8, .inl M.va)), (b.pou, .inl (b.cou, 60, .inl M.ou)), (b.ptx, .inl (b.ctx, 15, .inl M.tx)), (b.pnb, .inl (b.cnb, 16, .inl M.nb)), (b.psg, .inl (b.csg, 16, .inl M.sg)), (b.pwh, .inl (b.cwh, 6, .inl M.wh)), (b.pce, .inl (b.cce, 96, .inl M.ce))] → va_S A s.heap H locs → (vlR 20 0 1 1 Y = vlR (20 - k) o9 w9 m9 M ∧ RB M m1 ∧ (¬ M.go = 0 → VI M o9 w9) ∧ (m9 = 0 → w9 = 0) ∧ (¬ m9 = 0 → ¬ M.go = 0 → M.en - M.at1 + 2 + k ≤ 20)) → W p l e R s m args below meth c H locs cells slots Q (F0 m 16 ls []) := by
  have F : CallFix p m c b_Mo_value 6 s args gw "LineDiskModel" := ⟨hx, hb, hml, hown, hts⟩
  intro j
  induction j with
  | zero =>
    intro k hk ls H locs M o9 w9 m9 hl hP hD hS hf
    have hK := hK0
    have hkN : k = 20 := by omega
    obtain ⟨hf, hrb, hvi, hmw, hms⟩ := hf
    refine lv_iload_n hx hb d_Mo_value_16 rfl (lv_at hl 0 rfl) ?_
    refine lv_if_eq (tgt := 215) hx hb d_Mo_value_17 (by decide) (fun c17 => ?_) (fun c17 => ?_)
    · skip
      exact k_215 k (by omega) ls _ _ M o9 w9 m9 (lv_sub hl [2, 3] rfl) (hP.sub [0, 1, 2, 3, 4, 5, 6, 7, 8, 9, 10] rfl) (hD.sub [0, 1, 2, 3, 4, 5, 6, 7, 8, 9, 10] (by decide) rfl) hS (⟨by rw [hf, show 20 - k = 0 by omega]; rfl, hrb, fun g => by have h := hvi g; rw [hmw c17] at h; exact h⟩)
    · skip
      refine lv_aload_n hx hb d_Mo_value_20 rfl (lv_at hl 3 rfl) ?_
      refine va_get (D := (dC, dI)) (ci := 5) (v := .int M.go) (C := R_Mo) (T := F_Mo) (N := 25) hx hb hts in_Mo hown hK hP 0 rfl rfl 17 (by decide) (hts _ w_610) (fun _ h9 => h9) rfl d_Mo_value_21 ?_
      refine lv_if_eq (tgt := 215) hx hb d_Mo_value_24 (by decide) (fun c24 => ?_) (fun c24 => ?_)
      · skip
        exact k_215 k (by omega) ls _ _ M o9 w9 m9 (lv_sub hl [2, 3] rfl) (hP.sub [0, 1, 2, 3, 4, 5, 6, 7, 8, 9, 10] rfl) (hD.sub [0, 1, 2, 3, 4, 5, 6, 7, 8, 9, 10] (by decide) rfl) hS (⟨by rw [hf, show 20 - k = 0 by omega]; rfl, hrb, fun g => absurd c24 g⟩)
      · skip
        exact absurd (hms c17 c24) (by omega)
  | succ j ih =>
    intro k hk ls H locs M o9 w9 m9 hl hP hD hS hf
    have hK := hK0
    have hkN : k < 20 := by omega
    obtain ⟨hf, hrb, hvi, hmw, hms⟩ := hf
    obtain ⟨f9, hf9⟩ : ∃ f9, 20 - k = f9 + 1 := ⟨20 - k - 1, by omega⟩
    rw [hf9] at hf
    have un : vlR (f9 + 1) o9 w9 m9 M = (if m9 = 0 then (o9, M) else if M.go = 0 then (o9, M) else if w9 = 0 then (if lvl (hrF M) ≤ 0 then (if ¬ hrF M = 41 then vlR f9 o9 w9 0 M else if nI o9 ≤ 0 then vlR f9 o9 w9 0 M else vlR f9 (o9 - 1) w9 m9 (cpF (rdP M.sn M))) else vlR f9 o9 1 m9 (psF (rdL M.sn (hrF M) M) (hrF M))) else vlR f9 (if (piR M).1 = 0 then o9 + 1 else o9) (if (piR M).1 = 0 then 1 else 0) m9 (piR M).2) := rfl
    rw [un] at hf
    clear un
    refine lv_iload_n hx hb d_Mo_value_16 rfl (lv_at hl 0 rfl) ?_
    refine lv_if_eq (tgt := 215) hx hb d_Mo_value_17 (by decide) (fun c17 => ?_) (fun c17 => ?_)
    · skip
      exact k_215 k (by omega) ls _ _ M o9 w9 m9 (lv_sub hl [2, 3] rfl) (hP.sub [0, 1, 2, 3, 4, 5, 6, 7, 8, 9, 10] rfl) (hD.sub [0, 1, 2, 3, 4, 5, 6, 7, 8, 9, 10] (by decide) rfl) hS (⟨by rw [hf, if_pos c17], hrb, fun g => by have h := hvi g; rw [hmw c17] at h; exact h⟩)
    · skip
      refine lv_aload_n hx hb d_Mo_value_20 rfl (lv_at hl 3 rfl) ?_
      refine va_get (D := (dC, dI)) (ci := 5) (v := .int M.go) (C := R_Mo) (T := F_Mo) (N := 25) hx hb hts in_Mo hown hK hP 0 rfl rfl 17 (by decide) (hts _ w_610) (fun _ h9 => h9) rfl d_Mo_value_21 ?_
      refine lv_if_eq (tgt := 215) hx hb d_Mo_value_24 (by decide) (fun c24 => ?_) (fun c24 => ?_)
      · skip
        exact k_215 k (by omega) ls _ _ M o9 w9 m9 (lv_sub hl [2, 3] rfl) (hP.sub [0, 1, 2, 3, 4, 5, 6, 7, 8, 9, 10] rfl) (hD.sub [0, 1, 2, 3, 4, 5, 6, 7, 8, 9, 10] (by decide) rfl) hS (⟨by rw [hf, if_neg c17, if_pos c24], hrb, fun g => absurd c24 g⟩)
      · skip
        refine lv_aload_n hx hb d_Mo_value_27 rfl (lv_at hl 3 rfl) ?_
        refine go_i (wr := []) (tr := []) (rV (C := "LineDiskModel") (ci := 5) (q0 := 0) (b := b.r0) (n := 0) (As := []) (rest := []) F hkw (g_Mo_here l dC dI b M (RB_1 hrb) (RB_2 hrb) (RB_3 hrb) H.size) xT_bl (fun _ _ _ => trivial) w_705 w_707 ws_40 w_6 w_708 rfl rfl (by decide +kernel) ⟨Nat.le_trans (by decide) hRf, Nat.le_trans (by decide) hRl⟩ (hP.sub (ws' := [(b.r0, .inr (5, [.int M.th, .ref b.pdk, .int M.ar, .int M.de, .int M.wr, .ref b.pln, .ref b.pch, .ref b.pva, .int M.nx, .int (nI M.os), .ref b.pou, .int (nI M.tn), .ref b.ptx, .int M.ol, .int (nI M.fm), .int (nI M.at1), .int (nI M.en), .int M.go, .int (nI M.nn), .ref b.pnb, .int (nI M.sn), .ref b.psg, .int (nI M.my), .ref b.pwh, .ref b.pce])), (b.pdk, .inl (b.cdk, 512, .inl M.dk)), (b.pln, .inl (b.cln, 100, .inl M.ln)), (b.pch, .inl (b.cch, 1200, .inl M.ch)), (b.pva, .inl (b.cva, 8, .inl M.va)), (b.pou, .inl (b.cou, 60, .inl M.ou)), (b.ptx, .inl (b.ctx, 15, .inl M.tx)), (b.pnb, .inl (b.cnb, 16, .inl M.nb)), (b.psg, .inl (b.csg, 16, .inl M.sg)), (b.pwh, .inl (b.cwh, 6, .inl M.wh)), (b.pce, .inl (b.cce, 96, .inl M.ce))]) [0, 1, 2, 3, 4, 5, 6, 7, 8, 9, 10] rfl) (hD.sub (ws' := [(b.r0, .inr (5, [.int M.th, .ref b.pdk, .int M.ar, .int M.de, .int M.wr, .ref b.pln, .ref b.pch, .ref b.pva, .int M.nx, .int (nI M.os), .ref b.pou, .int (nI M.tn), .ref b.ptx, .int M.ol, .int (nI M.fm), .int (nI M.at1), .int (nI M.en), .int M.go, .int (nI M.nn), .ref b.pnb, .int (nI M.sn), .ref b.psg, .int (nI M.my), .ref b.pwh, .ref b.pce])), (b.pdk, .inl (b.cdk, 512, .inl M.dk)), (b.pln, .inl (b.cln, 100, .inl M.ln)), (b.pch, .inl (b.cch, 1200, .inl M.ch)), (b.pva, .inl (b.cva, 8, .inl M.va)), (b.pou, .inl (b.cou, 60, .inl M.ou)), (b.ptx, .inl (b.ctx, 15, .inl M.tx)), (b.pnb, .inl (b.cnb, 16, .inl M.nb)), (b.psg, .inl (b.csg, 16, .inl M.sg)), (b.pwh, .inl (b.cwh, 6, .inl M.wh)), (b.pce, .inl (b.cce, 96, .inl M.ce))]) [0, 1, 2, 3, 4, 5, 6, 7, 8, 9, 10] (by decide) rfl) (hK.sub (tys' := [(b.cdk, .int), (b.cln, .int), (b.cch, .int), (b.cva, .int), (b.cou, .int), (b.ctx, .int), (b.cnb, .int), (b.csg, .int), (b.cwh, .int), (b.cce, .int)]) [0, 1, 2, 3, 4, 5, 6, 7, 8, 9] rfl) rfl rfl rfl rfl hl.1 rfl (Nat.le_of_ble_eq_true rfl) d_Mo_value_28 ⟨hRc, hRs⟩) hP hD hK hS hA [0, 1, 2, 3, 4, 5, 6, 7, 8, 9, 10] [] [] rfl rfl (by decide) (by decide) rfl (fun rh1 uh1 H locs ph1 hP hD hK hS => ?_)
        have hP : va_P (dC, dI) cls [(b.r0, .inr (5, [.int uh1.th, .ref b.pdk, .int uh1.ar, .int uh1.de, .int uh1.wr, .ref b.pln, .ref b.pch, .ref b.pva, .int uh1.nx, .int (nI uh1.os), .ref b.pou, .int (nI uh1.tn), .ref b.ptx, .int uh1.ol, .int (nI uh1.fm), .int (nI uh1.at1), .int (nI uh1.en), .int uh1.go, .int (nI uh1.nn), .ref b.pnb, .int (nI uh1.sn), .ref b.psg, .int (nI uh1.my), .ref b.pwh, .ref b.pce])), (b.pdk, .inl (b.cdk, 512, .inl uh1.dk)), (b.pln, .inl (b.cln, 100, .inl uh1.ln)), (b.pch, .inl (b.cch, 1200, .inl uh1.ch)), (b.pva, .inl (b.cva, 8, .inl uh1.va)), (b.pou, .inl (b.cou, 60, .inl uh1.ou)), (b.ptx, .inl (b.ctx, 15, .inl uh1.tx)), (b.pnb, .inl (b.cnb, 16, .inl uh1.nb)), (b.psg, .inl (b.csg, 16, .inl uh1.sg)), (b.pwh, .inl (b.cwh, 6, .inl uh1.wh)), (b.pce, .inl (b.cce, 96, .inl uh1.ce))] H := hP
        have hD : va_D A [(b.r0, .inr (5, [.int uh1.th, .ref b.pdk, .int uh1.ar, .int uh1.de, .int uh1.wr, .ref b.pln, .ref b.pch, .ref b.pva, .int uh1.nx, .int (nI uh1.os), .ref b.pou, .int (nI uh1.tn), .ref b.ptx, .int uh1.ol, .int (nI uh1.fm), .int (nI uh1.at1), .int (nI uh1.en), .int uh1.go, .int (nI uh1.nn), .ref b.pnb, .int (nI uh1.sn), .ref b.psg, .int (nI uh1.my), .ref b.pwh, .ref b.pce])), (b.pdk, .inl (b.cdk, 512, .inl uh1.dk)), (b.pln, .inl (b.cln, 100, .inl uh1.ln)), (b.pch, .inl (b.cch, 1200, .inl uh1.ch)), (b.pva, .inl (b.cva, 8, .inl uh1.va)), (b.pou, .inl (b.cou, 60, .inl uh1.ou)), (b.ptx, .inl (b.ctx, 15, .inl uh1.tx)), (b.pnb, .inl (b.cnb, 16, .inl uh1.nb)), (b.psg, .inl (b.csg, 16, .inl uh1.sg)), (b.pwh, .inl (b.cwh, 6, .inl uh1.wh)), (b.pce, .inl (b.cce, 96, .inl uh1.ce))] := hD
        have hK : va_K (dC, dI) cls [(b.cdk, .int), (b.cln, .int), (b.cch, .int), (b.cva, .int), (b.cou, .int), (b.ctx, .int), (b.cnb, .int), (b.csg, .int), (b.cwh, .int), (b.cce, .int)] s := hK
        refine W.widen (k := cells) (n := slots) (Nat.le_refl _) (Nat.le_refl _) ?_
        obtain ⟨e1h, e2h⟩ := ph1
        have hP : va_P (dC, dI) cls [(b.r0, .inr (5, [.int M.th, .ref b.pdk, .int M.ar, .int M.de, .int M.wr, .ref b.pln, .ref b.pch, .ref b.pva, .int M.nx, .int (nI M.os), .ref b.pou, .int (nI M.tn), .ref b.ptx, .int M.ol, .int (nI M.fm), .int (nI M.at1), .int (nI M.en), .int M.go, .int (nI M.nn), .ref b.pnb, .int (nI M.sn), .ref b.psg, .int (nI M.my), .ref b.pwh, .ref b.pce])), (b.pdk, .inl (b.cdk, 512, .inl M.dk)), (b.pln, .inl (b.cln, 100, .inl M.ln)), (b.pch, .inl (b.cch, 1200, .inl M.ch)), (b.pva, .inl (b.cva, 8, .inl M.va)), (b.pou, .inl (b.cou, 60, .inl M.ou)), (b.ptx, .inl (b.ctx, 15, .inl M.tx)), (b.pnb, .inl (b.cnb, 16, .inl M.nb)), (b.psg, .inl (b.csg, 16, .inl M.sg)), (b.pwh, .inl (b.cwh, 6, .inl M.wh)), (b.pce, .inl (b.cce, 96, .inl M.ce))] H := by rw [← e2h]; exact hP
        have hD : va_D A [(b.r0, .inr (5, [.int M.th, .ref b.pdk, .int M.ar, .int M.de, .int M.wr, .ref b.pln, .ref b.pch, .ref b.pva, .int M.nx, .int (nI M.os), .ref b.pou, .int (nI M.tn), .ref b.ptx, .int M.ol, .int (nI M.fm), .int (nI M.at1), .int (nI M.en), .int M.go, .int (nI M.nn), .ref b.pnb, .int (nI M.sn), .ref b.psg, .int (nI M.my), .ref b.pwh, .ref b.pce])), (b.pdk, .inl (b.cdk, 512, .inl M.dk)), (b.pln, .inl (b.cln, 100, .inl M.ln)), (b.pch, .inl (b.cch, 1200, .inl M.ch)), (b.pva, .inl (b.cva, 8, .inl M.va)), (b.pou, .inl (b.cou, 60, .inl M.ou)), (b.ptx, .inl (b.ctx, 15, .inl M.tx)), (b.pnb, .inl (b.cnb, 16, .inl M.nb)), (b.psg, .inl (b.csg, 16, .inl M.sg)), (b.pwh, .inl (b.cwh, 6, .inl M.wh)), (b.pce, .inl (b.cce, 96, .inl M.ce))] := by rw [← e2h]; exact hD
        subst e1h
        refine lv_istore hx hb d_Mo_value_31 hl (by decide) rfl (fun ls hl => ?_)
        have hl : lv_has ls 6 [(4, .int (hrF M)), (3, .int m9), (2, .int w9), (1, .int (nI o9)), (0, .ref b.r0)] := hl
        refine lv_iload_n hx hb d_Mo_value_33 rfl (lv_at hl 2 rfl) ?_
        refine lv_if_eq (tgt := 70) hx hb d_Mo_value_34 (by decide) (fun c34 => ?_) (fun c34 => ?_)
        · skip
          refine lv_iload hx hb d_Mo_value_70 (lv_at hl 0 rfl) ?_
          refine go_i (wr := [(b.r0, .inr (5, [.int M.th, .ref b.pdk, .int M.ar, .int M.de, .int M.wr, .ref b.pln, .ref b.pch, .ref b.pva, .int M.nx, .int (nI M.os), .ref b.pou, .int (nI M.tn), .ref b.ptx, .int M.ol, .int (nI M.fm), .int (nI M.at1), .int (nI M.en), .int M.go, .int (nI M.nn), .ref b.pnb, .int (nI M.sn), .ref b.psg, .int (nI M.my), .ref b.pwh, .ref b.pce])), (b.pdk, .inl (b.cdk, 512, .inl M.dk)), (b.pln, .inl (b.cln, 100, .inl M.ln)), (b.pch, .inl (b.cch, 1200, .inl M.ch)), (b.pva, .inl (b.cva, 8, .inl M.va)), (b.pou, .inl (b.cou, 60, .inl M.ou)), (b.ptx, .inl (b.ctx, 15, .inl M.tx)), (b.pnb, .inl (b.cnb, 16, .inl M.nb)), (b.psg, .inl (b.csg, 16, .inl M.sg)), (b.pwh, .inl (b.cwh, 6, .inl M.wh)), (b.pce, .inl (b.cce, 96, .inl M.ce))]) (tr := [(b.cdk, .int), (b.cln, .int), (b.cch, .int), (b.cva, .int), (b.cou, .int), (b.ctx, .int), (b.cnb, .int), (b.csg, .int), (b.cwh, .int), (b.cce, .int)]) (rS (n := 1) (As := [.int (hrF M)]) (rest := []) F hkw (g_Mo_level l dC dI (hrF M) H.size) xT_bl (fun _ _ _ => trivial) w_731 w_732 w_6 w_733 rfl rfl (by decide +kernel) ⟨Nat.le_trans (by decide) hRf, Nat.le_trans (by decide) hRl⟩ (hP.sub (ws' := []) [] rfl) (hD.sub (ws' := []) [] (by decide) rfl) (hK.sub (tys' := []) [] rfl) rfl hl.1 rfl (Nat.le_of_ble_eq_true rfl) d_Mo_value_72 ⟨hRc, hRs⟩) hP hD hK hS hA [] [0, 1, 2, 3, 4, 5, 6, 7, 8, 9, 10] [0, 1, 2, 3, 4, 5, 6, 7, 8, 9] rfl rfl (by decide) (by decide) rfl (fun r u H locs hw hP hD hK hS => ?_)
          have hP : va_P (dC, dI) cls [(b.r0, .inr (5, [.int M.th, .ref b.pdk, .int M.ar, .int M.de, .int M.wr, .ref b.pln, .ref b.pch, .ref b.pva, .int M.nx, .int (nI M.os), .ref b.pou, .int (nI M.tn), .ref b.ptx, .int M.ol, .int (nI M.fm), .int (nI M.at1), .int (nI M.en), .int M.go, .int (nI M.nn), .ref b.pnb, .int (nI M.sn), .ref b.psg, .int (nI M.my), .ref b.pwh, .ref b.pce])), (b.pdk, .inl (b.cdk, 512, .inl M.dk)), (b.pln, .inl (b.cln, 100, .inl M.ln)), (b.pch, .inl (b.cch, 1200, .inl M.ch)), (b.pva, .inl (b.cva, 8, .inl M.va)), (b.pou, .inl (b.cou, 60, .inl M.ou)), (b.ptx, .inl (b.ctx, 15, .inl M.tx)), (b.pnb, .inl (b.cnb, 16, .inl M.nb)), (b.psg, .inl (b.csg, 16, .inl M.sg)), (b.pwh, .inl (b.cwh, 6, .inl M.wh)), (b.pce, .inl (b.cce, 96, .inl M.ce))] H := hP
          have hD : va_D A [(b.r0, .inr (5, [.int M.th, .ref b.pdk, .int M.ar, .int M.de, .int M.wr, .ref b.pln, .ref b.pch, .ref b.pva, .int M.nx, .int (nI M.os), .ref b.pou, .int (nI M.tn), .ref b.ptx, .int M.ol, .int (nI M.fm), .int (nI M.at1), .int (nI M.en), .int M.go, .int (nI M.nn), .ref b.pnb, .int (nI M.sn), .ref b.psg, .int (nI M.my), .ref b.pwh, .ref b.pce])), (b.pdk, .inl (b.cdk, 512, .inl M.dk)), (b.pln, .inl (b.cln, 100, .inl M.ln)), (b.pch, .inl (b.cch, 1200, .inl M.ch)), (b.pva, .inl (b.cva, 8, .inl M.va)), (b.pou, .inl (b.cou, 60, .inl M.ou)), (b.ptx, .inl (b.ctx, 15, .inl M.tx)), (b.pnb, .inl (b.cnb, 16, .inl M.nb)), (b.psg, .inl (b.csg, 16, .inl M.sg)), (b.pwh, .inl (b.cwh, 6, .inl M.wh)), (b.pce, .inl (b.cce, 96, .inl M.ce))] := hD
          have hK : va_K (dC, dI) cls [(b.cdk, .int), (b.cln, .int), (b.cch, .int), (b.cva, .int), (b.cou, .int), (b.ctx, .int), (b.cnb, .int), (b.csg, .int), (b.cwh, .int), (b.cce, .int)] s := hK
          refine W.widen (k := cells) (n := slots) (Nat.le_refl _) (Nat.le_refl _) ?_
          subst hw
          refine lv_if_le (tgt := 150) hx hb d_Mo_value_75 (by decide) (fun c75 => ?_) (fun c75 => ?_)
          · skip
            refine lv_iload hx hb d_Mo_value_150 (lv_at hl 0 rfl) ?_
            refine lv_bipush (v := 41) hx hb d_Mo_value_152 (by decide) ?_
            refine lv_icmp_ne (tgt := 210) hx hb d_Mo_value_154 (by decide) (fun c154 => ?_) (fun c154 => ?_)
            · skip
              refine lv_iconst (v := 0) hx hb d_Mo_value_210 (by decide) ?_
              refine lv_istore_n (i := 3) hx hb d_Mo_value_211 rfl hl (by decide) rfl (fun ls hl => ?_)
              have hl : lv_has ls 6 [(3, .int 0), (4, .int (hrF M)), (2, .int w9), (1, .int (nI o9)), (0, .ref b.r0)] := hl
              refine lv_goto (tgt := 16) hx hb d_Mo_value_212 (by decide) ?_
              exact ih (k + 1) (by omega) ls _ _ M o9 w9 0 (lv_sub hl [0, 2, 3, 4] rfl) (hP.sub [0, 1, 2, 3, 4, 5, 6, 7, 8, 9, 10] rfl) (hD.sub [0, 1, 2, 3, 4, 5, 6, 7, 8, 9, 10] (by decide) rfl) hS (⟨by rw [hf, if_neg c17, if_neg c24, if_pos c34, if_pos c75, if_pos c154, show 20 - (k + 1) = f9 by omega], hrb, hvi, fun _ => c34, fun g => absurd rfl g⟩)
            · skip
              refine lv_iload_n hx hb d_Mo_value_157 rfl (lv_at hl 3 rfl) ?_
              refine lv_if_le (tgt := 210) hx hb d_Mo_value_158 (by decide) (fun c158 => ?_) (fun c158 => ?_)
              · skip
                refine lv_iconst (v := 0) hx hb d_Mo_value_210 (by decide) ?_
                refine lv_istore_n (i := 3) hx hb d_Mo_value_211 rfl hl (by decide) rfl (fun ls hl => ?_)
                have hl : lv_has ls 6 [(3, .int 0), (4, .int (hrF M)), (2, .int w9), (1, .int (nI o9)), (0, .ref b.r0)] := hl
                refine lv_goto (tgt := 16) hx hb d_Mo_value_212 (by decide) ?_
                exact ih (k + 1) (by omega) ls _ _ M o9 w9 0 (lv_sub hl [0, 2, 3, 4] rfl) (hP.sub [0, 1, 2, 3, 4, 5, 6, 7, 8, 9, 10] rfl) (hD.sub [0, 1, 2, 3, 4, 5, 6, 7, 8, 9, 10] (by decide) rfl) hS (⟨by rw [hf, if_neg c17, if_neg c24, if_pos c34, if_pos c75, if_neg (fun g => g c154), if_pos c158, show 20 - (k + 1) = f9 by omega], hrb, hvi, fun _ => c34, fun g => absurd rfl g⟩)
              · skip
                have hv := hvi c24
                rw [c34] at hv
                have ho9 : 0 < o9 := by rcases Nat.eq_zero_or_pos o9 with g | g; exact absurd (by rw [g]; decide) c158; exact g
                refine lp_Mo_value3 hx hb hml hts hown hkw hA b M m1 o9 (hrF M) m9 w9 ho9 hK (Nat.le_trans (by decide) hRf) (Nat.le_trans (by decide) hRl) hRc hRs (fun _ _ ls H locs M2 hl hP hD hS hf2 => ?_) M.sn 0 (by omega) ls _ _ M (lv_sub hl [0, 1, 2, 3, 4] rfl) hP hD hS ⟨rfl, rfl, hrb, hv⟩
                obtain ⟨hf2, hr2, hv2, ht2⟩ := hf2
                have hvb := VI_b hv2
                have hs2 := rdP_sp M.sn M
                rw [← hf2] at hs2
                have hl2 := hr_lt (Y := M) (by rw [c154]; decide)
                have hos := hv2.2.1
                refine lv_aload_n hx hb d_Mo_value_184 rfl (lv_at hl 4 rfl) ?_
                refine lv_dup hx hb d_Mo_value_185 rfl ?_
                refine va_get (D := (dC, dI)) (ci := 5) (v := .int (nI M2.sn)) (C := R_Mo) (T := F_Mo) (N := 25) hx hb hts in_Mo hown hK hP 0 rfl rfl 20 (by decide) (hts _ w_613) (fun _ h9 => h9) rfl d_Mo_value_186 ?_
                refine lv_iconst (v := 1) hx hb d_Mo_value_189 (by decide) ?_
                refine lv_isub hx hb d_Mo_value_190 ?_
                refine tv (x2 := nI (M2.sn - 1)) (by exact pk_sub (b := 1) (by omega)) ?_
                refine va_put (D := (dC, dI)) (ci := 5) (v := .int (nI (M2.sn - 1))) (ty := .int) (C := R_Mo) (T := F_Mo) (N := 25) hx hb hts in_Mo t_Mo t_Mo_ok n_Mo hown hK hP hD hS 0 rfl rfl 20 (by decide) (hts _ w_613) (fun _ h9 => h9) rfl (by decide +kernel) (rfl) (rfl) (Nat.le_of_ble_eq_true rfl) d_Mo_value_191 (fun H locs hP hD hS => ?_)
                have hP : va_P (dC, dI) cls [(b.r0, .inr (5, [.int M2.th, .ref b.pdk, .int M2.ar, .int M2.de, .int M2.wr, .ref b.pln, .ref b.pch, .ref b.pva, .int M2.nx, .int (nI M2.os), .ref b.pou, .int (nI M2.tn), .ref b.ptx, .int M2.ol, .int (nI M2.fm), .int (nI M2.at1), .int (nI M2.en), .int M2.go, .int (nI M2.nn), .ref b.pnb, .int (nI (M2.sn - 1)), .ref b.psg, .int (nI M2.my), .ref b.pwh, .ref b.pce])), (b.pdk, .inl (b.cdk, 512, .inl M2.dk)), (b.pln, .inl (b.cln, 100, .inl M2.ln)), (b.pch, .inl (b.cch, 1200, .inl M2.ch)), (b.pva, .inl (b.cva, 8, .inl M2.va)), (b.pou, .inl (b.cou, 60, .inl M2.ou)), (b.ptx, .inl (b.ctx, 15, .inl M2.tx)), (b.pnb, .inl (b.cnb, 16, .inl M2.nb)), (b.psg, .inl (b.csg, 16, .inl M2.sg)), (b.pwh, .inl (b.cwh, 6, .inl M2.wh)), (b.pce, .inl (b.cce, 96, .inl M2.ce))] H := hP
                have hD : va_D A [(b.r0, .inr (5, [.int M2.th, .ref b.pdk, .int M2.ar, .int M2.de, .int M2.wr, .ref b.pln, .ref b.pch, .ref b.pva, .int M2.nx, .int (nI M2.os), .ref b.pou, .int (nI M2.tn), .ref b.ptx, .int M2.ol, .int (nI M2.fm), .int (nI M2.at1), .int (nI M2.en), .int M2.go, .int (nI M2.nn), .ref b.pnb, .int (nI (M2.sn - 1)), .ref b.psg, .int (nI M2.my), .ref b.pwh, .ref b.pce])), (b.pdk, .inl (b.cdk, 512, .inl M2.dk)), (b.pln, .inl (b.cln, 100, .inl M2.ln)), (b.pch, .inl (b.cch, 1200, .inl M2.ch)), (b.pva, .inl (b.cva, 8, .inl M2.va)), (b.pou, .inl (b.cou, 60, .inl M2.ou)), (b.ptx, .inl (b.ctx, 15, .inl M2.tx)), (b.pnb, .inl (b.cnb, 16, .inl M2.nb)), (b.psg, .inl (b.csg, 16, .inl M2.sg)), (b.pwh, .inl (b.cwh, 6, .inl M2.wh)), (b.pce, .inl (b.cce, 96, .inl M2.ce))] := hD
                refine lv_iinc (k := 3) (v := nI (o9 - 1)) hx hb d_Mo_value_194 hl rfl (dec1 ho9) (by decide) rfl (fun ls hl => ?_)
                have hl : lv_has ls 6 [(1, .int (nI (o9 - 1))), (4, .int (hrF M)), (3, .int m9), (2, .int w9), (0, .ref b.r0)] := hl
                refine lv_aload_n hx hb d_Mo_value_197 rfl (lv_at hl 4 rfl) ?_
                refine lv_dup hx hb d_Mo_value_198 rfl ?_
                refine va_get (D := (dC, dI)) (ci := 5) (v := .int (nI M2.at1)) (C := R_Mo) (T := F_Mo) (N := 25) hx hb hts in_Mo hown hK hP 0 rfl rfl 15 (by decide) (hts _ w_608) (fun _ h9 => h9) rfl d_Mo_value_199 ?_
                refine lv_iconst (v := 1) hx hb d_Mo_value_202 (by decide) ?_
                refine lv_iadd hx hb d_Mo_value_203 ?_
                refine tv (x2 := nI (M2.at1 + 1)) (by exact nI_1 _) ?_
                refine va_put (D := (dC, dI)) (ci := 5) (v := .int (nI (M2.at1 + 1))) (ty := .int) (C := R_Mo) (T := F_Mo) (N := 25) hx hb hts in_Mo t_Mo t_Mo_ok n_Mo hown hK hP hD hS 0 rfl rfl 15 (by decide) (hts _ w_608) (fun _ h9 => h9) rfl (by decide +kernel) (rfl) (rfl) (Nat.le_of_ble_eq_true rfl) d_Mo_value_204 (fun H locs hP hD hS => ?_)
                have hP : va_P (dC, dI) cls [(b.r0, .inr (5, [.int M2.th, .ref b.pdk, .int M2.ar, .int M2.de, .int M2.wr, .ref b.pln, .ref b.pch, .ref b.pva, .int M2.nx, .int (nI M2.os), .ref b.pou, .int (nI M2.tn), .ref b.ptx, .int M2.ol, .int (nI M2.fm), .int (nI (M2.at1 + 1)), .int (nI M2.en), .int M2.go, .int (nI M2.nn), .ref b.pnb, .int (nI (M2.sn - 1)), .ref b.psg, .int (nI M2.my), .ref b.pwh, .ref b.pce])), (b.pdk, .inl (b.cdk, 512, .inl M2.dk)), (b.pln, .inl (b.cln, 100, .inl M2.ln)), (b.pch, .inl (b.cch, 1200, .inl M2.ch)), (b.pva, .inl (b.cva, 8, .inl M2.va)), (b.pou, .inl (b.cou, 60, .inl M2.ou)), (b.ptx, .inl (b.ctx, 15, .inl M2.tx)), (b.pnb, .inl (b.cnb, 16, .inl M2.nb)), (b.psg, .inl (b.csg, 16, .inl M2.sg)), (b.pwh, .inl (b.cwh, 6, .inl M2.wh)), (b.pce, .inl (b.cce, 96, .inl M2.ce))] H := hP
                have hD : va_D A [(b.r0, .inr (5, [.int M2.th, .ref b.pdk, .int M2.ar, .int M2.de, .int M2.wr, .ref b.pln, .ref b.pch, .ref b.pva, .int M2.nx, .int (nI M2.os), .ref b.pou, .int (nI M2.tn), .ref b.ptx, .int M2.ol, .int (nI M2.fm), .int (nI (M2.at1 + 1)), .int (nI M2.en), .int M2.go, .int (nI M2.nn), .ref b.pnb, .int (nI (M2.sn - 1)), .ref b.psg, .int (nI M2.my), .ref b.pwh, .ref b.pce])), (b.pdk, .inl (b.cdk, 512, .inl M2.dk)), (b.pln, .inl (b.cln, 100, .inl M2.ln)), (b.pch, .inl (b.cch, 1200, .inl M2.ch)), (b.pva, .inl (b.cva, 8, .inl M2.va)), (b.pou, .inl (b.cou, 60, .inl M2.ou)), (b.ptx, .inl (b.ctx, 15, .inl M2.tx)), (b.pnb, .inl (b.cnb, 16, .inl M2.nb)), (b.psg, .inl (b.csg, 16, .inl M2.sg)), (b.pwh, .inl (b.cwh, 6, .inl M2.wh)), (b.pce, .inl (b.cce, 96, .inl M2.ce))] := hD
                obtain ⟨M3, hM3⟩ : ∃ L9 : RSt, L9 = cpF M2 := ⟨_, rfl⟩
                have hP : va_P (dC, dI) cls [(b.r0, .inr (5, [.int M3.th, .ref b.pdk, .int M3.ar, .int M3.de, .int M3.wr, .ref b.pln, .ref b.pch, .ref b.pva, .int M3.nx, .int (nI M3.os), .ref b.pou, .int (nI M3.tn), .ref b.ptx, .int M3.ol, .int (nI M3.fm), .int (nI M3.at1), .int (nI M3.en), .int M3.go, .int (nI M3.nn), .ref b.pnb, .int (nI M3.sn), .ref b.psg, .int (nI M3.my), .ref b.pwh, .ref b.pce])), (b.pdk, .inl (b.cdk, 512, .inl M3.dk)), (b.pln, .inl (b.cln, 100, .inl M3.ln)), (b.pch, .inl (b.cch, 1200, .inl M3.ch)), (b.pva, .inl (b.cva, 8, .inl M3.va)), (b.pou, .inl (b.cou, 60, .inl M3.ou)), (b.ptx, .inl (b.ctx, 15, .inl M3.tx)), (b.pnb, .inl (b.cnb, 16, .inl M3.nb)), (b.psg, .inl (b.csg, 16, .inl M3.sg)), (b.pwh, .inl (b.cwh, 6, .inl M3.wh)), (b.pce, .inl (b.cce, 96, .inl M3.ce))] H := by rw [hM3]; exact hP.sub [0, 1, 2, 3, 4, 5, 6, 7, 8, 9, 10] rfl
                have hD : va_D A [(b.r0, .inr (5, [.int M3.th, .ref b.pdk, .int M3.ar, .int M3.de, .int M3.wr, .ref b.pln, .ref b.pch, .ref b.pva, .int M3.nx, .int (nI M3.os), .ref b.pou, .int (nI M3.tn), .ref b.ptx, .int M3.ol, .int (nI M3.fm), .int (nI M3.at1), .int (nI M3.en), .int M3.go, .int (nI M3.nn), .ref b.pnb, .int (nI M3.sn), .ref b.psg, .int (nI M3.my), .ref b.pwh, .ref b.pce])), (b.pdk, .inl (b.cdk, 512, .inl M3.dk)), (b.pln, .inl (b.cln, 100, .inl M3.ln)), (b.pch, .inl (b.cch, 1200, .inl M3.ch)), (b.pva, .inl (b.cva, 8, .inl M3.va)), (b.pou, .inl (b.cou, 60, .inl M3.ou)), (b.ptx, .inl (b.ctx, 15, .inl M3.tx)), (b.pnb, .inl (b.cnb, 16, .inl M3.nb)), (b.psg, .inl (b.csg, 16, .inl M3.sg)), (b.pwh, .inl (b.cwh, 6, .inl M3.wh)), (b.pce, .inl (b.cce, 96, .inl M3.ce))] := by rw [hM3]; exact hD.sub [0, 1, 2, 3, 4, 5, 6, 7, 8, 9, 10] (by decide) rfl
                refine lv_goto (tgt := 212) hx hb d_Mo_value_207 (by decide) ?_
                refine lv_goto (tgt := 16) hx hb d_Mo_value_212 (by decide) ?_
                exact ih (k + 1) (by omega) ls _ _ M3 (o9 - 1) w9 m9 (lv_sub hl [2, 3, 0, 4] rfl) (hP.sub [0, 1, 2, 3, 4, 5, 6, 7, 8, 9, 10] rfl) (hD.sub [0, 1, 2, 3, 4, 5, 6, 7, 8, 9, 10] (by decide) rfl) hS (⟨by rw [hf, if_neg c17, if_neg c24, if_pos c34, if_pos c75, if_neg (fun g => g c154), if_neg c158, ← hf2, show 20 - (k + 1) = f9 by omega, hM3], by rw [hM3]; exact ⟨by show M2.at1 + 1 ≤ m1; rw [hs2.1]; exact Nat.le_trans hl2 hrb.2.1, hr2.2⟩, fun _ => by rw [hM3, c34]; exact VI_cp hv2 ho9 ht2 (by rw [hs2.1, hs2.2.1]; exact hl2), fun g => absurd g c17, fun _ _ => by have h1 := hms c17 c24; rw [hM3]; show M2.en - (M2.at1 + 1) + 2 + (k + 1) ≤ 20; rw [hs2.1, hs2.2.1]; omega⟩)
          · skip
            have hv := hvi c24
            rw [c34] at hv
            refine lp_Mo_value2 hx hb hml hts hown hkw hA b M m1 o9 (hrF M) m9 w9 c75 hK (Nat.le_trans (by decide) hRf) (Nat.le_trans (by decide) hRl) hRc hRs (fun _ _ ls H locs M2 hl hP hD hS hf2 => ?_) M.sn 0 (by omega) ls _ _ M (lv_sub hl [0, 1, 2, 3, 4] rfl) hP hD hS ⟨rfl, rfl, hrb, hv⟩
            obtain ⟨hf2, hr2, hv2⟩ := hf2
            have hvb := VI_b hv2
            have hs2 := rdL_sp M.sn (hrF M) M
            rw [← hf2] at hs2
            have hl2 := hr_lt (lv_n1 c75)
            refine lv_aload_n hx hb d_Mo_value_114 rfl (lv_at hl 4 rfl) ?_
            refine va_get (D := (dC, dI)) (ci := 5) (v := .ref b.psg) (C := R_Mo) (T := F_Mo) (N := 25) hx hb hts in_Mo hown hK hP 0 rfl rfl 21 (by decide) (hts _ w_614) (fun _ h9 => h9) rfl d_Mo_value_115 ?_
            refine lv_aload_n hx hb d_Mo_value_118 rfl (lv_at hl 4 rfl) ?_
            refine va_get (D := (dC, dI)) (ci := 5) (v := .int (nI M2.sn)) (C := R_Mo) (T := F_Mo) (N := 25) hx hb hts in_Mo hown hK hP 0 rfl rfl 20 (by decide) (hts _ w_613) (fun _ h9 => h9) rfl d_Mo_value_119 ?_
            refine lv_iload hx hb d_Mo_value_122 (lv_at hl 0 rfl) ?_
            refine va_iast hx hb hK hP hD hS 8 7 rfl rfl (vp_in_nI (by omega) (by decide)) d_Mo_value_124 (fun H locs hP hD hS => ?_)
            have hP : va_P (dC, dI) cls [(b.r0, .inr (5, [.int M2.th, .ref b.pdk, .int M2.ar, .int M2.de, .int M2.wr, .ref b.pln, .ref b.pch, .ref b.pva, .int M2.nx, .int (nI M2.os), .ref b.pou, .int (nI M2.tn), .ref b.ptx, .int M2.ol, .int (nI M2.fm), .int (nI M2.at1), .int (nI M2.en), .int M2.go, .int (nI M2.nn), .ref b.pnb, .int (nI M2.sn), .ref b.psg, .int (nI M2.my), .ref b.pwh, .ref b.pce])), (b.pdk, .inl (b.cdk, 512, .inl M2.dk)), (b.pln, .inl (b.cln, 100, .inl M2.ln)), (b.pch, .inl (b.cch, 1200, .inl M2.ch)), (b.pva, .inl (b.cva, 8, .inl M2.va)), (b.pou, .inl (b.cou, 60, .inl M2.ou)), (b.ptx, .inl (b.ctx, 15, .inl M2.tx)), (b.pnb, .inl (b.cnb, 16, .inl M2.nb)), (b.psg, .inl (b.csg, 16, .inl (upd M2.sg (nI M2.sn : Int32).toNatClampNeg (hrF M)))), (b.pwh, .inl (b.cwh, 6, .inl M2.wh)), (b.pce, .inl (b.cce, 96, .inl M2.ce))] H := hP
            have hD : va_D A [(b.r0, .inr (5, [.int M2.th, .ref b.pdk, .int M2.ar, .int M2.de, .int M2.wr, .ref b.pln, .ref b.pch, .ref b.pva, .int M2.nx, .int (nI M2.os), .ref b.pou, .int (nI M2.tn), .ref b.ptx, .int M2.ol, .int (nI M2.fm), .int (nI M2.at1), .int (nI M2.en), .int M2.go, .int (nI M2.nn), .ref b.pnb, .int (nI M2.sn), .ref b.psg, .int (nI M2.my), .ref b.pwh, .ref b.pce])), (b.pdk, .inl (b.cdk, 512, .inl M2.dk)), (b.pln, .inl (b.cln, 100, .inl M2.ln)), (b.pch, .inl (b.cch, 1200, .inl M2.ch)), (b.pva, .inl (b.cva, 8, .inl M2.va)), (b.pou, .inl (b.cou, 60, .inl M2.ou)), (b.ptx, .inl (b.ctx, 15, .inl M2.tx)), (b.pnb, .inl (b.cnb, 16, .inl M2.nb)), (b.psg, .inl (b.csg, 16, .inl (upd M2.sg (nI M2.sn : Int32).toNatClampNeg (hrF M)))), (b.pwh, .inl (b.cwh, 6, .inl M2.wh)), (b.pce, .inl (b.cce, 96, .inl M2.ce))] := hD
            rw [nI_clamp (show M2.sn < 2 ^ 31 by omega)] at hP hD
            have hP : va_P (dC, dI) cls [(b.r0, .inr (5, [.int M2.th, .ref b.pdk, .int M2.ar, .int M2.de, .int M2.wr, .ref b.pln, .ref b.pch, .ref b.pva, .int M2.nx, .int (nI M2.os), .ref b.pou, .int (nI M2.tn), .ref b.ptx, .int M2.ol, .int (nI M2.fm), .int (nI M2.at1), .int (nI M2.en), .int M2.go, .int (nI M2.nn), .ref b.pnb, .int (nI M2.sn), .ref b.psg, .int (nI M2.my), .ref b.pwh, .ref b.pce])), (b.pdk, .inl (b.cdk, 512, .inl M2.dk)), (b.pln, .inl (b.cln, 100, .inl M2.ln)), (b.pch, .inl (b.cch, 1200, .inl M2.ch)), (b.pva, .inl (b.cva, 8, .inl M2.va)), (b.pou, .inl (b.cou, 60, .inl M2.ou)), (b.ptx, .inl (b.ctx, 15, .inl M2.tx)), (b.pnb, .inl (b.cnb, 16, .inl M2.nb)), (b.psg, .inl (b.csg, 16, .inl (upd M2.sg M2.sn (hrF M)))), (b.pwh, .inl (b.cwh, 6, .inl M2.wh)), (b.pce, .inl (b.cce, 96, .inl M2.ce))] H := hP
            have hD : va_D A [(b.r0, .inr (5, [.int M2.th, .ref b.pdk, .int M2.ar, .int M2.de, .int M2.wr, .ref b.pln, .ref b.pch, .ref b.pva, .int M2.nx, .int (nI M2.os), .ref b.pou, .int (nI M2.tn), .ref b.ptx, .int M2.ol, .int (nI M2.fm), .int (nI M2.at1), .int (nI M2.en), .int M2.go, .int (nI M2.nn), .ref b.pnb, .int (nI M2.sn), .ref b.psg, .int (nI M2.my), .ref b.pwh, .ref b.pce])), (b.pdk, .inl (b.cdk, 512, .inl M2.dk)), (b.pln, .inl (b.cln, 100, .inl M2.ln)), (b.pch, .inl (b.cch, 1200, .inl M2.ch)), (b.pva, .inl (b.cva, 8, .inl M2.va)), (b.pou, .inl (b.cou, 60, .inl M2.ou)), (b.ptx, .inl (b.ctx, 15, .inl M2.tx)), (b.pnb, .inl (b.cnb, 16, .inl M2.nb)), (b.psg, .inl (b.csg, 16, .inl (upd M2.sg M2.sn (hrF M)))), (b.pwh, .inl (b.cwh, 6, .inl M2.wh)), (b.pce, .inl (b.cce, 96, .inl M2.ce))] := hD
            refine lv_aload_n hx hb d_Mo_value_125 rfl (lv_at hl 4 rfl) ?_
            refine lv_dup hx hb d_Mo_value_126 rfl ?_
            refine va_get (D := (dC, dI)) (ci := 5) (v := .int (nI M2.sn)) (C := R_Mo) (T := F_Mo) (N := 25) hx hb hts in_Mo hown hK hP 0 rfl rfl 20 (by decide) (hts _ w_613) (fun _ h9 => h9) rfl d_Mo_value_127 ?_
            refine lv_iconst (v := 1) hx hb d_Mo_value_130 (by decide) ?_
            refine lv_iadd hx hb d_Mo_value_131 ?_
            refine tv (x2 := nI (M2.sn + 1)) (by exact nI_1 _) ?_
            refine va_put (D := (dC, dI)) (ci := 5) (v := .int (nI (M2.sn + 1))) (ty := .int) (C := R_Mo) (T := F_Mo) (N := 25) hx hb hts in_Mo t_Mo t_Mo_ok n_Mo hown hK hP hD hS 0 rfl rfl 20 (by decide) (hts _ w_613) (fun _ h9 => h9) rfl (by decide +kernel) (rfl) (rfl) (Nat.le_of_ble_eq_true rfl) d_Mo_value_132 (fun H locs hP hD hS => ?_)
            have hP : va_P (dC, dI) cls [(b.r0, .inr (5, [.int M2.th, .ref b.pdk, .int M2.ar, .int M2.de, .int M2.wr, .ref b.pln, .ref b.pch, .ref b.pva, .int M2.nx, .int (nI M2.os), .ref b.pou, .int (nI M2.tn), .ref b.ptx, .int M2.ol, .int (nI M2.fm), .int (nI M2.at1), .int (nI M2.en), .int M2.go, .int (nI M2.nn), .ref b.pnb, .int (nI (M2.sn + 1)), .ref b.psg, .int (nI M2.my), .ref b.pwh, .ref b.pce])), (b.pdk, .inl (b.cdk, 512, .inl M2.dk)), (b.pln, .inl (b.cln, 100, .inl M2.ln)), (b.pch, .inl (b.cch, 1200, .inl M2.ch)), (b.pva, .inl (b.cva, 8, .inl M2.va)), (b.pou, .inl (b.cou, 60, .inl M2.ou)), (b.ptx, .inl (b.ctx, 15, .inl M2.tx)), (b.pnb, .inl (b.cnb, 16, .inl M2.nb)), (b.psg, .inl (b.csg, 16, .inl (upd M2.sg M2.sn (hrF M)))), (b.pwh, .inl (b.cwh, 6, .inl M2.wh)), (b.pce, .inl (b.cce, 96, .inl M2.ce))] H := hP
            have hD : va_D A [(b.r0, .inr (5, [.int M2.th, .ref b.pdk, .int M2.ar, .int M2.de, .int M2.wr, .ref b.pln, .ref b.pch, .ref b.pva, .int M2.nx, .int (nI M2.os), .ref b.pou, .int (nI M2.tn), .ref b.ptx, .int M2.ol, .int (nI M2.fm), .int (nI M2.at1), .int (nI M2.en), .int M2.go, .int (nI M2.nn), .ref b.pnb, .int (nI (M2.sn + 1)), .ref b.psg, .int (nI M2.my), .ref b.pwh, .ref b.pce])), (b.pdk, .inl (b.cdk, 512, .inl M2.dk)), (b.pln, .inl (b.cln, 100, .inl M2.ln)), (b.pch, .inl (b.cch, 1200, .inl M2.ch)), (b.pva, .inl (b.cva, 8, .inl M2.va)), (b.pou, .inl (b.cou, 60, .inl M2.ou)), (b.ptx, .inl (b.ctx, 15, .inl M2.tx)), (b.pnb, .inl (b.cnb, 16, .inl M2.nb)), (b.psg, .inl (b.csg, 16, .inl (upd M2.sg M2.sn (hrF M)))), (b.pwh, .inl (b.cwh, 6, .inl M2.wh)), (b.pce, .inl (b.cce, 96, .inl M2.ce))] := hD
            refine lv_aload_n hx hb d_Mo_value_135 rfl (lv_at hl 4 rfl) ?_
            refine lv_dup hx hb d_Mo_value_136 rfl ?_
            refine va_get (D := (dC, dI)) (ci := 5) (v := .int (nI M2.at1)) (C := R_Mo) (T := F_Mo) (N := 25) hx hb hts in_Mo hown hK hP 0 rfl rfl 15 (by decide) (hts _ w_608) (fun _ h9 => h9) rfl d_Mo_value_137 ?_
            refine lv_iconst (v := 1) hx hb d_Mo_value_140 (by decide) ?_
            refine lv_iadd hx hb d_Mo_value_141 ?_
            refine tv (x2 := nI (M2.at1 + 1)) (by exact nI_1 _) ?_
            refine va_put (D := (dC, dI)) (ci := 5) (v := .int (nI (M2.at1 + 1))) (ty := .int) (C := R_Mo) (T := F_Mo) (N := 25) hx hb hts in_Mo t_Mo t_Mo_ok n_Mo hown hK hP hD hS 0 rfl rfl 15 (by decide) (hts _ w_608) (fun _ h9 => h9) rfl (by decide +kernel) (rfl) (rfl) (Nat.le_of_ble_eq_true rfl) d_Mo_value_142 (fun H locs hP hD hS => ?_)
            have hP : va_P (dC, dI) cls [(b.r0, .inr (5, [.int M2.th, .ref b.pdk, .int M2.ar, .int M2.de, .int M2.wr, .ref b.pln, .ref b.pch, .ref b.pva, .int M2.nx, .int (nI M2.os), .ref b.pou, .int (nI M2.tn), .ref b.ptx, .int M2.ol, .int (nI M2.fm), .int (nI (M2.at1 + 1)), .int (nI M2.en), .int M2.go, .int (nI M2.nn), .ref b.pnb, .int (nI (M2.sn + 1)), .ref b.psg, .int (nI M2.my), .ref b.pwh, .ref b.pce])), (b.pdk, .inl (b.cdk, 512, .inl M2.dk)), (b.pln, .inl (b.cln, 100, .inl M2.ln)), (b.pch, .inl (b.cch, 1200, .inl M2.ch)), (b.pva, .inl (b.cva, 8, .inl M2.va)), (b.pou, .inl (b.cou, 60, .inl M2.ou)), (b.ptx, .inl (b.ctx, 15, .inl M2.tx)), (b.pnb, .inl (b.cnb, 16, .inl M2.nb)), (b.psg, .inl (b.csg, 16, .inl (upd M2.sg M2.sn (hrF M)))), (b.pwh, .inl (b.cwh, 6, .inl M2.wh)), (b.pce, .inl (b.cce, 96, .inl M2.ce))] H := hP
            have hD : va_D A [(b.r0, .inr (5, [.int M2.th, .ref b.pdk, .int M2.ar, .int M2.de, .int M2.wr, .ref b.pln, .ref b.pch, .ref b.pva, .int M2.nx, .int (nI M2.os), .ref b.pou, .int (nI M2.tn), .ref b.ptx, .int M2.ol, .int (nI M2.fm), .int (nI (M2.at1 + 1)), .int (nI M2.en), .int M2.go, .int (nI M2.nn), .ref b.pnb, .int (nI (M2.sn + 1)), .ref b.psg, .int (nI M2.my), .ref b.pwh, .ref b.pce])), (b.pdk, .inl (b.cdk, 512, .inl M2.dk)), (b.pln, .inl (b.cln, 100, .inl M2.ln)), (b.pch, .inl (b.cch, 1200, .inl M2.ch)), (b.pva, .inl (b.cva, 8, .inl M2.va)), (b.pou, .inl (b.cou, 60, .inl M2.ou)), (b.ptx, .inl (b.ctx, 15, .inl M2.tx)), (b.pnb, .inl (b.cnb, 16, .inl M2.nb)), (b.psg, .inl (b.csg, 16, .inl (upd M2.sg M2.sn (hrF M)))), (b.pwh, .inl (b.cwh, 6, .inl M2.wh)), (b.pce, .inl (b.cce, 96, .inl M2.ce))] := hD
            obtain ⟨M3, hM3⟩ : ∃ L9 : RSt, L9 = psF M2 (hrF M) := ⟨_, rfl⟩
            have hP : va_P (dC, dI) cls [(b.r0, .inr (5, [.int M3.th, .ref b.pdk, .int M3.ar, .int M3.de, .int M3.wr, .ref b.pln, .ref b.pch, .ref b.pva, .int M3.nx, .int (nI M3.os), .ref b.pou, .int (nI M3.tn), .ref b.ptx, .int M3.ol, .int (nI M3.fm), .int (nI M3.at1), .int (nI M3.en), .int M3.go, .int (nI M3.nn), .ref b.pnb, .int (nI M3.sn), .ref b.psg, .int (nI M3.my), .ref b.pwh, .ref b.pce])), (b.pdk, .inl (b.cdk, 512, .inl M3.dk)), (b.pln, .inl (b.cln, 100, .inl M3.ln)), (b.pch, .inl (b.cch, 1200, .inl M3.ch)), (b.pva, .inl (b.cva, 8, .inl M3.va)), (b.pou, .inl (b.cou, 60, .inl M3.ou)), (b.ptx, .inl (b.ctx, 15, .inl M3.tx)), (b.pnb, .inl (b.cnb, 16, .inl M3.nb)), (b.psg, .inl (b.csg, 16, .inl M3.sg)), (b.pwh, .inl (b.cwh, 6, .inl M3.wh)), (b.pce, .inl (b.cce, 96, .inl M3.ce))] H := by rw [hM3]; exact hP.sub [0, 1, 2, 3, 4, 5, 6, 7, 8, 9, 10] rfl
            have hD : va_D A [(b.r0, .inr (5, [.int M3.th, .ref b.pdk, .int M3.ar, .int M3.de, .int M3.wr, .ref b.pln, .ref b.pch, .ref b.pva, .int M3.nx, .int (nI M3.os), .ref b.pou, .int (nI M3.tn), .ref b.ptx, .int M3.ol, .int (nI M3.fm), .int (nI M3.at1), .int (nI M3.en), .int M3.go, .int (nI M3.nn), .ref b.pnb, .int (nI M3.sn), .ref b.psg, .int (nI M3.my), .ref b.pwh, .ref b.pce])), (b.pdk, .inl (b.cdk, 512, .inl M3.dk)), (b.pln, .inl (b.cln, 100, .inl M3.ln)), (b.pch, .inl (b.cch, 1200, .inl M3.ch)), (b.pva, .inl (b.cva, 8, .inl M3.va)), (b.pou, .inl (b.cou, 60, .inl M3.ou)), (b.ptx, .inl (b.ctx, 15, .inl M3.tx)), (b.pnb, .inl (b.cnb, 16, .inl M3.nb)), (b.psg, .inl (b.csg, 16, .inl M3.sg)), (b.pwh, .inl (b.cwh, 6, .inl M3.wh)), (b.pce, .inl (b.cce, 96, .inl M3.ce))] := by rw [hM3]; exact hD.sub [0, 1, 2, 3, 4, 5, 6, 7, 8, 9, 10] (by decide) rfl
            refine lv_iconst (v := 1) hx hb d_Mo_value_145 (by decide) ?_
            refine lv_istore_n (i := 2) hx hb d_Mo_value_146 rfl hl (by decide) rfl (fun ls hl => ?_)
            have hl : lv_has ls 6 [(2, .int 1), (4, .int (hrF M)), (3, .int m9), (1, .int (nI o9)), (0, .ref b.r0)] := hl
            refine lv_goto (tgt := 212) hx hb d_Mo_value_147 (by decide) ?_
            refine lv_goto (tgt := 16) hx hb d_Mo_value_212 (by decide) ?_
            exact ih (k + 1) (by omega) ls _ _ M3 o9 1 m9 (lv_sub hl [2, 0, 3, 4] rfl) (hP.sub [0, 1, 2, 3, 4, 5, 6, 7, 8, 9, 10] rfl) (hD.sub [0, 1, 2, 3, 4, 5, 6, 7, 8, 9, 10] (by decide) rfl) hS (⟨by rw [hf, if_neg c17, if_neg c24, if_pos c34, if_neg c75, ← hf2, show 20 - (k + 1) = f9 by omega, hM3], by rw [hM3]; exact ⟨by show M2.at1 + 1 ≤ m1; rw [hs2.1]; exact Nat.le_trans hl2 hrb.2.1, hr2.2⟩, fun _ => by rw [hM3]; exact VI_ps hv2 c75 (by rw [hs2.1, hs2.2.1]; exact hl2), fun g => absurd g c17, fun _ _ => by have h1 := hms c17 c24; rw [hM3]; show M2.en - (M2.at1 + 1) + 2 + (k + 1) ≤ 20; rw [hs2.1, hs2.2.1]; omega⟩)
        · skip
          refine lv_aload_n hx hb d_Mo_value_37 rfl (lv_at hl 4 rfl) ?_
          have hv := hvi c24
          have hvb := VI_b hv
          refine go_i (wr := []) (tr := []) (rV (C := "LineDiskModel") (ci := 5) (q0 := 0) (b := b.r0) (n := 0) (As := []) (rest := []) F hkw (g_Mo_piece l dC dI b M m1 hrb (by omega) (by omega) H.size) xT_bl (fun _ _ _ => trivial) w_724 w_726 ws_44 w_6 w_727 rfl rfl (by decide +kernel) ⟨Nat.le_trans (by decide) hRf, Nat.le_trans (by decide) hRl⟩ (hP.sub (ws' := [(b.r0, .inr (5, [.int M.th, .ref b.pdk, .int M.ar, .int M.de, .int M.wr, .ref b.pln, .ref b.pch, .ref b.pva, .int M.nx, .int (nI M.os), .ref b.pou, .int (nI M.tn), .ref b.ptx, .int M.ol, .int (nI M.fm), .int (nI M.at1), .int (nI M.en), .int M.go, .int (nI M.nn), .ref b.pnb, .int (nI M.sn), .ref b.psg, .int (nI M.my), .ref b.pwh, .ref b.pce])), (b.pdk, .inl (b.cdk, 512, .inl M.dk)), (b.pln, .inl (b.cln, 100, .inl M.ln)), (b.pch, .inl (b.cch, 1200, .inl M.ch)), (b.pva, .inl (b.cva, 8, .inl M.va)), (b.pou, .inl (b.cou, 60, .inl M.ou)), (b.ptx, .inl (b.ctx, 15, .inl M.tx)), (b.pnb, .inl (b.cnb, 16, .inl M.nb)), (b.psg, .inl (b.csg, 16, .inl M.sg)), (b.pwh, .inl (b.cwh, 6, .inl M.wh)), (b.pce, .inl (b.cce, 96, .inl M.ce))]) [0, 1, 2, 3, 4, 5, 6, 7, 8, 9, 10] rfl) (hD.sub (ws' := [(b.r0, .inr (5, [.int M.th, .ref b.pdk, .int M.ar, .int M.de, .int M.wr, .ref b.pln, .ref b.pch, .ref b.pva, .int M.nx, .int (nI M.os), .ref b.pou, .int (nI M.tn), .ref b.ptx, .int M.ol, .int (nI M.fm), .int (nI M.at1), .int (nI M.en), .int M.go, .int (nI M.nn), .ref b.pnb, .int (nI M.sn), .ref b.psg, .int (nI M.my), .ref b.pwh, .ref b.pce])), (b.pdk, .inl (b.cdk, 512, .inl M.dk)), (b.pln, .inl (b.cln, 100, .inl M.ln)), (b.pch, .inl (b.cch, 1200, .inl M.ch)), (b.pva, .inl (b.cva, 8, .inl M.va)), (b.pou, .inl (b.cou, 60, .inl M.ou)), (b.ptx, .inl (b.ctx, 15, .inl M.tx)), (b.pnb, .inl (b.cnb, 16, .inl M.nb)), (b.psg, .inl (b.csg, 16, .inl M.sg)), (b.pwh, .inl (b.cwh, 6, .inl M.wh)), (b.pce, .inl (b.cce, 96, .inl M.ce))]) [0, 1, 2, 3, 4, 5, 6, 7, 8, 9, 10] (by decide) rfl) (hK.sub (tys' := [(b.cdk, .int), (b.cln, .int), (b.cch, .int), (b.cva, .int), (b.cou, .int), (b.ctx, .int), (b.cnb, .int), (b.csg, .int), (b.cwh, .int), (b.cce, .int)]) [0, 1, 2, 3, 4, 5, 6, 7, 8, 9] rfl) rfl rfl rfl rfl hl.1 rfl (Nat.le_of_ble_eq_true rfl) d_Mo_value_38 ⟨hRc, hRs⟩) hP hD hK hS hA [0, 1, 2, 3, 4, 5, 6, 7, 8, 9, 10] [] [] rfl rfl (by decide) (by decide) rfl (fun r5 u5 H locs p5 hP hD hK hS => ?_)
          have hP : va_P (dC, dI) cls [(b.r0, .inr (5, [.int u5.th, .ref b.pdk, .int u5.ar, .int u5.de, .int u5.wr, .ref b.pln, .ref b.pch, .ref b.pva, .int u5.nx, .int (nI u5.os), .ref b.pou, .int (nI u5.tn), .ref b.ptx, .int u5.ol, .int (nI u5.fm), .int (nI u5.at1), .int (nI u5.en), .int u5.go, .int (nI u5.nn), .ref b.pnb, .int (nI u5.sn), .ref b.psg, .int (nI u5.my), .ref b.pwh, .ref b.pce])), (b.pdk, .inl (b.cdk, 512, .inl u5.dk)), (b.pln, .inl (b.cln, 100, .inl u5.ln)), (b.pch, .inl (b.cch, 1200, .inl u5.ch)), (b.pva, .inl (b.cva, 8, .inl u5.va)), (b.pou, .inl (b.cou, 60, .inl u5.ou)), (b.ptx, .inl (b.ctx, 15, .inl u5.tx)), (b.pnb, .inl (b.cnb, 16, .inl u5.nb)), (b.psg, .inl (b.csg, 16, .inl u5.sg)), (b.pwh, .inl (b.cwh, 6, .inl u5.wh)), (b.pce, .inl (b.cce, 96, .inl u5.ce))] H := hP
          have hD : va_D A [(b.r0, .inr (5, [.int u5.th, .ref b.pdk, .int u5.ar, .int u5.de, .int u5.wr, .ref b.pln, .ref b.pch, .ref b.pva, .int u5.nx, .int (nI u5.os), .ref b.pou, .int (nI u5.tn), .ref b.ptx, .int u5.ol, .int (nI u5.fm), .int (nI u5.at1), .int (nI u5.en), .int u5.go, .int (nI u5.nn), .ref b.pnb, .int (nI u5.sn), .ref b.psg, .int (nI u5.my), .ref b.pwh, .ref b.pce])), (b.pdk, .inl (b.cdk, 512, .inl u5.dk)), (b.pln, .inl (b.cln, 100, .inl u5.ln)), (b.pch, .inl (b.cch, 1200, .inl u5.ch)), (b.pva, .inl (b.cva, 8, .inl u5.va)), (b.pou, .inl (b.cou, 60, .inl u5.ou)), (b.ptx, .inl (b.ctx, 15, .inl u5.tx)), (b.pnb, .inl (b.cnb, 16, .inl u5.nb)), (b.psg, .inl (b.csg, 16, .inl u5.sg)), (b.pwh, .inl (b.cwh, 6, .inl u5.wh)), (b.pce, .inl (b.cce, 96, .inl u5.ce))] := hD
          have hK : va_K (dC, dI) cls [(b.cdk, .int), (b.cln, .int), (b.cch, .int), (b.cva, .int), (b.cou, .int), (b.ctx, .int), (b.cnb, .int), (b.csg, .int), (b.cwh, .int), (b.cce, .int)] s := hK
          refine W.widen (k := cells) (n := slots) (Nat.le_refl _) (Nat.le_refl _) ?_
          have hpi := piR_inv hrb hv c34
          rw [← p5] at hpi
          have hpi : RB u5 m1 ∧ u5.en = M.en ∧ (¬ u5.go = 0 → VI u5 (if r5 = 0 then o9 + 1 else o9) (if r5 = 0 then 1 else 0) ∧ M.at1 < u5.at1 ∧ u5.at1 ≤ M.en) := hpi
          refine lv_istore hx hb d_Mo_value_41 hl (by decide) rfl (fun ls hl => ?_)
          have hl : lv_has ls 6 [(5, .int r5), (4, .int (hrF M)), (3, .int m9), (2, .int w9), (1, .int (nI o9)), (0, .ref b.r0)] := hl
          refine lv_iload_n hx hb d_Mo_value_43 rfl (lv_at hl 4 rfl) ?_
          refine lv_iload hx hb d_Mo_value_44 (lv_at hl 0 rfl) ?_
          refine lv_if_eq (tgt := 53) hx hb d_Mo_value_46 (by decide) (fun c46 => ?_) (fun c46 => ?_)
          · skip
            refine lv_iconst (v := 1) hx hb d_Mo_value_53 (by decide) ?_
            refine lv_iadd hx hb d_Mo_value_54 ?_
            refine tv (x2 := nI (o9 + 1)) (by exact nI_1 o9) ?_
            refine lv_istore_n (i := 1) hx hb d_Mo_value_55 rfl hl (by decide) rfl (fun ls hl => ?_)
            have hl : lv_has ls 6 [(1, .int (nI (o9 + 1))), (5, .int r5), (4, .int (hrF M)), (3, .int m9), (2, .int w9), (0, .ref b.r0)] := hl
            refine lv_iload hx hb d_Mo_value_56 (lv_at hl 1 rfl) ?_
            refine lv_if_ne (tgt := 65) hx hb d_Mo_value_58 (by decide) (fun h => absurd (c46) h) (fun _ => ?_)
            refine lv_iconst (v := 1) hx hb d_Mo_value_61 (by decide) ?_
            refine lv_goto (tgt := 66) hx hb d_Mo_value_62 (by decide) ?_
            refine lv_istore_n (i := 2) hx hb d_Mo_value_66 rfl hl (by decide) rfl (fun ls hl => ?_)
            have hl : lv_has ls 6 [(2, .int 1), (1, .int (nI (o9 + 1))), (5, .int r5), (4, .int (hrF M)), (3, .int m9), (0, .ref b.r0)] := hl
            refine lv_goto (tgt := 212) hx hb d_Mo_value_67 (by decide) ?_
            refine lv_goto (tgt := 16) hx hb d_Mo_value_212 (by decide) ?_
            rw [if_pos c46] at hpi
            rw [if_pos c46] at hpi
            exact ih (k + 1) (by omega) ls _ _ u5 (o9 + 1) 1 m9 (lv_sub hl [4, 0, 1, 5] rfl) (hP.sub [0, 1, 2, 3, 4, 5, 6, 7, 8, 9, 10] rfl) (hD.sub [0, 1, 2, 3, 4, 5, 6, 7, 8, 9, 10] (by decide) rfl) hS (⟨by rw [hf, if_neg c17, if_neg c24, if_neg c34, ← p5, show 20 - (k + 1) = f9 by omega, if_pos c46, if_pos c46], hpi.1, fun g => (hpi.2.2 g).1, fun g => absurd g c17, fun _ g => by have h1 := hms c17 c24; have h2 := hpi.2.2 g; rw [hpi.2.1]; omega⟩)
          · skip
            refine lv_iconst (v := 0) hx hb d_Mo_value_49 (by decide) ?_
            refine lv_goto (tgt := 54) hx hb d_Mo_value_50 (by decide) ?_
            refine lv_iadd hx hb d_Mo_value_54 ?_
            refine tv (x2 := nI o9) (by exact Int32.add_zero _) ?_
            refine lv_istore_n (i := 1) hx hb d_Mo_value_55 rfl hl (by decide) rfl (fun ls hl => ?_)
            have hl : lv_has ls 6 [(1, .int (nI o9)), (5, .int r5), (4, .int (hrF M)), (3, .int m9), (2, .int w9), (0, .ref b.r0)] := hl
            refine lv_iload hx hb d_Mo_value_56 (lv_at hl 1 rfl) ?_
            refine lv_if_ne (tgt := 65) hx hb d_Mo_value_58 (by decide) (fun _ => ?_) (fun h => absurd h (c46))
            refine lv_iconst (v := 0) hx hb d_Mo_value_65 (by decide) ?_
            refine lv_istore_n (i := 2) hx hb d_Mo_value_66 rfl hl (by decide) rfl (fun ls hl => ?_)
            have hl : lv_has ls 6 [(2, .int 0), (1, .int (nI o9)), (5, .int r5), (4, .int (hrF M)), (3, .int m9), (0, .ref b.r0)] := hl
            refine lv_goto (tgt := 212) hx hb d_Mo_value_67 (by decide) ?_
            refine lv_goto (tgt := 16) hx hb d_Mo_value_212 (by decide) ?_
            rw [if_neg c46] at hpi
            rw [if_neg c46] at hpi
            exact ih (k + 1) (by omega) ls _ _ u5 o9 0 m9 (lv_sub hl [4, 0, 1, 5] rfl) (hP.sub [0, 1, 2, 3, 4, 5, 6, 7, 8, 9, 10] rfl) (hD.sub [0, 1, 2, 3, 4, 5, 6, 7, 8, 9, 10] (by decide) rfl) hS (⟨by rw [hf, if_neg c17, if_neg c24, if_neg c34, ← p5, show 20 - (k + 1) = f9 by omega, if_neg c46, if_neg c46], hpi.1, fun g => (hpi.2.2 g).1, fun g => absurd g c17, fun _ g => by have h1 := hms c17 c24; have h2 := hpi.2.2 g; rw [hpi.2.1]; omega⟩)
def vs0 (Y : RSt) : RSt := (Y.th, Y.ar, Y.de, Y.wr, Y.nx, Y.os, Y.tn, Y.ol, Y.fm, Y.at1, Y.en, Y.go, 0, 0, Y.my, Y.dk, Y.ln, Y.ch, Y.va, Y.ou, Y.tx, Y.nb, Y.sg, Y.wh, Y.ce)
def vgo (g : Int32) (o : Nat) : Int32 := if g = 0 then 0 else if ¬ nI o = 0 then 0 else 1
theorem vgo_b (g : Int32) (o : Nat) : vgo g o = 0 ∨ vgo g o = 1 := by
  unfold vgo
  repeat' split
  all_goals simp
def va1 (q : Nat × RSt) : RSt := goF q.2 (vgo q.2.go q.1)
def va2 (Y : RSt) : RSt := rdE (va1 (vlR 20 0 1 1 (vs0 Y))).sn (va1 (vlR 20 0 1 1 (vs0 Y)))
def vaF (Y : RSt) : Int32 × RSt := (if (va2 Y).go = 0 then 0 else (va2 Y).nb 0, va2 Y)
set_option maxHeartbeats 4000000 in
set_option maxRecDepth 100000 in
theorem g_Mo_value (l : Launch) (dC : Nat → ClassId) (dI : Nat → Nat → Nat) (b : RAd) (Y : RSt) (m1 : Nat) (hrb : RB Y m1) (hen : Y.en ≤ 15) (sz : Nat) : Met l y_Mo_value (Cond.code y_Mo_value b_Mo_value 6 (some .int) :: gw) ({ frames := 5, cells := 0, slots := 0, locals := 385 }) (cP (dC, dI) [.ref b.r0] sz [(b.r0, .inr (5, [.int Y.th, .ref b.pdk, .int Y.ar, .int Y.de, .int Y.wr, .ref b.pln, .ref b.pch, .ref b.pva, .int Y.nx, .int (nI Y.os), .ref b.pou, .int (nI Y.tn), .ref b.ptx, .int Y.ol, .int (nI Y.fm), .int (nI Y.at1), .int (nI Y.en), .int Y.go, .int (nI Y.nn), .ref b.pnb, .int (nI Y.sn), .ref b.psg, .int (nI Y.my), .ref b.pwh, .ref b.pce])), (b.pdk, .inl (b.cdk, 512, .inl Y.dk)), (b.pln, .inl (b.cln, 100, .inl Y.ln)), (b.pch, .inl (b.cch, 1200, .inl Y.ch)), (b.pva, .inl (b.cva, 8, .inl Y.va)), (b.pou, .inl (b.cou, 60, .inl Y.ou)), (b.ptx, .inl (b.ctx, 15, .inl Y.tx)), (b.pnb, .inl (b.cnb, 16, .inl Y.nb)), (b.psg, .inl (b.csg, 16, .inl Y.sg)), (b.pwh, .inl (b.cwh, 6, .inl Y.wh)), (b.pce, .inl (b.cce, 96, .inl Y.ce))] [(b.cdk, .int), (b.cln, .int), (b.cch, .int), (b.cva, .int), (b.cou, .int), (b.ctx, .int), (b.cnb, .int), (b.csg, .int), (b.cwh, .int), (b.cce, .int)] xT) (va_Qi (fun (r : Int32) (u : RSt) => (r, u) = vaF Y ∧ RB u m1) (fun (u : RSt) t => cB (dC, dI) (va_A [(b.r0, .inr (5, [.int Y.th, .ref b.pdk, .int Y.ar, .int Y.de, .int Y.wr, .ref b.pln, .ref b.pch, .ref b.pva, .int Y.nx, .int (nI Y.os), .ref b.pou, .int (nI Y.tn), .ref b.ptx, .int Y.ol, .int (nI Y.fm), .int (nI Y.at1), .int (nI Y.en), .int Y.go, .int (nI Y.nn), .ref b.pnb, .int (nI Y.sn), .ref b.psg, .int (nI Y.my), .ref b.pwh, .ref b.pce])), (b.pdk, .inl (b.cdk, 512, .inl Y.dk)), (b.pln, .inl (b.cln, 100, .inl Y.ln)), (b.pch, .inl (b.cch, 1200, .inl Y.ch)), (b.pva, .inl (b.cva, 8, .inl Y.va)), (b.pou, .inl (b.cou, 60, .inl Y.ou)), (b.ptx, .inl (b.ctx, 15, .inl Y.tx)), (b.pnb, .inl (b.cnb, 16, .inl Y.nb)), (b.psg, .inl (b.csg, 16, .inl Y.sg)), (b.pwh, .inl (b.cwh, 6, .inl Y.wh)), (b.pce, .inl (b.cce, 96, .inl Y.ce))] sz) [(b.r0, .inr (5, [.int u.th, .ref b.pdk, .int u.ar, .int u.de, .int u.wr, .ref b.pln, .ref b.pch, .ref b.pva, .int u.nx, .int (nI u.os), .ref b.pou, .int (nI u.tn), .ref b.ptx, .int u.ol, .int (nI u.fm), .int (nI u.at1), .int (nI u.en), .int u.go, .int (nI u.nn), .ref b.pnb, .int (nI u.sn), .ref b.psg, .int (nI u.my), .ref b.pwh, .ref b.pce])), (b.pdk, .inl (b.cdk, 512, .inl u.dk)), (b.pln, .inl (b.cln, 100, .inl u.ln)), (b.pch, .inl (b.cch, 1200, .inl u.ch)), (b.pva, .inl (b.cva, 8, .inl u.va)), (b.pou, .inl (b.cou, 60, .inl u.ou)), (b.ptx, .inl (b.ctx, 15, .inl u.tx)), (b.pnb, .inl (b.cnb, 16, .inl u.nb)), (b.psg, .inl (b.csg, 16, .inl u.sg)), (b.pwh, .inl (b.cwh, 6, .inl u.wh)), (b.pce, .inl (b.cce, 96, .inl u.ce))] [(b.cdk, .int), (b.cln, .int), (b.cch, .int), (b.cva, .int), (b.cou, .int), (b.ctx, .int), (b.cnb, .int), (b.csg, .int), (b.cwh, .int), (b.cce, .int)] t) (va_A [(b.r0, .inr (5, [.int Y.th, .ref b.pdk, .int Y.ar, .int Y.de, .int Y.wr, .ref b.pln, .ref b.pch, .ref b.pva, .int Y.nx, .int (nI Y.os), .ref b.pou, .int (nI Y.tn), .ref b.ptx, .int Y.ol, .int (nI Y.fm), .int (nI Y.at1), .int (nI Y.en), .int Y.go, .int (nI Y.nn), .ref b.pnb, .int (nI Y.sn), .ref b.psg, .int (nI Y.my), .ref b.pwh, .ref b.pce])), (b.pdk, .inl (b.cdk, 512, .inl Y.dk)), (b.pln, .inl (b.cln, 100, .inl Y.ln)), (b.pch, .inl (b.cch, 1200, .inl Y.ch)), (b.pva, .inl (b.cva, 8, .inl Y.va)), (b.pou, .inl (b.cou, 60, .inl Y.ou)), (b.ptx, .inl (b.ctx, 15, .inl Y.tx)), (b.pnb, .inl (b.cnb, 16, .inl Y.nb)), (b.psg, .inl (b.csg, 16, .inl Y.sg)), (b.pwh, .inl (b.cwh, 6, .inl Y.wh)), (b.pce, .inl (b.cce, 96, .inl Y.ce))] sz)) 0 0 (va_A [(b.r0, .inr (5, [.int Y.th, .ref b.pdk, .int Y.ar, .int Y.de, .int Y.wr, .ref b.pln, .ref b.pch, .ref b.pva, .int Y.nx, .int (nI Y.os), .ref b.pou, .int (nI Y.tn), .ref b.ptx, .int Y.ol, .int (nI Y.fm), .int (nI Y.at1), .int (nI Y.en), .int Y.go, .int (nI Y.nn), .ref b.pnb, .int (nI Y.sn), .ref b.psg, .int (nI Y.my), .ref b.pwh, .ref b.pce])), (b.pdk, .inl (b.cdk, 512, .inl Y.dk)), (b.pln, .inl (b.cln, 100, .inl Y.ln)), (b.pch, .inl (b.cch, 1200, .inl Y.ch)), (b.pva, .inl (b.cva, 8, .inl Y.va)), (b.pou, .inl (b.cou, 60, .inl Y.ou)), (b.ptx, .inl (b.ctx, 15, .inl Y.tx)), (b.pnb, .inl (b.cnb, 16, .inl Y.nb)), (b.psg, .inl (b.csg, 16, .inl Y.sg)), (b.pwh, .inl (b.cwh, 6, .inl Y.wh)), (b.pce, .inl (b.cce, 96, .inl Y.ce))] sz) := by
  refine Met.ofW (cc := b_Mo_value) (maxL := 6) (ret := (some .int)) (by decide) rfl ?_
  intro p e s m args below meth c s₁ B hml hv
  obtain ⟨rfl, hsz, hP, hK, hD0, hkw, hX⟩ := hv
  have hx := B.exec
  have hb := B.bytes
  have hr := B.returns
  have hts := fun w hw => atoms_spec (ws := Cond.code y_Mo_value b_Mo_value 6 (some .int) :: gw) B.pre w (List.mem_cons_of_mem _ hw)
  have hown : s.vm.findClass "LineDiskModel" = some m.cls := findClass_of_methodNamed B.named
  have hlocks := B.notSynchronized
  have hin := (name_of_methodNamed B.named B.method).1
  subst hsz
  have hD := hD0.self (sz := s.heap.size)
  generalize hAe : va_A [(b.r0, .inr (5, [.int Y.th, .ref b.pdk, .int Y.ar, .int Y.de, .int Y.wr, .ref b.pln, .ref b.pch, .ref b.pva, .int Y.nx, .int (nI Y.os), .ref b.pou, .int (nI Y.tn), .ref b.ptx, .int Y.ol, .int (nI Y.fm), .int (nI Y.at1), .int (nI Y.en), .int Y.go, .int (nI Y.nn), .ref b.pnb, .int (nI Y.sn), .ref b.psg, .int (nI Y.my), .ref b.pwh, .ref b.pce])), (b.pdk, .inl (b.cdk, 512, .inl Y.dk)), (b.pln, .inl (b.cln, 100, .inl Y.ln)), (b.pch, .inl (b.cch, 1200, .inl Y.ch)), (b.pva, .inl (b.cva, 8, .inl Y.va)), (b.pou, .inl (b.cou, 60, .inl Y.ou)), (b.ptx, .inl (b.ctx, 15, .inl Y.tx)), (b.pnb, .inl (b.cnb, 16, .inl Y.nb)), (b.psg, .inl (b.csg, 16, .inl Y.sg)), (b.pwh, .inl (b.cwh, 6, .inl Y.wh)), (b.pce, .inl (b.cce, 96, .inl Y.ce))] s.heap.size = A at hD ⊢
  have hA : ∀ q : Nat, s.heap.size ≤ q → A q := fun q h => by rw [← hAe]; exact Or.inr h
  have hS : va_S A s.heap s.heap [] := va_S.rf
  have hl := lv_entry ([.ref b.r0]) (n := 6) (Nat.le_of_ble_eq_true rfl)
  rw [lg_entry_eq]
  generalize (lg_sl ([.ref b.r0]) ++ List.replicate (6 - (lg_sl ([.ref b.r0])).length) Slot.unset).toArray = ls at hl ⊢
  have hl : lv_has ls 6 [(0, .ref b.r0)] := hl
  have F : CallFix p m c b_Mo_value 6 s ([.ref b.r0]).toArray gw "LineDiskModel" := ⟨hx, hb, hml, hown, hts⟩
  refine lv_aload_n hx hb d_Mo_value_0 rfl (lv_at hl 0 rfl) ?_
  refine lv_iconst (v := 0) hx hb d_Mo_value_1 (by decide) ?_
  refine va_put (D := (dC, dI)) (ci := 5) (v := .int 0) (ty := .int) (C := R_Mo) (T := F_Mo) (N := 25) hx hb hts in_Mo t_Mo t_Mo_ok n_Mo hown hK hP hD hS 0 rfl rfl 18 (by decide) (hts _ w_611) (fun _ h9 => h9) rfl (by decide +kernel) (rfl) (rfl) (Nat.le_of_ble_eq_true rfl) d_Mo_value_2 (fun H locs hP hD hS => ?_)
  have hP : va_P (dC, dI) cls [(b.r0, .inr (5, [.int Y.th, .ref b.pdk, .int Y.ar, .int Y.de, .int Y.wr, .ref b.pln, .ref b.pch, .ref b.pva, .int Y.nx, .int (nI Y.os), .ref b.pou, .int (nI Y.tn), .ref b.ptx, .int Y.ol, .int (nI Y.fm), .int (nI Y.at1), .int (nI Y.en), .int Y.go, .int 0, .ref b.pnb, .int (nI Y.sn), .ref b.psg, .int (nI Y.my), .ref b.pwh, .ref b.pce])), (b.pdk, .inl (b.cdk, 512, .inl Y.dk)), (b.pln, .inl (b.cln, 100, .inl Y.ln)), (b.pch, .inl (b.cch, 1200, .inl Y.ch)), (b.pva, .inl (b.cva, 8, .inl Y.va)), (b.pou, .inl (b.cou, 60, .inl Y.ou)), (b.ptx, .inl (b.ctx, 15, .inl Y.tx)), (b.pnb, .inl (b.cnb, 16, .inl Y.nb)), (b.psg, .inl (b.csg, 16, .inl Y.sg)), (b.pwh, .inl (b.cwh, 6, .inl Y.wh)), (b.pce, .inl (b.cce, 96, .inl Y.ce))] H := hP
  have hD : va_D A [(b.r0, .inr (5, [.int Y.th, .ref b.pdk, .int Y.ar, .int Y.de, .int Y.wr, .ref b.pln, .ref b.pch, .ref b.pva, .int Y.nx, .int (nI Y.os), .ref b.pou, .int (nI Y.tn), .ref b.ptx, .int Y.ol, .int (nI Y.fm), .int (nI Y.at1), .int (nI Y.en), .int Y.go, .int 0, .ref b.pnb, .int (nI Y.sn), .ref b.psg, .int (nI Y.my), .ref b.pwh, .ref b.pce])), (b.pdk, .inl (b.cdk, 512, .inl Y.dk)), (b.pln, .inl (b.cln, 100, .inl Y.ln)), (b.pch, .inl (b.cch, 1200, .inl Y.ch)), (b.pva, .inl (b.cva, 8, .inl Y.va)), (b.pou, .inl (b.cou, 60, .inl Y.ou)), (b.ptx, .inl (b.ctx, 15, .inl Y.tx)), (b.pnb, .inl (b.cnb, 16, .inl Y.nb)), (b.psg, .inl (b.csg, 16, .inl Y.sg)), (b.pwh, .inl (b.cwh, 6, .inl Y.wh)), (b.pce, .inl (b.cce, 96, .inl Y.ce))] := hD
  refine lv_aload_n hx hb d_Mo_value_5 rfl (lv_at hl 0 rfl) ?_
  refine lv_iconst (v := 0) hx hb d_Mo_value_6 (by decide) ?_
  refine va_put (D := (dC, dI)) (ci := 5) (v := .int 0) (ty := .int) (C := R_Mo) (T := F_Mo) (N := 25) hx hb hts in_Mo t_Mo t_Mo_ok n_Mo hown hK hP hD hS 0 rfl rfl 20 (by decide) (hts _ w_613) (fun _ h9 => h9) rfl (by decide +kernel) (rfl) (rfl) (Nat.le_of_ble_eq_true rfl) d_Mo_value_7 (fun H locs hP hD hS => ?_)
  have hP : va_P (dC, dI) cls [(b.r0, .inr (5, [.int Y.th, .ref b.pdk, .int Y.ar, .int Y.de, .int Y.wr, .ref b.pln, .ref b.pch, .ref b.pva, .int Y.nx, .int (nI Y.os), .ref b.pou, .int (nI Y.tn), .ref b.ptx, .int Y.ol, .int (nI Y.fm), .int (nI Y.at1), .int (nI Y.en), .int Y.go, .int 0, .ref b.pnb, .int 0, .ref b.psg, .int (nI Y.my), .ref b.pwh, .ref b.pce])), (b.pdk, .inl (b.cdk, 512, .inl Y.dk)), (b.pln, .inl (b.cln, 100, .inl Y.ln)), (b.pch, .inl (b.cch, 1200, .inl Y.ch)), (b.pva, .inl (b.cva, 8, .inl Y.va)), (b.pou, .inl (b.cou, 60, .inl Y.ou)), (b.ptx, .inl (b.ctx, 15, .inl Y.tx)), (b.pnb, .inl (b.cnb, 16, .inl Y.nb)), (b.psg, .inl (b.csg, 16, .inl Y.sg)), (b.pwh, .inl (b.cwh, 6, .inl Y.wh)), (b.pce, .inl (b.cce, 96, .inl Y.ce))] H := hP
  have hD : va_D A [(b.r0, .inr (5, [.int Y.th, .ref b.pdk, .int Y.ar, .int Y.de, .int Y.wr, .ref b.pln, .ref b.pch, .ref b.pva, .int Y.nx, .int (nI Y.os), .ref b.pou, .int (nI Y.tn), .ref b.ptx, .int Y.ol, .int (nI Y.fm), .int (nI Y.at1), .int (nI Y.en), .int Y.go, .int 0, .ref b.pnb, .int 0, .ref b.psg, .int (nI Y.my), .ref b.pwh, .ref b.pce])), (b.pdk, .inl (b.cdk, 512, .inl Y.dk)), (b.pln, .inl (b.cln, 100, .inl Y.ln)), (b.pch, .inl (b.cch, 1200, .inl Y.ch)), (b.pva, .inl (b.cva, 8, .inl Y.va)), (b.pou, .inl (b.cou, 60, .inl Y.ou)), (b.ptx, .inl (b.ctx, 15, .inl Y.tx)), (b.pnb, .inl (b.cnb, 16, .inl Y.nb)), (b.psg, .inl (b.csg, 16, .inl Y.sg)), (b.pwh, .inl (b.cwh, 6, .inl Y.wh)), (b.pce, .inl (b.cce, 96, .inl Y.ce))] := hD
  refine lv_iconst (v := 0) hx hb d_Mo_value_10 (by decide) ?_
  refine lv_istore_n (i := 1) hx hb d_Mo_value_11 rfl hl (by decide) rfl (fun ls hl => ?_)
  have hl : lv_has ls 6 [(1, .int 0), (0, .ref b.r0)] := hl
  refine lv_iconst (v := 1) hx hb d_Mo_value_12 (by decide) ?_
  refine lv_istore_n (i := 2) hx hb d_Mo_value_13 rfl hl (by decide) rfl (fun ls hl => ?_)
  have hl : lv_has ls 6 [(2, .int 1), (1, .int 0), (0, .ref b.r0)] := hl
  refine lv_iconst (v := 1) hx hb d_Mo_value_14 (by decide) ?_
  refine lv_istore_n (i := 3) hx hb d_Mo_value_15 rfl hl (by decide) rfl (fun ls hl => ?_)
  have hl : lv_has ls 6 [(3, .int 1), (2, .int 1), (1, .int 0), (0, .ref b.r0)] := hl
  obtain ⟨Y1, hY1⟩ : ∃ L9 : RSt, L9 = vs0 Y := ⟨_, rfl⟩
  have hP : va_P (dC, dI) cls [(b.r0, .inr (5, [.int Y1.th, .ref b.pdk, .int Y1.ar, .int Y1.de, .int Y1.wr, .ref b.pln, .ref b.pch, .ref b.pva, .int Y1.nx, .int (nI Y1.os), .ref b.pou, .int (nI Y1.tn), .ref b.ptx, .int Y1.ol, .int (nI Y1.fm), .int (nI Y1.at1), .int (nI Y1.en), .int Y1.go, .int (nI Y1.nn), .ref b.pnb, .int (nI Y1.sn), .ref b.psg, .int (nI Y1.my), .ref b.pwh, .ref b.pce])), (b.pdk, .inl (b.cdk, 512, .inl Y1.dk)), (b.pln, .inl (b.cln, 100, .inl Y1.ln)), (b.pch, .inl (b.cch, 1200, .inl Y1.ch)), (b.pva, .inl (b.cva, 8, .inl Y1.va)), (b.pou, .inl (b.cou, 60, .inl Y1.ou)), (b.ptx, .inl (b.ctx, 15, .inl Y1.tx)), (b.pnb, .inl (b.cnb, 16, .inl Y1.nb)), (b.psg, .inl (b.csg, 16, .inl Y1.sg)), (b.pwh, .inl (b.cwh, 6, .inl Y1.wh)), (b.pce, .inl (b.cce, 96, .inl Y1.ce))] H := by rw [hY1]; exact hP.sub [0, 1, 2, 3, 4, 5, 6, 7, 8, 9, 10] rfl
  have hD : va_D A [(b.r0, .inr (5, [.int Y1.th, .ref b.pdk, .int Y1.ar, .int Y1.de, .int Y1.wr, .ref b.pln, .ref b.pch, .ref b.pva, .int Y1.nx, .int (nI Y1.os), .ref b.pou, .int (nI Y1.tn), .ref b.ptx, .int Y1.ol, .int (nI Y1.fm), .int (nI Y1.at1), .int (nI Y1.en), .int Y1.go, .int (nI Y1.nn), .ref b.pnb, .int (nI Y1.sn), .ref b.psg, .int (nI Y1.my), .ref b.pwh, .ref b.pce])), (b.pdk, .inl (b.cdk, 512, .inl Y1.dk)), (b.pln, .inl (b.cln, 100, .inl Y1.ln)), (b.pch, .inl (b.cch, 1200, .inl Y1.ch)), (b.pva, .inl (b.cva, 8, .inl Y1.va)), (b.pou, .inl (b.cou, 60, .inl Y1.ou)), (b.ptx, .inl (b.ctx, 15, .inl Y1.tx)), (b.pnb, .inl (b.cnb, 16, .inl Y1.nb)), (b.psg, .inl (b.csg, 16, .inl Y1.sg)), (b.pwh, .inl (b.cwh, 6, .inl Y1.wh)), (b.pce, .inl (b.cce, 96, .inl Y1.ce))] := by rw [hY1]; exact hD.sub [0, 1, 2, 3, 4, 5, 6, 7, 8, 9, 10] (by decide) rfl
  refine lp_Mo_value1 hx hb hml hts hown hkw hA b Y1 m1 hK (by decide) (by decide) (by decide) (by decide) (fun k _ ls H locs M o9 w9 m9 hl hP hD hS hf => ?_) 20 0 (by omega) ls _ _ Y1 0 1 1 (lv_sub hl [0, 1, 2, 3] rfl) hP hD hS ⟨rfl, by rw [hY1]; exact hrb, fun _ => by rw [hY1]; exact ⟨rfl, Nat.le_refl _, rfl, by show 0 + 0 + (Y.en - Y.at1) ≤ 15; omega⟩, fun g => absurd g (by decide), fun _ _ => by rw [hY1]; show Y.en - Y.at1 + 2 + 0 ≤ 20; omega⟩
  obtain ⟨hf, hrM, hvM⟩ := hf
  refine lv_aload_n hx hb d_Mo_value_215 rfl (lv_at hl 1 rfl) ?_
  refine lv_aload_n hx hb d_Mo_value_216 rfl (lv_at hl 1 rfl) ?_
  refine jn2 (D := (dC, dI)) (A := A) (ws := [(b.r0, .inr (5, [.int M.th, .ref b.pdk, .int M.ar, .int M.de, .int M.wr, .ref b.pln, .ref b.pch, .ref b.pva, .int M.nx, .int (nI M.os), .ref b.pou, .int (nI M.tn), .ref b.ptx, .int M.ol, .int (nI M.fm), .int (nI M.at1), .int (nI M.en), .int M.go, .int (nI M.nn), .ref b.pnb, .int (nI M.sn), .ref b.psg, .int (nI M.my), .ref b.pwh, .ref b.pce])), (b.pdk, .inl (b.cdk, 512, .inl M.dk)), (b.pln, .inl (b.cln, 100, .inl M.ln)), (b.pch, .inl (b.cch, 1200, .inl M.ch)), (b.pva, .inl (b.cva, 8, .inl M.va)), (b.pou, .inl (b.cou, 60, .inl M.ou)), (b.ptx, .inl (b.ctx, 15, .inl M.tx)), (b.pnb, .inl (b.cnb, 16, .inl M.nb)), (b.psg, .inl (b.csg, 16, .inl M.sg)), (b.pwh, .inl (b.cwh, 6, .inl M.wh)), (b.pce, .inl (b.cce, 96, .inl M.ce))]) (s0 := s.heap) (ls := ls) (pc := 232) (rest := [.ref b.r0]) (x := vgo M.go o9) (fun key1 => ?_) (fun H locs hP hD hS => ?_)
  · skip
    refine va_get (D := (dC, dI)) (ci := 5) (v := .int M.go) (C := R_Mo) (T := F_Mo) (N := 25) hx hb hts in_Mo hown hK hP 0 rfl rfl 17 (by decide) (hts _ w_610) (fun _ h9 => h9) rfl d_Mo_value_217 ?_
    refine lv_if_eq (tgt := 231) hx hb d_Mo_value_220 (by decide) (fun c220 => ?_) (fun c220 => ?_)
    · skip
      refine lv_iconst (v := 0) hx hb d_Mo_value_231 (by decide) ?_
      exact key1 _ _ _ (by (simp only [vgo, c220, if_true, if_false, not_true_eq_false, not_false_eq_true, ite_not] <;> try simp)) hP hD hS
    · skip
      refine lv_iload_n hx hb d_Mo_value_223 rfl (lv_at hl 0 rfl) ?_
      refine lv_if_ne (tgt := 231) hx hb d_Mo_value_224 (by decide) (fun c224 => ?_) (fun c224 => ?_)
      · skip
        refine lv_iconst (v := 0) hx hb d_Mo_value_231 (by decide) ?_
        exact key1 _ _ _ (by (simp only [vgo, c220, c224, if_true, if_false, not_true_eq_false, not_false_eq_true, ite_not] <;> try simp)) hP hD hS
      · skip
        refine lv_iconst (v := 1) hx hb d_Mo_value_227 (by decide) ?_
        refine lv_goto (tgt := 232) hx hb d_Mo_value_228 (by decide) ?_
        exact key1 _ _ _ (by (simp only [vgo, c220, c224, if_true, if_false, not_true_eq_false, not_false_eq_true, ite_not] <;> try simp)) hP hD hS
  · skip
    have hP : va_P (dC, dI) cls [(b.r0, .inr (5, [.int M.th, .ref b.pdk, .int M.ar, .int M.de, .int M.wr, .ref b.pln, .ref b.pch, .ref b.pva, .int M.nx, .int (nI M.os), .ref b.pou, .int (nI M.tn), .ref b.ptx, .int M.ol, .int (nI M.fm), .int (nI M.at1), .int (nI M.en), .int M.go, .int (nI M.nn), .ref b.pnb, .int (nI M.sn), .ref b.psg, .int (nI M.my), .ref b.pwh, .ref b.pce])), (b.pdk, .inl (b.cdk, 512, .inl M.dk)), (b.pln, .inl (b.cln, 100, .inl M.ln)), (b.pch, .inl (b.cch, 1200, .inl M.ch)), (b.pva, .inl (b.cva, 8, .inl M.va)), (b.pou, .inl (b.cou, 60, .inl M.ou)), (b.ptx, .inl (b.ctx, 15, .inl M.tx)), (b.pnb, .inl (b.cnb, 16, .inl M.nb)), (b.psg, .inl (b.csg, 16, .inl M.sg)), (b.pwh, .inl (b.cwh, 6, .inl M.wh)), (b.pce, .inl (b.cce, 96, .inl M.ce))] H := hP
    have hD : va_D A [(b.r0, .inr (5, [.int M.th, .ref b.pdk, .int M.ar, .int M.de, .int M.wr, .ref b.pln, .ref b.pch, .ref b.pva, .int M.nx, .int (nI M.os), .ref b.pou, .int (nI M.tn), .ref b.ptx, .int M.ol, .int (nI M.fm), .int (nI M.at1), .int (nI M.en), .int M.go, .int (nI M.nn), .ref b.pnb, .int (nI M.sn), .ref b.psg, .int (nI M.my), .ref b.pwh, .ref b.pce])), (b.pdk, .inl (b.cdk, 512, .inl M.dk)), (b.pln, .inl (b.cln, 100, .inl M.ln)), (b.pch, .inl (b.cch, 1200, .inl M.ch)), (b.pva, .inl (b.cva, 8, .inl M.va)), (b.pou, .inl (b.cou, 60, .inl M.ou)), (b.ptx, .inl (b.ctx, 15, .inl M.tx)), (b.pnb, .inl (b.cnb, 16, .inl M.nb)), (b.psg, .inl (b.csg, 16, .inl M.sg)), (b.pwh, .inl (b.cwh, 6, .inl M.wh)), (b.pce, .inl (b.cce, 96, .inl M.ce))] := hD
    refine va_put (D := (dC, dI)) (ci := 5) (v := .int (vgo M.go o9)) (ty := .boolean) (C := R_Mo) (T := F_Mo) (N := 25) hx hb hts in_Mo t_Mo t_Mo_ok n_Mo hown hK hP hD hS 0 rfl rfl 17 (by decide) (hts _ w_610) (fun _ h9 => h9) rfl (by decide +kernel) (nar_b (vgo_b _ _)) (fit_b (vgo_b _ _)) (Nat.le_of_ble_eq_true rfl) d_Mo_value_232 (fun H locs hP hD hS => ?_)
    have hP : va_P (dC, dI) cls [(b.r0, .inr (5, [.int M.th, .ref b.pdk, .int M.ar, .int M.de, .int M.wr, .ref b.pln, .ref b.pch, .ref b.pva, .int M.nx, .int (nI M.os), .ref b.pou, .int (nI M.tn), .ref b.ptx, .int M.ol, .int (nI M.fm), .int (nI M.at1), .int (nI M.en), .int (vgo M.go o9), .int (nI M.nn), .ref b.pnb, .int (nI M.sn), .ref b.psg, .int (nI M.my), .ref b.pwh, .ref b.pce])), (b.pdk, .inl (b.cdk, 512, .inl M.dk)), (b.pln, .inl (b.cln, 100, .inl M.ln)), (b.pch, .inl (b.cch, 1200, .inl M.ch)), (b.pva, .inl (b.cva, 8, .inl M.va)), (b.pou, .inl (b.cou, 60, .inl M.ou)), (b.ptx, .inl (b.ctx, 15, .inl M.tx)), (b.pnb, .inl (b.cnb, 16, .inl M.nb)), (b.psg, .inl (b.csg, 16, .inl M.sg)), (b.pwh, .inl (b.cwh, 6, .inl M.wh)), (b.pce, .inl (b.cce, 96, .inl M.ce))] H := hP
    have hD : va_D A [(b.r0, .inr (5, [.int M.th, .ref b.pdk, .int M.ar, .int M.de, .int M.wr, .ref b.pln, .ref b.pch, .ref b.pva, .int M.nx, .int (nI M.os), .ref b.pou, .int (nI M.tn), .ref b.ptx, .int M.ol, .int (nI M.fm), .int (nI M.at1), .int (nI M.en), .int (vgo M.go o9), .int (nI M.nn), .ref b.pnb, .int (nI M.sn), .ref b.psg, .int (nI M.my), .ref b.pwh, .ref b.pce])), (b.pdk, .inl (b.cdk, 512, .inl M.dk)), (b.pln, .inl (b.cln, 100, .inl M.ln)), (b.pch, .inl (b.cch, 1200, .inl M.ch)), (b.pva, .inl (b.cva, 8, .inl M.va)), (b.pou, .inl (b.cou, 60, .inl M.ou)), (b.ptx, .inl (b.ctx, 15, .inl M.tx)), (b.pnb, .inl (b.cnb, 16, .inl M.nb)), (b.psg, .inl (b.csg, 16, .inl M.sg)), (b.pwh, .inl (b.cwh, 6, .inl M.wh)), (b.pce, .inl (b.cce, 96, .inl M.ce))] := hD
    obtain ⟨M1, hM1⟩ : ∃ L9 : RSt, L9 = goF M (vgo M.go o9) := ⟨_, rfl⟩
    have hP : va_P (dC, dI) cls [(b.r0, .inr (5, [.int M1.th, .ref b.pdk, .int M1.ar, .int M1.de, .int M1.wr, .ref b.pln, .ref b.pch, .ref b.pva, .int M1.nx, .int (nI M1.os), .ref b.pou, .int (nI M1.tn), .ref b.ptx, .int M1.ol, .int (nI M1.fm), .int (nI M1.at1), .int (nI M1.en), .int M1.go, .int (nI M1.nn), .ref b.pnb, .int (nI M1.sn), .ref b.psg, .int (nI M1.my), .ref b.pwh, .ref b.pce])), (b.pdk, .inl (b.cdk, 512, .inl M1.dk)), (b.pln, .inl (b.cln, 100, .inl M1.ln)), (b.pch, .inl (b.cch, 1200, .inl M1.ch)), (b.pva, .inl (b.cva, 8, .inl M1.va)), (b.pou, .inl (b.cou, 60, .inl M1.ou)), (b.ptx, .inl (b.ctx, 15, .inl M1.tx)), (b.pnb, .inl (b.cnb, 16, .inl M1.nb)), (b.psg, .inl (b.csg, 16, .inl M1.sg)), (b.pwh, .inl (b.cwh, 6, .inl M1.wh)), (b.pce, .inl (b.cce, 96, .inl M1.ce))] H := by rw [hM1]; exact hP.sub [0, 1, 2, 3, 4, 5, 6, 7, 8, 9, 10] rfl
    have hD : va_D A [(b.r0, .inr (5, [.int M1.th, .ref b.pdk, .int M1.ar, .int M1.de, .int M1.wr, .ref b.pln, .ref b.pch, .ref b.pva, .int M1.nx, .int (nI M1.os), .ref b.pou, .int (nI M1.tn), .ref b.ptx, .int M1.ol, .int (nI M1.fm), .int (nI M1.at1), .int (nI M1.en), .int M1.go, .int (nI M1.nn), .ref b.pnb, .int (nI M1.sn), .ref b.psg, .int (nI M1.my), .ref b.pwh, .ref b.pce])), (b.pdk, .inl (b.cdk, 512, .inl M1.dk)), (b.pln, .inl (b.cln, 100, .inl M1.ln)), (b.pch, .inl (b.cch, 1200, .inl M1.ch)), (b.pva, .inl (b.cva, 8, .inl M1.va)), (b.pou, .inl (b.cou, 60, .inl M1.ou)), (b.ptx, .inl (b.ctx, 15, .inl M1.tx)), (b.pnb, .inl (b.cnb, 16, .inl M1.nb)), (b.psg, .inl (b.csg, 16, .inl M1.sg)), (b.pwh, .inl (b.cwh, 6, .inl M1.wh)), (b.pce, .inl (b.cce, 96, .inl M1.ce))] := by rw [hM1]; exact hD.sub [0, 1, 2, 3, 4, 5, 6, 7, 8, 9, 10] (by decide) rfl
    have e1 : M1 = va1 (vlR 20 0 1 1 (vs0 Y)) := by rw [hM1, ← hY1, hf]; rfl
    have hv1 : ¬ M1.go = 0 → VI M1 0 0 := by
      intro g
      rw [hM1] at g ⊢
      have g : ¬ vgo M.go o9 = 0 := g
      have g1 : ¬ M.go = 0 := fun e => g (by unfold vgo; rw [if_pos e])
      have g2 : nI o9 = 0 := Decidable.byContradiction (fun e => g (by unfold vgo; rw [if_neg g1, if_pos e]))
      have hv := hvM g1
      have hb := VI_b hv
      have e0 : o9 = 0 := (nI_eq (b := 0) (by have := hv.2.1; omega) (by decide)).mp g2
      rw [e0] at hv
      exact hv
    refine lp_Mo_value4 hx hb hml hts hown hkw hA b M1 m1 hK (by decide) (by decide) (by decide) (by decide) (fun k _ ls H locs M2 hl hP hD hS hf2 => ?_) M1.sn 0 (by omega) ls _ _ M1 (lv_sub hl [1] rfl) hP hD hS ⟨rfl, rfl, hv1, by rw [hM1]; exact hrM⟩
    obtain ⟨hf2, hr2⟩ := hf2
    have e2 : M2 = va2 Y := by rw [hf2, e1]; rfl
    refine lv_aload_n hx hb d_Mo_value_256 rfl (lv_at hl 0 rfl) ?_
    refine va_get (D := (dC, dI)) (ci := 5) (v := .int M2.go) (C := R_Mo) (T := F_Mo) (N := 25) hx hb hts in_Mo hown hK hP 0 rfl rfl 17 (by decide) (hts _ w_610) (fun _ h9 => h9) rfl d_Mo_value_257 ?_
    refine lv_if_eq (tgt := 272) hx hb d_Mo_value_260 (by decide) (fun c260 => ?_) (fun c260 => ?_)
    · skip
      refine lv_iconst (v := 0) hx hb d_Mo_value_272 (by decide) ?_
      refine W.widen (k := 0) (n := 0) (by decide) (by decide) ?_
      exact W.iret (v := 0) hx hb hr (fun t ht hW => ⟨⟨0, M2, rfl, ⟨by unfold vaF; rw [← e2, if_pos c260], hr2⟩, cB.of (hP.sub [0, 1, 2, 3, 4, 5, 6, 7, 8, 9, 10] rfl) (hD.sub [0, 1, 2, 3, 4, 5, 6, 7, 8, 9, 10] (by decide) rfl) (hK.sub [0, 1, 2, 3, 4, 5, 6, 7, 8, 9] rfl) ht hW⟩, hS.F ht⟩) hS.2.2 d_Mo_value_273
    · skip
      refine lv_aload_n hx hb d_Mo_value_263 rfl (lv_at hl 0 rfl) ?_
      refine va_get (D := (dC, dI)) (ci := 5) (v := .ref b.pnb) (C := R_Mo) (T := F_Mo) (N := 25) hx hb hts in_Mo hown hK hP 0 rfl rfl 19 (by decide) (hts _ w_612) (fun _ h9 => h9) rfl d_Mo_value_264 ?_
      refine lv_iconst (v := 0) hx hb d_Mo_value_267 (by decide) ?_
      refine va_iald hx hb hK hP 7 6 rfl rfl (vp_in_iff.mpr (by decide)) d_Mo_value_268 ?_
      refine tv (x2 := M2.nb 0) (by exact rfl) ?_
      refine lv_goto (tgt := 273) hx hb d_Mo_value_269 (by decide) ?_
      refine W.widen (k := 0) (n := 0) (by decide) (by decide) ?_
      exact W.iret (v := M2.nb 0) hx hb hr (fun t ht hW => ⟨⟨M2.nb 0, M2, rfl, ⟨by unfold vaF; rw [← e2, if_neg c260], hr2⟩, cB.of (hP.sub [0, 1, 2, 3, 4, 5, 6, 7, 8, 9, 10] rfl) (hD.sub [0, 1, 2, 3, 4, 5, 6, 7, 8, 9, 10] (by decide) rfl) (hK.sub [0, 1, 2, 3, 4, 5, 6, 7, 8, 9] rfl) ht hW⟩, hS.F ht⟩) hS.2.2 d_Mo_value_273
