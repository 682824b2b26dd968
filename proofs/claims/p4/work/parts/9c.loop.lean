set_option maxHeartbeats 8000000 in
set_option maxRecDepth 100000 in
theorem lp_law {p : Program} {l : Launch} {e : Env} {R : Room} {s : State} {m : MethodId} {args : Array Value} {below : List Frame} {meth : Method} {c : Code} {Q : State → Prop} {A : Nat → Prop} {dC : Nat → ClassId} {dI : Nat → Nat → Nat} (hx : p.tables.exec = Jvm.exec) (hb : c.code = b_La_law) (hml : c.maxLocals = 7) (hts : ∀ w ∈ gw, w.before args s = true) (hown : s.vm.findClass "LineDiskLaw" = some m.cls) (hkw : kw s) (hA : ∀ q : Nat, s.heap.size ≤ q → A q) (hA0 : ∀ q : Nat, q < s.heap.size → ¬ A q) (hfl : l.flags = pinnedFlags ++ [noTraceFlag]) (b L0 : Nat) (xs : Nat → Int32) (hXs : va_X b L0 xs s s.heap) (hbl : b < s.heap.size) (hbA : ¬ A b) (hL0 : L0 ≤ 1024) (t1 t2 : Nat) (hz1 : va_Z "LineDisk" "EMPTY_BLOCK" "[I" (.ref t1) A s s.heap) (hx1 : va_X t1 16 (fun _ => 0) s s.heap) (hl1 : t1 < s.heap.size) (hn1 : ¬ A t1) (hz2 : va_Z "LineDisk" "FORMATTED_HEAD" "[I" (.ref t2) A s s.heap) (hx2 : va_X t2 16 (fun j => if j = 0 then 7077 else 0) s s.heap) (hl2 : t2 < s.heap.size) (hn2 : ¬ A t2) (qs112 qs119 qs122 : Nat) (hE112 : xE 112 "armed with 0 to 1000 writes" qs112 s) (hE119 : xE 119 "no such number is kept" qs119 s) (hE122 : xE 122 "no such cell" qs122 s) (a : LAd) (bm : RAd) (lo : Nat) (cO : ClassId) (hK0 : va_K (dC, dI) cls [(a.cA, .int), (a.cR, .int), (a.cH, .int), (a.cN, .int), (a.cL, .int), (a.cX, .int), (a.cU, .int), (a.cV, .int), (a.cT, .int), (a.cS, .int), (a.cW, .int), (a.cK, .int), (bm.cdk, .int), (bm.cln, .int), (bm.cch, .int), (bm.cva, .int), (bm.cou, .int), (bm.ctx, .int), (bm.cnb, .int), (bm.csg, .int), (bm.cwh, .int), (bm.cce, .int), (cO, .long)] s) (hRf : 60 ≤ R.frames) (hRl : 3000 ≤ R.locals) (c0 s0 : Nat) (hRc : c0 + 520 ≤ R.cells) (hRs : s0 + 3200 ≤ R.slots) (kk : ∀ (k : Nat), k ≤ 512 → ∀ (ls : Array Slot) (H : Heap) (locs : List Loc), va_S A s.heap H locs → W p l e R s m args below meth c H locs (c0 + k) (s0 + 6 * k) Q (F0 m 309 ls [])) : ∀ (j k : Nat), k + j = L0 / 2 → ∀ (ls : Array Slot) (H : Heap) (locs : List Loc) (L : LSt) (Y : RSt) (g : Nat → Int64), lv_has ls 7 [(4, .int (nI (2 * k))), (3, .ref lo), (2, .ref bm.r0), (1, .ref a.o0), (0, .ref b)] → va_P (dC, dI) cls [(a.o0, .inr (0, [.ref a.s0, .ref a.j0, .ref a.h0, .ref a.m0, .ref a.kp, .int L.oc])), (a.s0, .inr (1, [.ref a.c0, .int L.ar, .int L.de, .int L.wr])), (a.c0, .inl (a.cA, 512, .inl L.g)), (a.j0, .inr (2, [.ref a.jr, .ref a.jh, .int (nI L.jt)])), (a.jr, .inl (a.cR, 96, .inl L.ro)), (a.jh, .inl (a.cH, 16, .inl L.hd)), (a.h0, .inr (3, [.ref a.w0, .ref a.w1, .ref a.w2, .ref a.w3, .ref a.w4, .ref a.w5, .int (nI L.wn), .int L.nx, .int (nI L.wc)])), (a.w0, .inl (a.cN, 10, .inl L.nu)), (a.w1, .inl (a.cL, 10, .inl L.le)), (a.w2, .inl (a.cX, 120, .inl L.te)), (a.w3, .inl (a.cU, 12, .inl L.un)), (a.w4, .inl (a.cV, 8, .inl L.va)), (a.w5, .inl (a.cT, 15, .inl L.ty)), (a.m0, .inr (4, [.ref a.sx, .ref a.sv, .int (nI L.en), .int (nI L.at1), .int L.go, .int L.kd, .int L.vr, .int L.fi, .int L.lf, .int L.sg, .int L.rt, .int L.tg])), (a.sx, .inl (a.cS, 12, .inl L.tx)), (a.sv, .inl (a.cW, 8, .inl L.tv)), (a.kp, .inl (a.cK, 60, .inl L.kf)), (bm.r0, .inr (5, [.int Y.th, .ref bm.pdk, .int Y.ar, .int Y.de, .int Y.wr, .ref bm.pln, .ref bm.pch, .ref bm.pva, .int Y.nx, .int (nI Y.os), .ref bm.pou, .int (nI Y.tn), .ref bm.ptx, .int Y.ol, .int (nI Y.fm), .int (nI Y.at1), .int (nI Y.en), .int Y.go, .int (nI Y.nn), .ref bm.pnb, .int (nI Y.sn), .ref bm.psg, .int (nI Y.my), .ref bm.pwh, .ref bm.pce])), (bm.pdk, .inl (bm.cdk, 512, .inl Y.dk)), (bm.pln, .inl (bm.cln, 100, .inl Y.ln)), (bm.pch, .inl (bm.cch, 1200, .inl Y.ch)), (bm.pva, .inl (bm.cva, 8, .inl Y.va)), (bm.pou, .inl (bm.cou, 60, .inl Y.ou)), (bm.ptx, .inl (bm.ctx, 15, .inl Y.tx)), (bm.pnb, .inl (bm.cnb, 16, .inl Y.nb)), (bm.psg, .inl (bm.csg, 16, .inl Y.sg)), (bm.pwh, .inl (bm.cwh, 6, .inl Y.wh)), (bm.pce, .inl (bm.cce, 96, .inl Y.ce)), (lo, .inl (cO, 1, .inr (.inl g)))] H → va_D A [(a.o0, .inr (0, [.ref a.s0, .ref a.j0, .ref a.h0, .ref a.m0, .ref a.kp, .int L.oc])), (a.s0, .inr (1, [.ref a.c0, .int L.ar, .int L.de, .int L.wr])), (a.c0, .inl (a.cA, 512, .inl L.g)), (a.j0, .inr (2, [.ref a.jr, .ref a.jh, .int (nI L.jt)])), (a.jr, .inl (a.cR, 96, .inl L.ro)), (a.jh, .inl (a.cH, 16, .inl L.hd)), (a.h0, .inr (3, [.ref a.w0, .ref a.w1, .ref a.w2, .ref a.w3, .ref a.w4, .ref a.w5, .int (nI L.wn), .int L.nx, .int (nI L.wc)])), (a.w0, .inl (a.cN, 10, .inl L.nu)), (a.w1, .inl (a.cL, 10, .inl L.le)), (a.w2, .inl (a.cX, 120, .inl L.te)), (a.w3, .inl (a.cU, 12, .inl L.un)), (a.w4, .inl (a.cV, 8, .inl L.va)), (a.w5, .inl (a.cT, 15, .inl L.ty)), (a.m0, .inr (4, [.ref a.sx, .ref a.sv, .int (nI L.en), .int (nI L.at1), .int L.go, .int L.kd, .int L.vr, .int L.fi, .int L.lf, .int L.sg, .int L.rt, .int L.tg])), (a.sx, .inl (a.cS, 12, .inl L.tx)), (a.sv, .inl (a.cW, 8, .inl L.tv)), (a.kp, .inl (a.cK, 60, .inl L.kf)), (bm.r0, .inr (5, [.int Y.th, .ref bm.pdk, .int Y.ar, .int Y.de, .int Y.wr, .ref bm.pln, .ref bm.pch, .ref bm.pva, .int Y.nx, .int (nI Y.os), .ref bm.pou, .int (nI Y.tn), .ref bm.ptx, .int Y.ol, .int (nI Y.fm), .int (nI Y.at1), .int (nI Y.en), .int Y.go, .int (nI Y.nn), .ref bm.pnb, .int (nI Y.sn), .ref bm.psg, .int (nI Y.my), .ref bm.pwh, .ref bm.pce])), (bm.pdk, .inl (bm.cdk, 512, .inl Y.dk)), (bm.pln, .inl (bm.cln, 100, .inl Y.ln)), (bm.pch, .inl (bm.cch, 1200, .inl Y.ch)), (bm.pva, .inl (bm.cva, 8, .inl Y.va)), (bm.pou, .inl (bm.cou, 60, .inl Y.ou)), (bm.ptx, .inl (bm.ctx, 15, .inl Y.tx)), (bm.pnb, .inl (bm.cnb, 16, .inl Y.nb)), (bm.psg, .inl (bm.csg, 16, .inl Y.sg)), (bm.pwh, .inl (bm.cwh, 6, .inl Y.wh)), (bm.pce, .inl (bm.cce, 96, .inl Y.ce)), (lo, .inl (cO, 1, .inr (.inl g)))] → va_S A s.heap H locs → LOk L → RI (100 * k) Y → TIE L Y → W p l e R s m args below meth c H locs (c0 + k) (s0 + 6 * k) Q (F0 m 23 ls []) := by
  have F : CallFix p m c b_La_law 7 s args gw "LineDiskLaw" := ⟨hx, hb, hml, hown, hts⟩
  intro j
  induction j with
  | zero =>
    intro k hk ls H locs L Y g hl hP hD hS hok hri htie
    refine lv_iload hx hb d_La_law_23 (lv_at hl 0 rfl) ?_
    refine lv_aload_n hx hb d_La_law_25 rfl (lv_at hl 4 rfl) ?_
    refine va_slen hx hb hXs hbl hbA hS d_La_law_26 ?_
    refine lv_iconst (v := 2) hx hb d_La_law_27 (by decide) ?_
    refine lv_isub hx hb d_La_law_28 ?_
    refine lv_icmp_gt (tgt := 309) hx hb d_La_law_29 (by decide) (fun _ => ?_) (fun h => absurd (lawGt hL0 (by omega) (by omega)) h)
    exact kk k (by omega) ls _ _ hS
  | succ j ih =>
    intro k hk ls H locs L Y g hl hP hD hS hok hri htie
    have hk2 : 2 * k + 2 ≤ L0 := by omega
    have hk512 : k < 512 := by omega
    have hRc1 : c0 + k + 1 ≤ R.cells := by omega
    have hRs1 : s0 + 6 * k + 6 ≤ R.slots := by omega
    have nx : ∀ (ls : Array Slot) (H : Heap) (locs : List Loc) (L : LSt) (Y : RSt) (g : Nat → Int64), lv_has ls 7 [(4, .int (nI (2 * k))), (3, .ref lo), (2, .ref bm.r0), (1, .ref a.o0), (0, .ref b)] → va_P (dC, dI) cls [(a.o0, .inr (0, [.ref a.s0, .ref a.j0, .ref a.h0, .ref a.m0, .ref a.kp, .int L.oc])), (a.s0, .inr (1, [.ref a.c0, .int L.ar, .int L.de, .int L.wr])), (a.c0, .inl (a.cA, 512, .inl L.g)), (a.j0, .inr (2, [.ref a.jr, .ref a.jh, .int (nI L.jt)])), (a.jr, .inl (a.cR, 96, .inl L.ro)), (a.jh, .inl (a.cH, 16, .inl L.hd)), (a.h0, .inr (3, [.ref a.w0, .ref a.w1, .ref a.w2, .ref a.w3, .ref a.w4, .ref a.w5, .int (nI L.wn), .int L.nx, .int (nI L.wc)])), (a.w0, .inl (a.cN, 10, .inl L.nu)), (a.w1, .inl (a.cL, 10, .inl L.le)), (a.w2, .inl (a.cX, 120, .inl L.te)), (a.w3, .inl (a.cU, 12, .inl L.un)), (a.w4, .inl (a.cV, 8, .inl L.va)), (a.w5, .inl (a.cT, 15, .inl L.ty)), (a.m0, .inr (4, [.ref a.sx, .ref a.sv, .int (nI L.en), .int (nI L.at1), .int L.go, .int L.kd, .int L.vr, .int L.fi, .int L.lf, .int L.sg, .int L.rt, .int L.tg])), (a.sx, .inl (a.cS, 12, .inl L.tx)), (a.sv, .inl (a.cW, 8, .inl L.tv)), (a.kp, .inl (a.cK, 60, .inl L.kf)), (bm.r0, .inr (5, [.int Y.th, .ref bm.pdk, .int Y.ar, .int Y.de, .int Y.wr, .ref bm.pln, .ref bm.pch, .ref bm.pva, .int Y.nx, .int (nI Y.os), .ref bm.pou, .int (nI Y.tn), .ref bm.ptx, .int Y.ol, .int (nI Y.fm), .int (nI Y.at1), .int (nI Y.en), .int Y.go, .int (nI Y.nn), .ref bm.pnb, .int (nI Y.sn), .ref bm.psg, .int (nI Y.my), .ref bm.pwh, .ref bm.pce])), (bm.pdk, .inl (bm.cdk, 512, .inl Y.dk)), (bm.pln, .inl (bm.cln, 100, .inl Y.ln)), (bm.pch, .inl (bm.cch, 1200, .inl Y.ch)), (bm.pva, .inl (bm.cva, 8, .inl Y.va)), (bm.pou, .inl (bm.cou, 60, .inl Y.ou)), (bm.ptx, .inl (bm.ctx, 15, .inl Y.tx)), (bm.pnb, .inl (bm.cnb, 16, .inl Y.nb)), (bm.psg, .inl (bm.csg, 16, .inl Y.sg)), (bm.pwh, .inl (bm.cwh, 6, .inl Y.wh)), (bm.pce, .inl (bm.cce, 96, .inl Y.ce)), (lo, .inl (cO, 1, .inr (.inl g)))] H → va_D A [(a.o0, .inr (0, [.ref a.s0, .ref a.j0, .ref a.h0, .ref a.m0, .ref a.kp, .int L.oc])), (a.s0, .inr (1, [.ref a.c0, .int L.ar, .int L.de, .int L.wr])), (a.c0, .inl (a.cA, 512, .inl L.g)), (a.j0, .inr (2, [.ref a.jr, .ref a.jh, .int (nI L.jt)])), (a.jr, .inl (a.cR, 96, .inl L.ro)), (a.jh, .inl (a.cH, 16, .inl L.hd)), (a.h0, .inr (3, [.ref a.w0, .ref a.w1, .ref a.w2, .ref a.w3, .ref a.w4, .ref a.w5, .int (nI L.wn), .int L.nx, .int (nI L.wc)])), (a.w0, .inl (a.cN, 10, .inl L.nu)), (a.w1, .inl (a.cL, 10, .inl L.le)), (a.w2, .inl (a.cX, 120, .inl L.te)), (a.w3, .inl (a.cU, 12, .inl L.un)), (a.w4, .inl (a.cV, 8, .inl L.va)), (a.w5, .inl (a.cT, 15, .inl L.ty)), (a.m0, .inr (4, [.ref a.sx, .ref a.sv, .int (nI L.en), .int (nI L.at1), .int L.go, .int L.kd, .int L.vr, .int L.fi, .int L.lf, .int L.sg, .int L.rt, .int L.tg])), (a.sx, .inl (a.cS, 12, .inl L.tx)), (a.sv, .inl (a.cW, 8, .inl L.tv)), (a.kp, .inl (a.cK, 60, .inl L.kf)), (bm.r0, .inr (5, [.int Y.th, .ref bm.pdk, .int Y.ar, .int Y.de, .int Y.wr, .ref bm.pln, .ref bm.pch, .ref bm.pva, .int Y.nx, .int (nI Y.os), .ref bm.pou, .int (nI Y.tn), .ref bm.ptx, .int Y.ol, .int (nI Y.fm), .int (nI Y.at1), .int (nI Y.en), .int Y.go, .int (nI Y.nn), .ref bm.pnb, .int (nI Y.sn), .ref bm.psg, .int (nI Y.my), .ref bm.pwh, .ref bm.pce])), (bm.pdk, .inl (bm.cdk, 512, .inl Y.dk)), (bm.pln, .inl (bm.cln, 100, .inl Y.ln)), (bm.pch, .inl (bm.cch, 1200, .inl Y.ch)), (bm.pva, .inl (bm.cva, 8, .inl Y.va)), (bm.pou, .inl (bm.cou, 60, .inl Y.ou)), (bm.ptx, .inl (bm.ctx, 15, .inl Y.tx)), (bm.pnb, .inl (bm.cnb, 16, .inl Y.nb)), (bm.psg, .inl (bm.csg, 16, .inl Y.sg)), (bm.pwh, .inl (bm.cwh, 6, .inl Y.wh)), (bm.pce, .inl (bm.cce, 96, .inl Y.ce)), (lo, .inl (cO, 1, .inr (.inl g)))] → va_S A s.heap H locs → LOk L → RI (100 * (k + 1)) Y → TIE L Y → W p l e R s m args below meth c H locs (c0 + k + 1) (s0 + 6 * k + 6) Q (F0 m 303 ls []) := by
      intro ls H locs L Y g hl hP hD hS hok hri htie
      refine lv_iinc (k := 0) (v := nI (2 * (k + 1))) hx hb d_La_law_303 hl rfl (by rw [show 2 * (k + 1) = 2 * k + 2 by omega]; exact nI_add (2 * k) 2) (by decide) rfl (fun ls hl => ?_)
      have hl : lv_has ls 7 [(4, .int (nI (2 * (k + 1)))), (3, .ref lo), (2, .ref bm.r0), (1, .ref a.o0), (0, .ref b)] := hl
      refine lv_goto (tgt := 23) hx hb d_La_law_306 (by decide) ?_
      refine W.widen (k := c0 + (k + 1)) (n := s0 + 6 * (k + 1)) (by omega) (by omega) ?_
      exact ih (k + 1) (by omega) ls _ _ L Y g (lv_sub hl [0, 1, 2, 3, 4] rfl) hP hD hS hok hri htie
    refine lv_iload hx hb d_La_law_23 (lv_at hl 0 rfl) ?_
    refine lv_aload_n hx hb d_La_law_25 rfl (lv_at hl 4 rfl) ?_
    refine va_slen hx hb hXs hbl hbA hS d_La_law_26 ?_
    refine lv_iconst (v := 2) hx hb d_La_law_27 (by decide) ?_
    refine lv_isub hx hb d_La_law_28 ?_
    refine lv_icmp_gt (tgt := 309) hx hb d_La_law_29 (by decide) (fun h => absurd h (lawLe hL0 (by omega) hk2)) (fun _ => ?_)
    refine lv_aload_n hx hb d_La_law_32 rfl (lv_at hl 4 rfl) ?_
    refine lv_iload hx hb d_La_law_33 (lv_at hl 0 rfl) ?_
    refine va_sld hx hb hXs hbl hbA hS (vp_in_nI (by omega) (by omega)) d_La_law_35 ?_
    refine tv (x2 := xs (2 * k)) (by rw [nI_clamp (by omega)]) ?_
    refine lv_bipush (v := 15) hx hb d_La_law_36 (by decide) ?_
    refine lv_iand hx hb d_La_law_38 ?_
    obtain ⟨j9, hj9, ej⟩ := pk_andE (xs (2 * k)) (m := 15) 4 (by decide)
    refine tv (x2 := nI j9) (by exact ej) ?_
    clear ej
    match j9, hj9 with
    | 0, _ =>
      refine lv_tableIn (off := 53) (tgt := 92) hx hb d_La_law_39 (by decide) (by decide) (by decide) (by decide) ?_
      exact lw_case0 hx hb hml hts hown hkw hA hA0 hfl b L0 xs hXs hbl hbA hL0 t1 t2 hz1 hx1 hl1 hn1 hz2 hx2 hl2 hn2 qs112 qs119 qs122 hE112 hE119 hE122 a bm lo cO hK0 hRf hRl (c0 + k) (s0 + 6 * k) k hRc1 hRs1 hk2 nx ls _ _ L Y g hl hP hD hS hok hri htie
    | 1, _ =>
      refine lv_tableIn (off := 66) (tgt := 105) hx hb d_La_law_39 (by decide) (by decide) (by decide) (by decide) ?_
      exact lw_case1 hx hb hml hts hown hkw hA hA0 hfl b L0 xs hXs hbl hbA hL0 t1 t2 hz1 hx1 hl1 hn1 hz2 hx2 hl2 hn2 qs112 qs119 qs122 hE112 hE119 hE122 a bm lo cO hK0 hRf hRl (c0 + k) (s0 + 6 * k) k hRc1 hRs1 hk2 nx ls _ _ L Y g hl hP hD hS hok hri htie
    | 2, _ =>
      refine lv_tableIn (off := 79) (tgt := 118) hx hb d_La_law_39 (by decide) (by decide) (by decide) (by decide) ?_
      exact lw_case2 hx hb hml hts hown hkw hA hA0 hfl b L0 xs hXs hbl hbA hL0 t1 t2 hz1 hx1 hl1 hn1 hz2 hx2 hl2 hn2 qs112 qs119 qs122 hE112 hE119 hE122 a bm lo cO hK0 hRf hRl (c0 + k) (s0 + 6 * k) k hRc1 hRs1 hk2 nx ls _ _ L Y g hl hP hD hS hok hri htie
    | 3, _ =>
      refine lv_tableIn (off := 104) (tgt := 143) hx hb d_La_law_39 (by decide) (by decide) (by decide) (by decide) ?_
      exact lw_case3 hx hb hml hts hown hkw hA hA0 hfl b L0 xs hXs hbl hbA hL0 t1 t2 hz1 hx1 hl1 hn1 hz2 hx2 hl2 hn2 qs112 qs119 qs122 hE112 hE119 hE122 a bm lo cO hK0 hRf hRl (c0 + k) (s0 + 6 * k) k hRc1 hRs1 hk2 nx ls _ _ L Y g hl hP hD hS hok hri htie
    | 4, _ =>
      refine lv_tableIn (off := 129) (tgt := 168) hx hb d_La_law_39 (by decide) (by decide) (by decide) (by decide) ?_
      exact lw_case4 hx hb hml hts hown hkw hA hA0 hfl b L0 xs hXs hbl hbA hL0 t1 t2 hz1 hx1 hl1 hn1 hz2 hx2 hl2 hn2 qs112 qs119 qs122 hE112 hE119 hE122 a bm lo cO hK0 hRf hRl (c0 + k) (s0 + 6 * k) k hRc1 hRs1 hk2 nx ls _ _ L Y g hl hP hD hS hok hri htie
    | 5, _ =>
      refine lv_tableIn (off := 157) (tgt := 196) hx hb d_La_law_39 (by decide) (by decide) (by decide) (by decide) ?_
      exact lw_case5 hx hb hml hts hown hkw hA hA0 hfl b L0 xs hXs hbl hbA hL0 t1 t2 hz1 hx1 hl1 hn1 hz2 hx2 hl2 hn2 qs112 qs119 qs122 hE112 hE119 hE122 a bm lo cO hK0 hRf hRl (c0 + k) (s0 + 6 * k) k hRc1 hRs1 hk2 nx ls _ _ L Y g hl hP hD hS hok hri htie
    | 6, _ =>
      refine lv_tableIn (off := 185) (tgt := 224) hx hb d_La_law_39 (by decide) (by decide) (by decide) (by decide) ?_
      exact lw_case6 hx hb hml hts hown hkw hA hA0 hfl b L0 xs hXs hbl hbA hL0 t1 t2 hz1 hx1 hl1 hn1 hz2 hx2 hl2 hn2 qs112 qs119 qs122 hE112 hE119 hE122 a bm lo cO hK0 hRf hRl (c0 + k) (s0 + 6 * k) k hRc1 hRs1 hk2 nx ls _ _ L Y g hl hP hD hS hok hri htie
    | 7, _ =>
      refine lv_tableIn (off := 198) (tgt := 237) hx hb d_La_law_39 (by decide) (by decide) (by decide) (by decide) ?_
      exact lw_case7 hx hb hml hts hown hkw hA hA0 hfl b L0 xs hXs hbl hbA hL0 t1 t2 hz1 hx1 hl1 hn1 hz2 hx2 hl2 hn2 qs112 qs119 qs122 hE112 hE119 hE122 a bm lo cO hK0 hRf hRl (c0 + k) (s0 + 6 * k) k hRc1 hRs1 hk2 nx ls _ _ L Y g hl hP hD hS hok hri htie
    | 8, _ =>
      refine lv_tableIn (off := 226) (tgt := 265) hx hb d_La_law_39 (by decide) (by decide) (by decide) (by decide) ?_
      exact lw_case8 hx hb hml hts hown hkw hA hA0 hfl b L0 xs hXs hbl hbA hL0 t1 t2 hz1 hx1 hl1 hn1 hz2 hx2 hl2 hn2 qs112 qs119 qs122 hE112 hE119 hE122 a bm lo cO hK0 hRf hRl (c0 + k) (s0 + 6 * k) k hRc1 hRs1 hk2 nx ls _ _ L Y g hl hP hD hS hok hri htie
    | 9, _ =>
      refine lv_tableIn (off := 239) (tgt := 278) hx hb d_La_law_39 (by decide) (by decide) (by decide) (by decide) ?_
      exact lw_case9 hx hb hml hts hown hkw hA hA0 hfl b L0 xs hXs hbl hbA hL0 t1 t2 hz1 hx1 hl1 hn1 hz2 hx2 hl2 hn2 qs112 qs119 qs122 hE112 hE119 hE122 a bm lo cO hK0 hRf hRl (c0 + k) (s0 + 6 * k) k hRc1 hRs1 hk2 nx ls _ _ L Y g hl hP hD hS hok hri htie
    | 10, _ =>
      refine lv_tableOut (tgt := 303) hx hb d_La_law_39 (by decide) (by decide) ?_
      refine W.widen (k := c0 + k + 1) (n := s0 + 6 * k + 6) (by omega) (by omega) ?_
      exact nx ls _ _ L Y g hl hP hD hS hok (hri.up (by omega)) htie
    | 11, _ =>
      refine lv_tableOut (tgt := 303) hx hb d_La_law_39 (by decide) (by decide) ?_
      refine W.widen (k := c0 + k + 1) (n := s0 + 6 * k + 6) (by omega) (by omega) ?_
      exact nx ls _ _ L Y g hl hP hD hS hok (hri.up (by omega)) htie
    | 12, _ =>
      refine lv_tableOut (tgt := 303) hx hb d_La_law_39 (by decide) (by decide) ?_
      refine W.widen (k := c0 + k + 1) (n := s0 + 6 * k + 6) (by omega) (by omega) ?_
      exact nx ls _ _ L Y g hl hP hD hS hok (hri.up (by omega)) htie
    | 13, _ =>
      refine lv_tableOut (tgt := 303) hx hb d_La_law_39 (by decide) (by decide) ?_
      refine W.widen (k := c0 + k + 1) (n := s0 + 6 * k + 6) (by omega) (by omega) ?_
      exact nx ls _ _ L Y g hl hP hD hS hok (hri.up (by omega)) htie
    | 14, _ =>
      refine lv_tableOut (tgt := 303) hx hb d_La_law_39 (by decide) (by decide) ?_
      refine W.widen (k := c0 + k + 1) (n := s0 + 6 * k + 6) (by omega) (by omega) ?_
      exact nx ls _ _ L Y g hl hP hD hS hok (hri.up (by omega)) htie
    | 15, _ =>
      refine lv_tableOut (tgt := 303) hx hb d_La_law_39 (by decide) (by decide) ?_
      refine W.widen (k := c0 + k + 1) (n := s0 + 6 * k + 6) (by omega) (by omega) ?_
      exact nx ls _ _ L Y g hl hP hD hS hok (hri.up (by omega)) htie
    | n + 16, h => exact absurd h (by omega)
