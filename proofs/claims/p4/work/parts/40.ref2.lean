/-! the reference: small methods -/
def mvr (c : Int32) : Int32 := if c < 65 then 0 else if 72 < c then 0 else 1
set_option maxHeartbeats 4000000 in
set_option maxRecDepth 100000 in
theorem g_Mo_sizeOf (l : Launch) (dC : Nat → ClassId) (dI : Nat → Nat → Nat) (b : RAd) (Y : RSt) (k : Nat) (hk : k < 8) (sz : Nat) : Met l y_Mo_sizeOf (Cond.code y_Mo_sizeOf b_Mo_sizeOf 2 (some .int) :: gw) ({ frames := 0, cells := 0, slots := 0, locals := 0 }) (cP (dC, dI) [.ref b.r0, .int (nI k)] sz [(b.r0, .inr (5, [.int Y.th, .ref b.pdk, .int Y.ar, .int Y.de, .int Y.wr, .ref b.pln, .ref b.pch, .ref b.pva, .int Y.nx, .int (nI Y.os), .ref b.pou, .int (nI Y.tn), .ref b.ptx, .int Y.ol, .int (nI Y.fm), .int (nI Y.at1), .int (nI Y.en), .int Y.go, .int (nI Y.nn), .ref b.pnb, .int (nI Y.sn), .ref b.psg, .int (nI Y.my), .ref b.pwh, .ref b.pce])), (b.pdk, .inl (b.cdk, 512, .inl Y.dk)), (b.pln, .inl (b.cln, 100, .inl Y.ln)), (b.pch, .inl (b.cch, 1200, .inl Y.ch)), (b.pva, .inl (b.cva, 8, .inl Y.va)), (b.pou, .inl (b.cou, 60, .inl Y.ou)), (b.ptx, .inl (b.ctx, 15, .inl Y.tx)), (b.pnb, .inl (b.cnb, 16, .inl Y.nb)), (b.psg, .inl (b.csg, 16, .inl Y.sg)), (b.pwh, .inl (b.cwh, 6, .inl Y.wh)), (b.pce, .inl (b.cce, 96, .inl Y.ce))] [(b.cdk, .int), (b.cln, .int), (b.cch, .int), (b.cva, .int), (b.cou, .int), (b.ctx, .int), (b.cnb, .int), (b.csg, .int), (b.cwh, .int), (b.cce, .int)] xT) (va_Qi (fun (r : Int32) (u : RSt) => r = Y.dk (16 + 2 * k) ∧ u = Y) (fun (u : RSt) t => cB (dC, dI) (va_A [(b.r0, .inr (5, [.int Y.th, .ref b.pdk, .int Y.ar, .int Y.de, .int Y.wr, .ref b.pln, .ref b.pch, .ref b.pva, .int Y.nx, .int (nI Y.os), .ref b.pou, .int (nI Y.tn), .ref b.ptx, .int Y.ol, .int (nI Y.fm), .int (nI Y.at1), .int (nI Y.en), .int Y.go, .int (nI Y.nn), .ref b.pnb, .int (nI Y.sn), .ref b.psg, .int (nI Y.my), .ref b.pwh, .ref b.pce])), (b.pdk, .inl (b.cdk, 512, .inl Y.dk)), (b.pln, .inl (b.cln, 100, .inl Y.ln)), (b.pch, .inl (b.cch, 1200, .inl Y.ch)), (b.pva, .inl (b.cva, 8, .inl Y.va)), (b.pou, .inl (b.cou, 60, .inl Y.ou)), (b.ptx, .inl (b.ctx, 15, .inl Y.tx)), (b.pnb, .inl (b.cnb, 16, .inl Y.nb)), (b.psg, .inl (b.csg, 16, .inl Y.sg)), (b.pwh, .inl (b.cwh, 6, .inl Y.wh)), (b.pce, .inl (b.cce, 96, .inl Y.ce))] sz) [(b.r0, .inr (5, [.int u.th, .ref b.pdk, .int u.ar, .int u.de, .int u.wr, .ref b.pln, .ref b.pch, .ref b.pva, .int u.nx, .int (nI u.os), .ref b.pou, .int (nI u.tn), .ref b.ptx, .int u.ol, .int (nI u.fm), .int (nI u.at1), .int (nI u.en), .int u.go, .int (nI u.nn), .ref b.pnb, .int (nI u.sn), .ref b.psg, .int (nI u.my), .ref b.pwh, .ref b.pce])), (b.pdk, .inl (b.cdk, 512, .inl u.dk)), (b.pln, .inl (b.cln, 100, .inl u.ln)), (b.pch, .inl (b.cch, 1200, .inl u.ch)), (b.pva, .inl (b.cva, 8, .inl u.va)), (b.pou, .inl (b.cou, 60, .inl u.ou)), (b.ptx, .inl (b.ctx, 15, .inl u.tx)), (b.pnb, .inl (b.cnb, 16, .inl u.nb)), (b.psg, .inl (b.csg, 16, .inl u.sg)), (b.pwh, .inl (b.cwh, 6, .inl u.wh)), (b.pce, .inl (b.cce, 96, .inl u.ce))] [(b.cdk, .int), (b.cln, .int), (b.cch, .int), (b.cva, .int), (b.cou, .int), (b.ctx, .int), (b.cnb, .int), (b.csg, .int), (b.cwh, .int), (b.cce, .int)] t) (va_A [(b.r0, .inr (5, [.int Y.th, .ref b.pdk, .int Y.ar, .int Y.de, .int Y.wr, .ref b.pln, .ref b.pch, .ref b.pva, .int Y.nx, .int (nI Y.os), .ref b.pou, .int (nI Y.tn), .ref b.ptx, .int Y.ol, .int (nI Y.fm), .int (nI Y.at1), .int (nI Y.en), .int Y.go, .int (nI Y.nn), .ref b.pnb, .int (nI Y.sn), .ref b.psg, .int (nI Y.my), .ref b.pwh, .ref b.pce])), (b.pdk, .inl (b.cdk, 512, .inl Y.dk)), (b.pln, .inl (b.cln, 100, .inl Y.ln)), (b.pch, .inl (b.cch, 1200, .inl Y.ch)), (b.pva, .inl (b.cva, 8, .inl Y.va)), (b.pou, .inl (b.cou, 60, .inl Y.ou)), (b.ptx, .inl (b.ctx, 15, .inl Y.tx)), (b.pnb, .inl (b.cnb, 16, .inl Y.nb)), (b.psg, .inl (b.csg, 16, .inl Y.sg)), (b.pwh, .inl (b.cwh, 6, .inl Y.wh)), (b.pce, .inl (b.cce, 96, .inl Y.ce))] sz)) 0 0 (va_A [(b.r0, .inr (5, [.int Y.th, .ref b.pdk, .int Y.ar, .int Y.de, .int Y.wr, .ref b.pln, .ref b.pch, .ref b.pva, .int Y.nx, .int (nI Y.os), .ref b.pou, .int (nI Y.tn), .ref b.ptx, .int Y.ol, .int (nI Y.fm), .int (nI Y.at1), .int (nI Y.en), .int Y.go, .int (nI Y.nn), .ref b.pnb, .int (nI Y.sn), .ref b.psg, .int (nI Y.my), .ref b.pwh, .ref b.pce])), (b.pdk, .inl (b.cdk, 512, .inl Y.dk)), (b.pln, .inl (b.cln, 100, .inl Y.ln)), (b.pch, .inl (b.cch, 1200, .inl Y.ch)), (b.pva, .inl (b.cva, 8, .inl Y.va)), (b.pou, .inl (b.cou, 60, .inl Y.ou)), (b.ptx, .inl (b.ctx, 15, .inl Y.tx)), (b.pnb, .inl (b.cnb, 16, .inl Y.nb)), (b.psg, .inl (b.csg, 16, .inl Y.sg)), (b.pwh, .inl (b.cwh, 6, .inl Y.wh)), (b.pce, .inl (b.cce, 96, .inl Y.ce))] sz) := by
  refine Met.ofW (cc := b_Mo_sizeOf) (maxL := 2) (ret := (some .int)) (by decide) rfl ?_
  intro p e s m args below meth c s₁ B hml hv
  obtain ⟨rfl, hsz, hP, hK, hD0, hkw, hX⟩ := hv
  have hx := B.exec
  have hb := B.bytes
  have hr := B.returns
  have hts := fun w hw => atoms_spec (ws := Cond.code y_Mo_sizeOf b_Mo_sizeOf 2 (some .int) :: gw) B.pre w (List.mem_cons_of_mem _ hw)
  have hown : s.vm.findClass "LineDiskModel" = some m.cls := findClass_of_methodNamed B.named
  have hlocks := B.notSynchronized
  have hin := (name_of_methodNamed B.named B.method).1
  subst hsz
  have hD := hD0.self (sz := s.heap.size)
  generalize hAe : va_A [(b.r0, .inr (5, [.int Y.th, .ref b.pdk, .int Y.ar, .int Y.de, .int Y.wr, .ref b.pln, .ref b.pch, .ref b.pva, .int Y.nx, .int (nI Y.os), .ref b.pou, .int (nI Y.tn), .ref b.ptx, .int Y.ol, .int (nI Y.fm), .int (nI Y.at1), .int (nI Y.en), .int Y.go, .int (nI Y.nn), .ref b.pnb, .int (nI Y.sn), .ref b.psg, .int (nI Y.my), .ref b.pwh, .ref b.pce])), (b.pdk, .inl (b.cdk, 512, .inl Y.dk)), (b.pln, .inl (b.cln, 100, .inl Y.ln)), (b.pch, .inl (b.cch, 1200, .inl Y.ch)), (b.pva, .inl (b.cva, 8, .inl Y.va)), (b.pou, .inl (b.cou, 60, .inl Y.ou)), (b.ptx, .inl (b.ctx, 15, .inl Y.tx)), (b.pnb, .inl (b.cnb, 16, .inl Y.nb)), (b.psg, .inl (b.csg, 16, .inl Y.sg)), (b.pwh, .inl (b.cwh, 6, .inl Y.wh)), (b.pce, .inl (b.cce, 96, .inl Y.ce))] s.heap.size = A at hD ⊢
  have hA : ∀ q : Nat, s.heap.size ≤ q → A q := fun q h => by rw [← hAe]; exact Or.inr h
  have hS : va_S A s.heap s.heap [] := va_S.rf
  have hl := lv_entry ([.ref b.r0, .int (nI k)]) (n := 2) (Nat.le_of_ble_eq_true rfl)
  rw [lg_entry_eq]
  generalize (lg_sl ([.ref b.r0, .int (nI k)]) ++ List.replicate (2 - (lg_sl ([.ref b.r0, .int (nI k)])).length) Slot.unset).toArray = ls at hl ⊢
  have hl : lv_has ls 2 [(0, .ref b.r0), (1, .int (nI k))] := hl
  have F : CallFix p m c b_Mo_sizeOf 2 s ([.ref b.r0, .int (nI k)]).toArray gw "LineDiskModel" := ⟨hx, hb, hml, hown, hts⟩
  refine lv_aload_n hx hb d_Mo_sizeOf_0 rfl (lv_at hl 0 rfl) ?_
  refine va_get (D := (dC, dI)) (ci := 5) (v := .ref b.pdk) (C := R_Mo) (T := F_Mo) (N := 25) hx hb hts in_Mo hown hK hP 0 rfl rfl 1 (by decide) (hts _ w_594) (fun _ h9 => h9) rfl d_Mo_sizeOf_1 ?_
  refine lv_bipush (v := 16) hx hb d_Mo_sizeOf_4 (by decide) ?_
  refine lv_iconst (v := 2) hx hb d_Mo_sizeOf_6 (by decide) ?_
  refine lv_iload_n hx hb d_Mo_sizeOf_7 rfl (lv_at hl 1 rfl) ?_
  refine lv_imul hx hb d_Mo_sizeOf_8 ?_
  refine tv (x2 := nI (2 * k)) (by exact pk_mul 2 k) ?_
  refine lv_iadd hx hb d_Mo_sizeOf_9 ?_
  refine tv (x2 := nI (16 + 2 * k)) (by exact nI_add 16 (2 * k)) ?_
  refine va_iald hx hb hK hP 1 0 rfl rfl (vp_in_nI (by omega) (by decide)) d_Mo_sizeOf_10 ?_
  refine tv (x2 := Y.dk (16 + 2 * k)) (by exact by rw [nI_clamp (by omega)]) ?_
  refine W.widen (k := 0) (n := 0) (by decide) (by decide) ?_
  exact W.iret (v := Y.dk (16 + 2 * k)) hx hb hr (fun t ht hW => ⟨⟨Y.dk (16 + 2 * k), Y, rfl, ⟨rfl, rfl⟩, cB.of (hP.sub [0, 1, 2, 3, 4, 5, 6, 7, 8, 9, 10] rfl) (hD.sub [0, 1, 2, 3, 4, 5, 6, 7, 8, 9, 10] (by decide) rfl) (hK.sub [0, 1, 2, 3, 4, 5, 6, 7, 8, 9] rfl) ht hW⟩, hS.F ht⟩) hS.2.2 d_Mo_sizeOf_11
set_option maxHeartbeats 4000000 in
set_option maxRecDepth 100000 in
theorem g_Mo_firstOf (l : Launch) (dC : Nat → ClassId) (dI : Nat → Nat → Nat) (b : RAd) (Y : RSt) (k : Nat) (hk : k < 8) (sz : Nat) : Met l y_Mo_firstOf (Cond.code y_Mo_firstOf b_Mo_firstOf 2 (some .int) :: gw) ({ frames := 0, cells := 0, slots := 0, locals := 0 }) (cP (dC, dI) [.ref b.r0, .int (nI k)] sz [(b.r0, .inr (5, [.int Y.th, .ref b.pdk, .int Y.ar, .int Y.de, .int Y.wr, .ref b.pln, .ref b.pch, .ref b.pva, .int Y.nx, .int (nI Y.os), .ref b.pou, .int (nI Y.tn), .ref b.ptx, .int Y.ol, .int (nI Y.fm), .int (nI Y.at1), .int (nI Y.en), .int Y.go, .int (nI Y.nn), .ref b.pnb, .int (nI Y.sn), .ref b.psg, .int (nI Y.my), .ref b.pwh, .ref b.pce])), (b.pdk, .inl (b.cdk, 512, .inl Y.dk)), (b.pln, .inl (b.cln, 100, .inl Y.ln)), (b.pch, .inl (b.cch, 1200, .inl Y.ch)), (b.pva, .inl (b.cva, 8, .inl Y.va)), (b.pou, .inl (b.cou, 60, .inl Y.ou)), (b.ptx, .inl (b.ctx, 15, .inl Y.tx)), (b.pnb, .inl (b.cnb, 16, .inl Y.nb)), (b.psg, .inl (b.csg, 16, .inl Y.sg)), (b.pwh, .inl (b.cwh, 6, .inl Y.wh)), (b.pce, .inl (b.cce, 96, .inl Y.ce))] [(b.cdk, .int), (b.cln, .int), (b.cch, .int), (b.cva, .int), (b.cou, .int), (b.ctx, .int), (b.cnb, .int), (b.csg, .int), (b.cwh, .int), (b.cce, .int)] xT) (va_Qi (fun (r : Int32) (u : RSt) => r = Y.dk (17 + 2 * k) ∧ u = Y) (fun (u : RSt) t => cB (dC, dI) (va_A [(b.r0, .inr (5, [.int Y.th, .ref b.pdk, .int Y.ar, .int Y.de, .int Y.wr, .ref b.pln, .ref b.pch, .ref b.pva, .int Y.nx, .int (nI Y.os), .ref b.pou, .int (nI Y.tn), .ref b.ptx, .int Y.ol, .int (nI Y.fm), .int (nI Y.at1), .int (nI Y.en), .int Y.go, .int (nI Y.nn), .ref b.pnb, .int (nI Y.sn), .ref b.psg, .int (nI Y.my), .ref b.pwh, .ref b.pce])), (b.pdk, .inl (b.cdk, 512, .inl Y.dk)), (b.pln, .inl (b.cln, 100, .inl Y.ln)), (b.pch, .inl (b.cch, 1200, .inl Y.ch)), (b.pva, .inl (b.cva, 8, .inl Y.va)), (b.pou, .inl (b.cou, 60, .inl Y.ou)), (b.ptx, .inl (b.ctx, 15, .inl Y.tx)), (b.pnb, .inl (b.cnb, 16, .inl Y.nb)), (b.psg, .inl (b.csg, 16, .inl Y.sg)), (b.pwh, .inl (b.cwh, 6, .inl Y.wh)), (b.pce, .inl (b.cce, 96, .inl Y.ce))] sz) [(b.r0, .inr (5, [.int u.th, .ref b.pdk, .int u.ar, .int u.de, .int u.wr, .ref b.pln, .ref b.pch, .ref b.pva, .int u.nx, .int (nI u.os), .ref b.pou, .int (nI u.tn), .ref b.ptx, .int u.ol, .int (nI u.fm), .int (nI u.at1), .int (nI u.en), .int u.go, .int (nI u.nn), .ref b.pnb, .int (nI u.sn), .ref b.psg, .int (nI u.my), .ref b.pwh, .ref b.pce])), (b.pdk, .inl (b.cdk, 512, .inl u.dk)), (b.pln, .inl (b.cln, 100, .inl u.ln)), (b.pch, .inl (b.cch, 1200, .inl u.ch)), (b.pva, .inl (b.cva, 8, .inl u.va)), (b.pou, .inl (b.cou, 60, .inl u.ou)), (b.ptx, .inl (b.ctx, 15, .inl u.tx)), (b.pnb, .inl (b.cnb, 16, .inl u.nb)), (b.psg, .inl (b.csg, 16, .inl u.sg)), (b.pwh, .inl (b.cwh, 6, .inl u.wh)), (b.pce, .inl (b.cce, 96, .inl u.ce))] [(b.cdk, .int), (b.cln, .int), (b.cch, .int), (b.cva, .int), (b.cou, .int), (b.ctx, .int), (b.cnb, .int), (b.csg, .int), (b.cwh, .int), (b.cce, .int)] t) (va_A [(b.r0, .inr (5, [.int Y.th, .ref b.pdk, .int Y.ar, .int Y.de, .int Y.wr, .ref b.pln, .ref b.pch, .ref b.pva, .int Y.nx, .int (nI Y.os), .ref b.pou, .int (nI Y.tn), .ref b.ptx, .int Y.ol, .int (nI Y.fm), .int (nI Y.at1), .int (nI Y.en), .int Y.go, .int (nI Y.nn), .ref b.pnb, .int (nI Y.sn), .ref b.psg, .int (nI Y.my), .ref b.pwh, .ref b.pce])), (b.pdk, .inl (b.cdk, 512, .inl Y.dk)), (b.pln, .inl (b.cln, 100, .inl Y.ln)), (b.pch, .inl (b.cch, 1200, .inl Y.ch)), (b.pva, .inl (b.cva, 8, .inl Y.va)), (b.pou, .inl (b.cou, 60, .inl Y.ou)), (b.ptx, .inl (b.ctx, 15, .inl Y.tx)), (b.pnb, .inl (b.cnb, 16, .inl Y.nb)), (b.psg, .inl (b.csg, 16, .inl Y.sg)), (b.pwh, .inl (b.cwh, 6, .inl Y.wh)), (b.pce, .inl (b.cce, 96, .inl Y.ce))] sz)) 0 0 (va_A [(b.r0, .inr (5, [.int Y.th, .ref b.pdk, .int Y.ar, .int Y.de, .int Y.wr, .ref b.pln, .ref b.pch, .ref b.pva, .int Y.nx, .int (nI Y.os), .ref b.pou, .int (nI Y.tn), .ref b.ptx, .int Y.ol, .int (nI Y.fm), .int (nI Y.at1), .int (nI Y.en), .int Y.go, .int (nI Y.nn), .ref b.pnb, .int (nI Y.sn), .ref b.psg, .int (nI Y.my), .ref b.pwh, .ref b.pce])), (b.pdk, .inl (b.cdk, 512, .inl Y.dk)), (b.pln, .inl (b.cln, 100, .inl Y.ln)), (b.pch, .inl (b.cch, 1200, .inl Y.ch)), (b.pva, .inl (b.cva, 8, .inl Y.va)), (b.pou, .inl (b.cou, 60, .inl Y.ou)), (b.ptx, .inl (b.ctx, 15, .inl Y.tx)), (b.pnb, .inl (b.cnb, 16, .inl Y.nb)), (b.psg, .inl (b.csg, 16, .inl Y.sg)), (b.pwh, .inl (b.cwh, 6, .inl Y.wh)), (b.pce, .inl (b.cce, 96, .inl Y.ce))] sz) := by
  refine Met.ofW (cc := b_Mo_firstOf) (maxL := 2) (ret := (some .int)) (by decide) rfl ?_
  intro p e s m args below meth c s₁ B hml hv
  obtain ⟨rfl, hsz, hP, hK, hD0, hkw, hX⟩ := hv
  have hx := B.exec
  have hb := B.bytes
  have hr := B.returns
  have hts := fun w hw => atoms_spec (ws := Cond.code y_Mo_firstOf b_Mo_firstOf 2 (some .int) :: gw) B.pre w (List.mem_cons_of_mem _ hw)
  have hown : s.vm.findClass "LineDiskModel" = some m.cls := findClass_of_methodNamed B.named
  have hlocks := B.notSynchronized
  have hin := (name_of_methodNamed B.named B.method).1
  subst hsz
  have hD := hD0.self (sz := s.heap.size)
  generalize hAe : va_A [(b.r0, .inr (5, [.int Y.th, .ref b.pdk, .int Y.ar, .int Y.de, .int Y.wr, .ref b.pln, .ref b.pch, .ref b.pva, .int Y.nx, .int (nI Y.os), .ref b.pou, .int (nI Y.tn), .ref b.ptx, .int Y.ol, .int (nI Y.fm), .int (nI Y.at1), .int (nI Y.en), .int Y.go, .int (nI Y.nn), .ref b.pnb, .int (nI Y.sn), .ref b.psg, .int (nI Y.my), .ref b.pwh, .ref b.pce])), (b.pdk, .inl (b.cdk, 512, .inl Y.dk)), (b.pln, .inl (b.cln, 100, .inl Y.ln)), (b.pch, .inl (b.cch, 1200, .inl Y.ch)), (b.pva, .inl (b.cva, 8, .inl Y.va)), (b.pou, .inl (b.cou, 60, .inl Y.ou)), (b.ptx, .inl (b.ctx, 15, .inl Y.tx)), (b.pnb, .inl (b.cnb, 16, .inl Y.nb)), (b.psg, .inl (b.csg, 16, .inl Y.sg)), (b.pwh, .inl (b.cwh, 6, .inl Y.wh)), (b.pce, .inl (b.cce, 96, .inl Y.ce))] s.heap.size = A at hD ⊢
  have hA : ∀ q : Nat, s.heap.size ≤ q → A q := fun q h => by rw [← hAe]; exact Or.inr h
  have hS : va_S A s.heap s.heap [] := va_S.rf
  have hl := lv_entry ([.ref b.r0, .int (nI k)]) (n := 2) (Nat.le_of_ble_eq_true rfl)
  rw [lg_entry_eq]
  generalize (lg_sl ([.ref b.r0, .int (nI k)]) ++ List.replicate (2 - (lg_sl ([.ref b.r0, .int (nI k)])).length) Slot.unset).toArray = ls at hl ⊢
  have hl : lv_has ls 2 [(0, .ref b.r0), (1, .int (nI k))] := hl
  have F : CallFix p m c b_Mo_firstOf 2 s ([.ref b.r0, .int (nI k)]).toArray gw "LineDiskModel" := ⟨hx, hb, hml, hown, hts⟩
  refine lv_aload_n hx hb d_Mo_firstOf_0 rfl (lv_at hl 0 rfl) ?_
  refine va_get (D := (dC, dI)) (ci := 5) (v := .ref b.pdk) (C := R_Mo) (T := F_Mo) (N := 25) hx hb hts in_Mo hown hK hP 0 rfl rfl 1 (by decide) (hts _ w_594) (fun _ h9 => h9) rfl d_Mo_firstOf_1 ?_
  refine lv_bipush (v := 17) hx hb d_Mo_firstOf_4 (by decide) ?_
  refine lv_iconst (v := 2) hx hb d_Mo_firstOf_6 (by decide) ?_
  refine lv_iload_n hx hb d_Mo_firstOf_7 rfl (lv_at hl 1 rfl) ?_
  refine lv_imul hx hb d_Mo_firstOf_8 ?_
  refine tv (x2 := nI (2 * k)) (by exact pk_mul 2 k) ?_
  refine lv_iadd hx hb d_Mo_firstOf_9 ?_
  refine tv (x2 := nI (17 + 2 * k)) (by exact nI_add 17 (2 * k)) ?_
  refine va_iald hx hb hK hP 1 0 rfl rfl (vp_in_nI (by omega) (by decide)) d_Mo_firstOf_10 ?_
  refine tv (x2 := Y.dk (17 + 2 * k)) (by exact by rw [nI_clamp (by omega)]) ?_
  refine W.widen (k := 0) (n := 0) (by decide) (by decide) ?_
  exact W.iret (v := Y.dk (17 + 2 * k)) hx hb hr (fun t ht hW => ⟨⟨Y.dk (17 + 2 * k), Y, rfl, ⟨rfl, rfl⟩, cB.of (hP.sub [0, 1, 2, 3, 4, 5, 6, 7, 8, 9, 10] rfl) (hD.sub [0, 1, 2, 3, 4, 5, 6, 7, 8, 9, 10] (by decide) rfl) (hK.sub [0, 1, 2, 3, 4, 5, 6, 7, 8, 9] rfl) ht hW⟩, hS.F ht⟩) hS.2.2 d_Mo_firstOf_11
set_option maxHeartbeats 4000000 in
set_option maxRecDepth 100000 in
theorem g_Mo_blocksOf (l : Launch) (dC : Nat → ClassId) (dI : Nat → Nat → Nat) (x : Int32) (sz : Nat) : Met l y_Mo_blocksOf (Cond.code y_Mo_blocksOf b_Mo_blocksOf 1 (some .int) :: gw) ({ frames := 0, cells := 0, slots := 0, locals := 0 }) (cP (dC, dI) [.int x] sz [] [] xT) (va_Qi (fun (r : Int32) (u : Unit) => r = (x + 15) / 16) (fun (u : Unit) t => cB (dC, dI) (va_A [] sz) [] [] t) (va_A [] sz)) 0 0 (va_A [] sz) := by
  refine Met.ofW (cc := b_Mo_blocksOf) (maxL := 1) (ret := (some .int)) (by decide) rfl ?_
  intro p e s m args below meth c s₁ B hml hv
  obtain ⟨rfl, hsz, hP, hK, hD0, hkw, hX⟩ := hv
  have hx := B.exec
  have hb := B.bytes
  have hr := B.returns
  have hts := fun w hw => atoms_spec (ws := Cond.code y_Mo_blocksOf b_Mo_blocksOf 1 (some .int) :: gw) B.pre w (List.mem_cons_of_mem _ hw)
  have hown : s.vm.findClass "LineDiskModel" = some m.cls := findClass_of_methodNamed B.named
  have hlocks := B.notSynchronized
  have hin := (name_of_methodNamed B.named B.method).1
  subst hsz
  have hD := hD0.self (sz := s.heap.size)
  generalize hAe : va_A [] s.heap.size = A at hD ⊢
  have hA : ∀ q : Nat, s.heap.size ≤ q → A q := fun q h => by rw [← hAe]; exact Or.inr h
  have hS : va_S A s.heap s.heap [] := va_S.rf
  have hl := lv_entry ([.int x]) (n := 1) (Nat.le_of_ble_eq_true rfl)
  rw [lg_entry_eq]
  generalize (lg_sl ([.int x]) ++ List.replicate (1 - (lg_sl ([.int x])).length) Slot.unset).toArray = ls at hl ⊢
  have hl : lv_has ls 1 [(0, .int x)] := hl
  have F : CallFix p m c b_Mo_blocksOf 1 s ([.int x]).toArray gw "LineDiskModel" := ⟨hx, hb, hml, hown, hts⟩
  refine lv_iload_n hx hb d_Mo_blocksOf_0 rfl (lv_at hl 0 rfl) ?_
  refine lv_bipush (v := 15) hx hb d_Mo_blocksOf_1 (by decide) ?_
  refine lv_iadd hx hb d_Mo_blocksOf_3 ?_
  refine lv_bipush (v := 16) hx hb d_Mo_blocksOf_4 (by decide) ?_
  refine lv_idiv hx hb d_Mo_blocksOf_6 (by decide) ?_
  refine W.widen (k := 0) (n := 0) (by decide) (by decide) ?_
  exact W.iret (v := (x + 15) / 16) hx hb hr (fun t ht hW => ⟨⟨(x + 15) / 16, (), rfl, rfl, cB.of (hP.sub [] rfl) (hD.sub [] (by decide) rfl) (hK.sub [] rfl) ht hW⟩, hS.F ht⟩) hS.2.2 d_Mo_blocksOf_7
set_option maxHeartbeats 4000000 in
set_option maxRecDepth 100000 in
theorem g_Mo_isDigit (l : Launch) (dC : Nat → ClassId) (dI : Nat → Nat → Nat) (x : Int32) (sz : Nat) : Met l y_Mo_isDigit (Cond.code y_Mo_isDigit b_Mo_isDigit 1 (some .boolean) :: gw) ({ frames := 0, cells := 0, slots := 0, locals := 0 }) (cP (dC, dI) [.int x] sz [] [] xT) (va_Qi (fun (r : Int32) (u : Unit) => r = dgt x) (fun (u : Unit) t => cB (dC, dI) (va_A [] sz) [] [] t) (va_A [] sz)) 0 0 (va_A [] sz) := by
  refine Met.ofW (cc := b_Mo_isDigit) (maxL := 1) (ret := (some .boolean)) (by decide) rfl ?_
  intro p e s m args below meth c s₁ B hml hv
  obtain ⟨rfl, hsz, hP, hK, hD0, hkw, hX⟩ := hv
  have hx := B.exec
  have hb := B.bytes
  have hr := B.returns
  have hts := fun w hw => atoms_spec (ws := Cond.code y_Mo_isDigit b_Mo_isDigit 1 (some .boolean) :: gw) B.pre w (List.mem_cons_of_mem _ hw)
  have hown : s.vm.findClass "LineDiskModel" = some m.cls := findClass_of_methodNamed B.named
  have hlocks := B.notSynchronized
  have hin := (name_of_methodNamed B.named B.method).1
  subst hsz
  have hD := hD0.self (sz := s.heap.size)
  generalize hAe : va_A [] s.heap.size = A at hD ⊢
  have hA : ∀ q : Nat, s.heap.size ≤ q → A q := fun q h => by rw [← hAe]; exact Or.inr h
  have hS : va_S A s.heap s.heap [] := va_S.rf
  have hl := lv_entry ([.int x]) (n := 1) (Nat.le_of_ble_eq_true rfl)
  rw [lg_entry_eq]
  generalize (lg_sl ([.int x]) ++ List.replicate (1 - (lg_sl ([.int x])).length) Slot.unset).toArray = ls at hl ⊢
  have hl : lv_has ls 1 [(0, .int x)] := hl
  have F : CallFix p m c b_Mo_isDigit 1 s ([.int x]).toArray gw "LineDiskModel" := ⟨hx, hb, hml, hown, hts⟩
  refine lv_iload_n hx hb d_Mo_isDigit_0 rfl (lv_at hl 0 rfl) ?_
  refine lv_bipush (v := 48) hx hb d_Mo_isDigit_1 (by decide) ?_
  refine lv_icmp_lt (tgt := 16) hx hb d_Mo_isDigit_3 (by decide) (fun c3 => ?_) (fun c3 => ?_)
  · skip
    refine lv_iconst (v := 0) hx hb d_Mo_isDigit_16 (by decide) ?_
    refine W.widen (k := 0) (n := 0) (by decide) (by decide) ?_
    exact W.zret (v := 0) hx hb hr (rfl) (fun t ht hW => ⟨⟨0, (), rfl, by (simp only [dgt, c3, if_true, if_false, not_true_eq_false, not_false_eq_true, ite_not] <;> try simp), cB.of (hP.sub [] rfl) (hD.sub [] (by decide) rfl) (hK.sub [] rfl) ht hW⟩, hS.F ht⟩) hS.2.2 d_Mo_isDigit_17
  · skip
    refine lv_iload_n hx hb d_Mo_isDigit_6 rfl (lv_at hl 0 rfl) ?_
    refine lv_bipush (v := 57) hx hb d_Mo_isDigit_7 (by decide) ?_
    refine lv_icmp_gt (tgt := 16) hx hb d_Mo_isDigit_9 (by decide) (fun c9 => ?_) (fun c9 => ?_)
    · skip
      refine lv_iconst (v := 0) hx hb d_Mo_isDigit_16 (by decide) ?_
      refine W.widen (k := 0) (n := 0) (by decide) (by decide) ?_
      exact W.zret (v := 0) hx hb hr (rfl) (fun t ht hW => ⟨⟨0, (), rfl, by (simp only [dgt, c3, c9, if_true, if_false, not_true_eq_false, not_false_eq_true, ite_not] <;> try simp), cB.of (hP.sub [] rfl) (hD.sub [] (by decide) rfl) (hK.sub [] rfl) ht hW⟩, hS.F ht⟩) hS.2.2 d_Mo_isDigit_17
    · skip
      refine lv_iconst (v := 1) hx hb d_Mo_isDigit_12 (by decide) ?_
      refine lv_goto (tgt := 17) hx hb d_Mo_isDigit_13 (by decide) ?_
      refine W.widen (k := 0) (n := 0) (by decide) (by decide) ?_
      exact W.zret (v := 1) hx hb hr (rfl) (fun t ht hW => ⟨⟨1, (), rfl, by (simp only [dgt, c3, c9, if_true, if_false, not_true_eq_false, not_false_eq_true, ite_not] <;> try simp), cB.of (hP.sub [] rfl) (hD.sub [] (by decide) rfl) (hK.sub [] rfl) ht hW⟩, hS.F ht⟩) hS.2.2 d_Mo_isDigit_17
set_option maxHeartbeats 4000000 in
set_option maxRecDepth 100000 in
theorem g_Mo_isVariable (l : Launch) (dC : Nat → ClassId) (dI : Nat → Nat → Nat) (x : Int32) (sz : Nat) : Met l y_Mo_isVariable (Cond.code y_Mo_isVariable b_Mo_isVariable 1 (some .boolean) :: gw) ({ frames := 0, cells := 0, slots := 0, locals := 0 }) (cP (dC, dI) [.int x] sz [] [] xT) (va_Qi (fun (r : Int32) (u : Unit) => r = mvr x) (fun (u : Unit) t => cB (dC, dI) (va_A [] sz) [] [] t) (va_A [] sz)) 0 0 (va_A [] sz) := by
  refine Met.ofW (cc := b_Mo_isVariable) (maxL := 1) (ret := (some .boolean)) (by decide) rfl ?_
  intro p e s m args below meth c s₁ B hml hv
  obtain ⟨rfl, hsz, hP, hK, hD0, hkw, hX⟩ := hv
  have hx := B.exec
  have hb := B.bytes
  have hr := B.returns
  have hts := fun w hw => atoms_spec (ws := Cond.code y_Mo_isVariable b_Mo_isVariable 1 (some .boolean) :: gw) B.pre w (List.mem_cons_of_mem _ hw)
  have hown : s.vm.findClass "LineDiskModel" = some m.cls := findClass_of_methodNamed B.named
  have hlocks := B.notSynchronized
  have hin := (name_of_methodNamed B.named B.method).1
  subst hsz
  have hD := hD0.self (sz := s.heap.size)
  generalize hAe : va_A [] s.heap.size = A at hD ⊢
  have hA : ∀ q : Nat, s.heap.size ≤ q → A q := fun q h => by rw [← hAe]; exact Or.inr h
  have hS : va_S A s.heap s.heap [] := va_S.rf
  have hl := lv_entry ([.int x]) (n := 1) (Nat.le_of_ble_eq_true rfl)
  rw [lg_entry_eq]
  generalize (lg_sl ([.int x]) ++ List.replicate (1 - (lg_sl ([.int x])).length) Slot.unset).toArray = ls at hl ⊢
  have hl : lv_has ls 1 [(0, .int x)] := hl
  have F : CallFix p m c b_Mo_isVariable 1 s ([.int x]).toArray gw "LineDiskModel" := ⟨hx, hb, hml, hown, hts⟩
  refine lv_iload_n hx hb d_Mo_isVariable_0 rfl (lv_at hl 0 rfl) ?_
  refine lv_bipush (v := 65) hx hb d_Mo_isVariable_1 (by decide) ?_
  refine lv_icmp_lt (tgt := 16) hx hb d_Mo_isVariable_3 (by decide) (fun c3 => ?_) (fun c3 => ?_)
  · skip
    refine lv_iconst (v := 0) hx hb d_Mo_isVariable_16 (by decide) ?_
    refine W.widen (k := 0) (n := 0) (by decide) (by decide) ?_
    exact W.zret (v := 0) hx hb hr (rfl) (fun t ht hW => ⟨⟨0, (), rfl, by (simp only [mvr, c3, if_true, if_false, not_true_eq_false, not_false_eq_true, ite_not] <;> try simp), cB.of (hP.sub [] rfl) (hD.sub [] (by decide) rfl) (hK.sub [] rfl) ht hW⟩, hS.F ht⟩) hS.2.2 d_Mo_isVariable_17
  · skip
    refine lv_iload_n hx hb d_Mo_isVariable_6 rfl (lv_at hl 0 rfl) ?_
    refine lv_bipush (v := 72) hx hb d_Mo_isVariable_7 (by decide) ?_
    refine lv_icmp_gt (tgt := 16) hx hb d_Mo_isVariable_9 (by decide) (fun c9 => ?_) (fun c9 => ?_)
    · skip
      refine lv_iconst (v := 0) hx hb d_Mo_isVariable_16 (by decide) ?_
      refine W.widen (k := 0) (n := 0) (by decide) (by decide) ?_
      exact W.zret (v := 0) hx hb hr (rfl) (fun t ht hW => ⟨⟨0, (), rfl, by (simp only [mvr, c3, c9, if_true, if_false, not_true_eq_false, not_false_eq_true, ite_not] <;> try simp), cB.of (hP.sub [] rfl) (hD.sub [] (by decide) rfl) (hK.sub [] rfl) ht hW⟩, hS.F ht⟩) hS.2.2 d_Mo_isVariable_17
    · skip
      refine lv_iconst (v := 1) hx hb d_Mo_isVariable_12 (by decide) ?_
      refine lv_goto (tgt := 17) hx hb d_Mo_isVariable_13 (by decide) ?_
      refine W.widen (k := 0) (n := 0) (by decide) (by decide) ?_
      exact W.zret (v := 1) hx hb hr (rfl) (fun t ht hW => ⟨⟨1, (), rfl, by (simp only [mvr, c3, c9, if_true, if_false, not_true_eq_false, not_false_eq_true, ite_not] <;> try simp), cB.of (hP.sub [] rfl) (hD.sub [] (by decide) rfl) (hK.sub [] rfl) ht hW⟩, hS.F ht⟩) hS.2.2 d_Mo_isVariable_17
def hrF (Y : RSt) : Int32 := if Y.at1 < Y.en then (if Y.ol = 0 then Y.tx (Y.fm + Y.at1) else Y.ch (Y.fm + Y.at1)) else -1
set_option maxHeartbeats 4000000 in
set_option maxRecDepth 100000 in
theorem g_Mo_here (l : Launch) (dC : Nat → ClassId) (dI : Nat → Nat → Nat) (b : RAd) (Y : RSt) (h1 : Y.at1 ≤ 1200) (h2 : Y.fm + Y.en ≤ 1200) (h3 : Y.ol = 0 → Y.fm + Y.en ≤ 15) (sz : Nat) : Met l y_Mo_here (Cond.code y_Mo_here b_Mo_here 1 (some .int) :: gw) ({ frames := 0, cells := 0, slots := 0, locals := 0 }) (cP (dC, dI) [.ref b.r0] sz [(b.r0, .inr (5, [.int Y.th, .ref b.pdk, .int Y.ar, .int Y.de, .int Y.wr, .ref b.pln, .ref b.pch, .ref b.pva, .int Y.nx, .int (nI Y.os), .ref b.pou, .int (nI Y.tn), .ref b.ptx, .int Y.ol, .int (nI Y.fm), .int (nI Y.at1), .int (nI Y.en), .int Y.go, .int (nI Y.nn), .ref b.pnb, .int (nI Y.sn), .ref b.psg, .int (nI Y.my), .ref b.pwh, .ref b.pce])), (b.pdk, .inl (b.cdk, 512, .inl Y.dk)), (b.pln, .inl (b.cln, 100, .inl Y.ln)), (b.pch, .inl (b.cch, 1200, .inl Y.ch)), (b.pva, .inl (b.cva, 8, .inl Y.va)), (b.pou, .inl (b.cou, 60, .inl Y.ou)), (b.ptx, .inl (b.ctx, 15, .inl Y.tx)), (b.pnb, .inl (b.cnb, 16, .inl Y.nb)), (b.psg, .inl (b.csg, 16, .inl Y.sg)), (b.pwh, .inl (b.cwh, 6, .inl Y.wh)), (b.pce, .inl (b.cce, 96, .inl Y.ce))] [(b.cdk, .int), (b.cln, .int), (b.cch, .int), (b.cva, .int), (b.cou, .int), (b.ctx, .int), (b.cnb, .int), (b.csg, .int), (b.cwh, .int), (b.cce, .int)] xT) (va_Qi (fun (r : Int32) (u : RSt) => r = hrF Y ∧ u = Y) (fun (u : RSt) t => cB (dC, dI) (va_A [(b.r0, .inr (5, [.int Y.th, .ref b.pdk, .int Y.ar, .int Y.de, .int Y.wr, .ref b.pln, .ref b.pch, .ref b.pva, .int Y.nx, .int (nI Y.os), .ref b.pou, .int (nI Y.tn), .ref b.ptx, .int Y.ol, .int (nI Y.fm), .int (nI Y.at1), .int (nI Y.en), .int Y.go, .int (nI Y.nn), .ref b.pnb, .int (nI Y.sn), .ref b.psg, .int (nI Y.my), .ref b.pwh, .ref b.pce])), (b.pdk, .inl (b.cdk, 512, .inl Y.dk)), (b.pln, .inl (b.cln, 100, .inl Y.ln)), (b.pch, .inl (b.cch, 1200, .inl Y.ch)), (b.pva, .inl (b.cva, 8, .inl Y.va)), (b.pou, .inl (b.cou, 60, .inl Y.ou)), (b.ptx, .inl (b.ctx, 15, .inl Y.tx)), (b.pnb, .inl (b.cnb, 16, .inl Y.nb)), (b.psg, .inl (b.csg, 16, .inl Y.sg)), (b.pwh, .inl (b.cwh, 6, .inl Y.wh)), (b.pce, .inl (b.cce, 96, .inl Y.ce))] sz) [(b.r0, .inr (5, [.int u.th, .ref b.pdk, .int u.ar, .int u.de, .int u.wr, .ref b.pln, .ref b.pch, .ref b.pva, .int u.nx, .int (nI u.os), .ref b.pou, .int (nI u.tn), .ref b.ptx, .int u.ol, .int (nI u.fm), .int (nI u.at1), .int (nI u.en), .int u.go, .int (nI u.nn), .ref b.pnb, .int (nI u.sn), .ref b.psg, .int (nI u.my), .ref b.pwh, .ref b.pce])), (b.pdk, .inl (b.cdk, 512, .inl u.dk)), (b.pln, .inl (b.cln, 100, .inl u.ln)), (b.pch, .inl (b.cch, 1200, .inl u.ch)), (b.pva, .inl (b.cva, 8, .inl u.va)), (b.pou, .inl (b.cou, 60, .inl u.ou)), (b.ptx, .inl (b.ctx, 15, .inl u.tx)), (b.pnb, .inl (b.cnb, 16, .inl u.nb)), (b.psg, .inl (b.csg, 16, .inl u.sg)), (b.pwh, .inl (b.cwh, 6, .inl u.wh)), (b.pce, .inl (b.cce, 96, .inl u.ce))] [(b.cdk, .int), (b.cln, .int), (b.cch, .int), (b.cva, .int), (b.cou, .int), (b.ctx, .int), (b.cnb, .int), (b.csg, .int), (b.cwh, .int), (b.cce, .int)] t) (va_A [(b.r0, .inr (5, [.int Y.th, .ref b.pdk, .int Y.ar, .int Y.de, .int Y.wr, .ref b.pln, .ref b.pch, .ref b.pva, .int Y.nx, .int (nI Y.os), .ref b.pou, .int (nI Y.tn), .ref b.ptx, .int Y.ol, .int (nI Y.fm), .int (nI Y.at1), .int (nI Y.en), .int Y.go, .int (nI Y.nn), .ref b.pnb, .int (nI Y.sn), .ref b.psg, .int (nI Y.my), .ref b.pwh, .ref b.pce])), (b.pdk, .inl (b.cdk, 512, .inl Y.dk)), (b.pln, .inl (b.cln, 100, .inl Y.ln)), (b.pch, .inl (b.cch, 1200, .inl Y.ch)), (b.pva, .inl (b.cva, 8, .inl Y.va)), (b.pou, .inl (b.cou, 60, .inl Y.ou)), (b.ptx, .inl (b.ctx, 15, .inl Y.tx)), (b.pnb, .inl (b.cnb, 16, .inl Y.nb)), (b.psg, .inl (b.csg, 16, .inl Y.sg)), (b.pwh, .inl (b.cwh, 6, .inl Y.wh)), (b.pce, .inl (b.cce, 96, .inl Y.ce))] sz)) 0 0 (va_A [(b.r0, .inr (5, [.int Y.th, .ref b.pdk, .int Y.ar, .int Y.de, .int Y.wr, .ref b.pln, .ref b.pch, .ref b.pva, .int Y.nx, .int (nI Y.os), .ref b.pou, .int (nI Y.tn), .ref b.ptx, .int Y.ol, .int (nI Y.fm), .int (nI Y.at1), .int (nI Y.en), .int Y.go, .int (nI Y.nn), .ref b.pnb, .int (nI Y.sn), .ref b.psg, .int (nI Y.my), .ref b.pwh, .ref b.pce])), (b.pdk, .inl (b.cdk, 512, .inl Y.dk)), (b.pln, .inl (b.cln, 100, .inl Y.ln)), (b.pch, .inl (b.cch, 1200, .inl Y.ch)), (b.pva, .inl (b.cva, 8, .inl Y.va)), (b.pou, .inl (b.cou, 60, .inl Y.ou)), (b.ptx, .inl (b.ctx, 15, .inl Y.tx)), (b.pnb, .inl (b.cnb, 16, .inl Y.nb)), (b.psg, .inl (b.csg, 16, .inl Y.sg)), (b.pwh, .inl (b.cwh, 6, .inl Y.wh)), (b.pce, .inl (b.cce, 96, .inl Y.ce))] sz) := by
  refine Met.ofW (cc := b_Mo_here) (maxL := 1) (ret := (some .int)) (by decide) rfl ?_
  intro p e s m args below meth c s₁ B hml hv
  obtain ⟨rfl, hsz, hP, hK, hD0, hkw, hX⟩ := hv
  have hx := B.exec
  have hb := B.bytes
  have hr := B.returns
  have hts := fun w hw => atoms_spec (ws := Cond.code y_Mo_here b_Mo_here 1 (some .int) :: gw) B.pre w (List.mem_cons_of_mem _ hw)
  have hown : s.vm.findClass "LineDiskModel" = some m.cls := findClass_of_methodNamed B.named
  have hlocks := B.notSynchronized
  have hin := (name_of_methodNamed B.named B.method).1
  subst hsz
  have hD := hD0.self (sz := s.heap.size)
  generalize hAe : va_A [(b.r0, .inr (5, [.int Y.th, .ref b.pdk, .int Y.ar, .int Y.de, .int Y.wr, .ref b.pln, .ref b.pch, .ref b.pva, .int Y.nx, .int (nI Y.os), .ref b.pou, .int (nI Y.tn), .ref b.ptx, .int Y.ol, .int (nI Y.fm), .int (nI Y.at1), .int (nI Y.en), .int Y.go, .int (nI Y.nn), .ref b.pnb, .int (nI Y.sn), .ref b.psg, .int (nI Y.my), .ref b.pwh, .ref b.pce])), (b.pdk, .inl (b.cdk, 512, .inl Y.dk)), (b.pln, .inl (b.cln, 100, .inl Y.ln)), (b.pch, .inl (b.cch, 1200, .inl Y.ch)), (b.pva, .inl (b.cva, 8, .inl Y.va)), (b.pou, .inl (b.cou, 60, .inl Y.ou)), (b.ptx, .inl (b.ctx, 15, .inl Y.tx)), (b.pnb, .inl (b.cnb, 16, .inl Y.nb)), (b.psg, .inl (b.csg, 16, .inl Y.sg)), (b.pwh, .inl (b.cwh, 6, .inl Y.wh)), (b.pce, .inl (b.cce, 96, .inl Y.ce))] s.heap.size = A at hD ⊢
  have hA : ∀ q : Nat, s.heap.size ≤ q → A q := fun q h => by rw [← hAe]; exact Or.inr h
  have hS : va_S A s.heap s.heap [] := va_S.rf
  have hl := lv_entry ([.ref b.r0]) (n := 1) (Nat.le_of_ble_eq_true rfl)
  rw [lg_entry_eq]
  generalize (lg_sl ([.ref b.r0]) ++ List.replicate (1 - (lg_sl ([.ref b.r0])).length) Slot.unset).toArray = ls at hl ⊢
  have hl : lv_has ls 1 [(0, .ref b.r0)] := hl
  have F : CallFix p m c b_Mo_here 1 s ([.ref b.r0]).toArray gw "LineDiskModel" := ⟨hx, hb, hml, hown, hts⟩
  refine lv_aload_n hx hb d_Mo_here_0 rfl (lv_at hl 0 rfl) ?_
  refine va_get (D := (dC, dI)) (ci := 5) (v := .int (nI Y.at1)) (C := R_Mo) (T := F_Mo) (N := 25) hx hb hts in_Mo hown hK hP 0 rfl rfl 15 (by decide) (hts _ w_608) (fun _ h9 => h9) rfl d_Mo_here_1 ?_
  refine lv_aload_n hx hb d_Mo_here_4 rfl (lv_at hl 0 rfl) ?_
  refine va_get (D := (dC, dI)) (ci := 5) (v := .int (nI Y.en)) (C := R_Mo) (T := F_Mo) (N := 25) hx hb hts in_Mo hown hK hP 0 rfl rfl 16 (by decide) (hts _ w_609) (fun _ h9 => h9) rfl d_Mo_here_5 ?_
  refine lv_icmp_lt (tgt := 15) hx hb d_Mo_here_8 (by decide) (fun c8 => ?_) (fun c8 => ?_)
  · skip
    refine lv_aload_n hx hb d_Mo_here_15 rfl (lv_at hl 0 rfl) ?_
    refine va_get (D := (dC, dI)) (ci := 5) (v := .int Y.ol) (C := R_Mo) (T := F_Mo) (N := 25) hx hb hts in_Mo hown hK hP 0 rfl rfl 13 (by decide) (hts _ w_606) (fun _ h9 => h9) rfl d_Mo_here_16 ?_
    refine lv_if_eq (tgt := 39) hx hb d_Mo_here_19 (by decide) (fun c19 => ?_) (fun c19 => ?_)
    · skip
      refine lv_aload_n hx hb d_Mo_here_39 rfl (lv_at hl 0 rfl) ?_
      refine va_get (D := (dC, dI)) (ci := 5) (v := .ref b.ptx) (C := R_Mo) (T := F_Mo) (N := 25) hx hb hts in_Mo hown hK hP 0 rfl rfl 12 (by decide) (hts _ w_605) (fun _ h9 => h9) rfl d_Mo_here_40 ?_
      refine lv_aload_n hx hb d_Mo_here_43 rfl (lv_at hl 0 rfl) ?_
      refine va_get (D := (dC, dI)) (ci := 5) (v := .int (nI Y.fm)) (C := R_Mo) (T := F_Mo) (N := 25) hx hb hts in_Mo hown hK hP 0 rfl rfl 14 (by decide) (hts _ w_607) (fun _ h9 => h9) rfl d_Mo_here_44 ?_
      refine lv_aload_n hx hb d_Mo_here_47 rfl (lv_at hl 0 rfl) ?_
      refine va_get (D := (dC, dI)) (ci := 5) (v := .int (nI Y.at1)) (C := R_Mo) (T := F_Mo) (N := 25) hx hb hts in_Mo hown hK hP 0 rfl rfl 15 (by decide) (hts _ w_608) (fun _ h9 => h9) rfl d_Mo_here_48 ?_
      refine lv_iadd hx hb d_Mo_here_51 ?_
      refine tv (x2 := nI (Y.fm + Y.at1)) (by exact nI_add _ _) ?_
      refine va_iald hx hb hK hP 6 5 rfl rfl (by rw [nI_ltI (by omega) (by omega)] at c8; have := h3 c19; exact vp_in_nI (by omega) (by decide)) d_Mo_here_52 ?_
      refine tv (x2 := Y.tx (Y.fm + Y.at1)) (by exact by rw [nI_ltI (by omega) (by omega)] at c8; rw [nI_clamp (by omega)]) ?_
      refine W.widen (k := 0) (n := 0) (by decide) (by decide) ?_
      exact W.iret (v := Y.tx (Y.fm + Y.at1)) hx hb hr (fun t ht hW => ⟨⟨Y.tx (Y.fm + Y.at1), Y, rfl, ⟨by rw [nI_ltI (by omega) (by omega)] at c8; unfold hrF; rw [if_pos c8, if_pos c19], rfl⟩, cB.of (hP.sub [0, 1, 2, 3, 4, 5, 6, 7, 8, 9, 10] rfl) (hD.sub [0, 1, 2, 3, 4, 5, 6, 7, 8, 9, 10] (by decide) rfl) (hK.sub [0, 1, 2, 3, 4, 5, 6, 7, 8, 9] rfl) ht hW⟩, hS.F ht⟩) hS.2.2 d_Mo_here_53
    · skip
      refine lv_aload_n hx hb d_Mo_here_22 rfl (lv_at hl 0 rfl) ?_
      refine va_get (D := (dC, dI)) (ci := 5) (v := .ref b.pch) (C := R_Mo) (T := F_Mo) (N := 25) hx hb hts in_Mo hown hK hP 0 rfl rfl 6 (by decide) (hts _ w_599) (fun _ h9 => h9) rfl d_Mo_here_23 ?_
      refine lv_aload_n hx hb d_Mo_here_26 rfl (lv_at hl 0 rfl) ?_
      refine va_get (D := (dC, dI)) (ci := 5) (v := .int (nI Y.fm)) (C := R_Mo) (T := F_Mo) (N := 25) hx hb hts in_Mo hown hK hP 0 rfl rfl 14 (by decide) (hts _ w_607) (fun _ h9 => h9) rfl d_Mo_here_27 ?_
      refine lv_aload_n hx hb d_Mo_here_30 rfl (lv_at hl 0 rfl) ?_
      refine va_get (D := (dC, dI)) (ci := 5) (v := .int (nI Y.at1)) (C := R_Mo) (T := F_Mo) (N := 25) hx hb hts in_Mo hown hK hP 0 rfl rfl 15 (by decide) (hts _ w_608) (fun _ h9 => h9) rfl d_Mo_here_31 ?_
      refine lv_iadd hx hb d_Mo_here_34 ?_
      refine tv (x2 := nI (Y.fm + Y.at1)) (by exact nI_add _ _) ?_
      refine va_iald hx hb hK hP 3 2 rfl rfl (by rw [nI_ltI (by omega) (by omega)] at c8; exact vp_in_nI (by omega) (by decide)) d_Mo_here_35 ?_
      refine tv (x2 := Y.ch (Y.fm + Y.at1)) (by exact by rw [nI_ltI (by omega) (by omega)] at c8; rw [nI_clamp (by omega)]) ?_
      refine lv_goto (tgt := 53) hx hb d_Mo_here_36 (by decide) ?_
      refine W.widen (k := 0) (n := 0) (by decide) (by decide) ?_
      exact W.iret (v := Y.ch (Y.fm + Y.at1)) hx hb hr (fun t ht hW => ⟨⟨Y.ch (Y.fm + Y.at1), Y, rfl, ⟨by rw [nI_ltI (by omega) (by omega)] at c8; unfold hrF; rw [if_pos c8, if_neg c19], rfl⟩, cB.of (hP.sub [0, 1, 2, 3, 4, 5, 6, 7, 8, 9, 10] rfl) (hD.sub [0, 1, 2, 3, 4, 5, 6, 7, 8, 9, 10] (by decide) rfl) (hK.sub [0, 1, 2, 3, 4, 5, 6, 7, 8, 9] rfl) ht hW⟩, hS.F ht⟩) hS.2.2 d_Mo_here_53
  · skip
    refine lv_iconst (v := (-1)) hx hb d_Mo_here_11 (by decide) ?_
    refine lv_goto (tgt := 53) hx hb d_Mo_here_12 (by decide) ?_
    refine W.widen (k := 0) (n := 0) (by decide) (by decide) ?_
    exact W.iret (v := (-1)) hx hb hr (fun t ht hW => ⟨⟨(-1), Y, rfl, ⟨by rw [nI_ltI (by omega) (by omega)] at c8; unfold hrF; rw [if_neg c8], rfl⟩, cB.of (hP.sub [0, 1, 2, 3, 4, 5, 6, 7, 8, 9, 10] rfl) (hD.sub [0, 1, 2, 3, 4, 5, 6, 7, 8, 9, 10] (by decide) rfl) (hK.sub [0, 1, 2, 3, 4, 5, 6, 7, 8, 9] rfl) ht hW⟩, hS.F ht⟩) hS.2.2 d_Mo_here_53
