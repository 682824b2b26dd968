/-! the reference, in any state -/
abbrev RAd : Type := Nat × Nat × Nat × Nat × Nat × Nat × Nat × Nat × Nat × Nat × Nat × ClassId × ClassId × ClassId × ClassId × ClassId × ClassId × ClassId × ClassId × ClassId × ClassId
abbrev RAd.r0 : RAd → Nat := fun L => L.1
abbrev RAd.pdk : RAd → Nat := fun L => L.2.1
abbrev RAd.pln : RAd → Nat := fun L => L.2.2.1
abbrev RAd.pch : RAd → Nat := fun L => L.2.2.2.1
abbrev RAd.pva : RAd → Nat := fun L => L.2.2.2.2.1
abbrev RAd.pou : RAd → Nat := fun L => L.2.2.2.2.2.1
abbrev RAd.ptx : RAd → Nat := fun L => L.2.2.2.2.2.2.1
abbrev RAd.pnb : RAd → Nat := fun L => L.2.2.2.2.2.2.2.1
abbrev RAd.psg : RAd → Nat := fun L => L.2.2.2.2.2.2.2.2.1
abbrev RAd.pwh : RAd → Nat := fun L => L.2.2.2.2.2.2.2.2.2.1
abbrev RAd.pce : RAd → Nat := fun L => L.2.2.2.2.2.2.2.2.2.2.1
abbrev RAd.cdk : RAd → ClassId := fun L => L.2.2.2.2.2.2.2.2.2.2.2.1
abbrev RAd.cln : RAd → ClassId := fun L => L.2.2.2.2.2.2.2.2.2.2.2.2.1
abbrev RAd.cch : RAd → ClassId := fun L => L.2.2.2.2.2.2.2.2.2.2.2.2.2.1
abbrev RAd.cva : RAd → ClassId := fun L => L.2.2.2.2.2.2.2.2.2.2.2.2.2.2.1
abbrev RAd.cou : RAd → ClassId := fun L => L.2.2.2.2.2.2.2.2.2.2.2.2.2.2.2.1
abbrev RAd.ctx : RAd → ClassId := fun L => L.2.2.2.2.2.2.2.2.2.2.2.2.2.2.2.2.1
abbrev RAd.cnb : RAd → ClassId := fun L => L.2.2.2.2.2.2.2.2.2.2.2.2.2.2.2.2.2.1
abbrev RAd.csg : RAd → ClassId := fun L => L.2.2.2.2.2.2.2.2.2.2.2.2.2.2.2.2.2.2.1
abbrev RAd.cwh : RAd → ClassId := fun L => L.2.2.2.2.2.2.2.2.2.2.2.2.2.2.2.2.2.2.2.1
abbrev RAd.cce : RAd → ClassId := fun L => L.2.2.2.2.2.2.2.2.2.2.2.2.2.2.2.2.2.2.2.2
abbrev RSt : Type := Int32 × Int32 × Int32 × Int32 × Int32 × Nat × Nat × Int32 × Nat × Nat × Nat × Int32 × Nat × Nat × Nat × (Nat → Int32) × (Nat → Int32) × (Nat → Int32) × (Nat → Int32) × (Nat → Int32) × (Nat → Int32) × (Nat → Int32) × (Nat → Int32) × (Nat → Int32) × (Nat → Int32)
abbrev RSt.th : RSt → Int32 := fun L => L.1
abbrev RSt.ar : RSt → Int32 := fun L => L.2.1
abbrev RSt.de : RSt → Int32 := fun L => L.2.2.1
abbrev RSt.wr : RSt → Int32 := fun L => L.2.2.2.1
abbrev RSt.nx : RSt → Int32 := fun L => L.2.2.2.2.1
abbrev RSt.os : RSt → Nat := fun L => L.2.2.2.2.2.1
abbrev RSt.tn : RSt → Nat := fun L => L.2.2.2.2.2.2.1
abbrev RSt.ol : RSt → Int32 := fun L => L.2.2.2.2.2.2.2.1
abbrev RSt.fm : RSt → Nat := fun L => L.2.2.2.2.2.2.2.2.1
abbrev RSt.at1 : RSt → Nat := fun L => L.2.2.2.2.2.2.2.2.2.1
abbrev RSt.en : RSt → Nat := fun L => L.2.2.2.2.2.2.2.2.2.2.1
abbrev RSt.go : RSt → Int32 := fun L => L.2.2.2.2.2.2.2.2.2.2.2.1
abbrev RSt.nn : RSt → Nat := fun L => L.2.2.2.2.2.2.2.2.2.2.2.2.1
abbrev RSt.sn : RSt → Nat := fun L => L.2.2.2.2.2.2.2.2.2.2.2.2.2.1
abbrev RSt.my : RSt → Nat := fun L => L.2.2.2.2.2.2.2.2.2.2.2.2.2.2.1
abbrev RSt.dk : RSt → (Nat → Int32) := fun L => L.2.2.2.2.2.2.2.2.2.2.2.2.2.2.2.1
abbrev RSt.ln : RSt → (Nat → Int32) := fun L => L.2.2.2.2.2.2.2.2.2.2.2.2.2.2.2.2.1
abbrev RSt.ch : RSt → (Nat → Int32) := fun L => L.2.2.2.2.2.2.2.2.2.2.2.2.2.2.2.2.2.1
abbrev RSt.va : RSt → (Nat → Int32) := fun L => L.2.2.2.2.2.2.2.2.2.2.2.2.2.2.2.2.2.2.1
abbrev RSt.ou : RSt → (Nat → Int32) := fun L => L.2.2.2.2.2.2.2.2.2.2.2.2.2.2.2.2.2.2.2.1
abbrev RSt.tx : RSt → (Nat → Int32) := fun L => L.2.2.2.2.2.2.2.2.2.2.2.2.2.2.2.2.2.2.2.2.1
abbrev RSt.nb : RSt → (Nat → Int32) := fun L => L.2.2.2.2.2.2.2.2.2.2.2.2.2.2.2.2.2.2.2.2.2.1
abbrev RSt.sg : RSt → (Nat → Int32) := fun L => L.2.2.2.2.2.2.2.2.2.2.2.2.2.2.2.2.2.2.2.2.2.2.1
abbrev RSt.wh : RSt → (Nat → Int32) := fun L => L.2.2.2.2.2.2.2.2.2.2.2.2.2.2.2.2.2.2.2.2.2.2.2.1
abbrev RSt.ce : RSt → (Nat → Int32) := fun L => L.2.2.2.2.2.2.2.2.2.2.2.2.2.2.2.2.2.2.2.2.2.2.2.2
set_option maxHeartbeats 4000000 in
set_option maxRecDepth 100000 in
theorem g_Mo_formatted (l : Launch) (dC : Nat → ClassId) (dI : Nat → Nat → Nat) (b : RAd) (Y : RSt)  (sz : Nat) : Met l y_Mo_formatted (Cond.code y_Mo_formatted b_Mo_formatted 1 (some .boolean) :: gw) ({ frames := 0, cells := 0, slots := 0, locals := 0 }) (cP (dC, dI) [.ref b.r0] sz [(b.r0, .inr (5, [.int Y.th, .ref b.pdk, .int Y.ar, .int Y.de, .int Y.wr, .ref b.pln, .ref b.pch, .ref b.pva, .int Y.nx, .int (nI Y.os), .ref b.pou, .int (nI Y.tn), .ref b.ptx, .int Y.ol, .int (nI Y.fm), .int (nI Y.at1), .int (nI Y.en), .int Y.go, .int (nI Y.nn), .ref b.pnb, .int (nI Y.sn), .ref b.psg, .int (nI Y.my), .ref b.pwh, .ref b.pce])), (b.pdk, .inl (b.cdk, 512, .inl Y.dk)), (b.pln, .inl (b.cln, 100, .inl Y.ln)), (b.pch, .inl (b.cch, 1200, .inl Y.ch)), (b.pva, .inl (b.cva, 8, .inl Y.va)), (b.pou, .inl (b.cou, 60, .inl Y.ou)), (b.ptx, .inl (b.ctx, 15, .inl Y.tx)), (b.pnb, .inl (b.cnb, 16, .inl Y.nb)), (b.psg, .inl (b.csg, 16, .inl Y.sg)), (b.pwh, .inl (b.cwh, 6, .inl Y.wh)), (b.pce, .inl (b.cce, 96, .inl Y.ce))] [(b.cdk, .int), (b.cln, .int), (b.cch, .int), (b.cva, .int), (b.cou, .int), (b.ctx, .int), (b.cnb, .int), (b.csg, .int), (b.cwh, .int), (b.cce, .int)] xT) (va_Qi (fun (r : Int32) (u : RSt) => r = fmtv Y.dk ∧ u = Y) (fun (u : RSt) t => cB (dC, dI) (va_A [(b.r0, .inr (5, [.int Y.th, .ref b.pdk, .int Y.ar, .int Y.de, .int Y.wr, .ref b.pln, .ref b.pch, .ref b.pva, .int Y.nx, .int (nI Y.os), .ref b.pou, .int (nI Y.tn), .ref b.ptx, .int Y.ol, .int (nI Y.fm), .int (nI Y.at1), .int (nI Y.en), .int Y.go, .int (nI Y.nn), .ref b.pnb, .int (nI Y.sn), .ref b.psg, .int (nI Y.my), .ref b.pwh, .ref b.pce])), (b.pdk, .inl (b.cdk, 512, .inl Y.dk)), (b.pln, .inl (b.cln, 100, .inl Y.ln)), (b.pch, .inl (b.cch, 1200, .inl Y.ch)), (b.pva, .inl (b.cva, 8, .inl Y.va)), (b.pou, .inl (b.cou, 60, .inl Y.ou)), (b.ptx, .inl (b.ctx, 15, .inl Y.tx)), (b.pnb, .inl (b.cnb, 16, .inl Y.nb)), (b.psg, .inl (b.csg, 16, .inl Y.sg)), (b.pwh, .inl (b.cwh, 6, .inl Y.wh)), (b.pce, .inl (b.cce, 96, .inl Y.ce))] sz) [(b.r0, .inr (5, [.int u.th, .ref b.pdk, .int u.ar, .int u.de, .int u.wr, .ref b.pln, .ref b.pch, .ref b.pva, .int u.nx, .int (nI u.os), .ref b.pou, .int (nI u.tn), .ref b.ptx, .int u.ol, .int (nI u.fm), .int (nI u.at1), .int (nI u.en), .int u.go, .int (nI u.nn), .ref b.pnb, .int (nI u.sn), .ref b.psg, .int (nI u.my), .ref b.pwh, .ref b.pce])), (b.pdk, .inl (b.cdk, 512, .inl u.dk)), (b.pln, .inl (b.cln, 100, .inl u.ln)), (b.pch, .inl (b.cch, 1200, .inl u.ch)), (b.pva, .inl (b.cva, 8, .inl u.va)), (b.pou, .inl (b.cou, 60, .inl u.ou)), (b.ptx, .inl (b.ctx, 15, .inl u.tx)), (b.pnb, .inl (b.cnb, 16, .inl u.nb)), (b.psg, .inl (b.csg, 16, .inl u.sg)), (b.pwh, .inl (b.cwh, 6, .inl u.wh)), (b.pce, .inl (b.cce, 96, .inl u.ce))] [(b.cdk, .int), (b.cln, .int), (b.cch, .int), (b.cva, .int), (b.cou, .int), (b.ctx, .int), (b.cnb, .int), (b.csg, .int), (b.cwh, .int), (b.cce, .int)] t) (va_A [(b.r0, .inr (5, [.int Y.th, .ref b.pdk, .int Y.ar, .int Y.de, .int Y.wr, .ref b.pln, .ref b.pch, .ref b.pva, .int Y.nx, .int (nI Y.os), .ref b.pou, .int (nI Y.tn), .ref b.ptx, .int Y.ol, .int (nI Y.fm), .int (nI Y.at1), .int (nI Y.en), .int Y.go, .int (nI Y.nn), .ref b.pnb, .int (nI Y.sn), .ref b.psg, .int (nI Y.my), .ref b.pwh, .ref b.pce])), (b.pdk, .inl (b.cdk, 512, .inl Y.dk)), (b.pln, .inl (b.cln, 100, .inl Y.ln)), (b.pch, .inl (b.cch, 1200, .inl Y.ch)), (b.pva, .inl (b.cva, 8, .inl Y.va)), (b.pou, .inl (b.cou, 60, .inl Y.ou)), (b.ptx, .inl (b.ctx, 15, .inl Y.tx)), (b.pnb, .inl (b.cnb, 16, .inl Y.nb)), (b.psg, .inl (b.csg, 16, .inl Y.sg)), (b.pwh, .inl (b.cwh, 6, .inl Y.wh)), (b.pce, .inl (b.cce, 96, .inl Y.ce))] sz)) 0 0 (va_A [(b.r0, .inr (5, [.int Y.th, .ref b.pdk, .int Y.ar, .int Y.de, .int Y.wr, .ref b.pln, .ref b.pch, .ref b.pva, .int Y.nx, .int (nI Y.os), .ref b.pou, .int (nI Y.tn), .ref b.ptx, .int Y.ol, .int (nI Y.fm), .int (nI Y.at1), .int (nI Y.en), .int Y.go, .int (nI Y.nn), .ref b.pnb, .int (nI Y.sn), .ref b.psg, .int (nI Y.my), .ref b.pwh, .ref b.pce])), (b.pdk, .inl (b.cdk, 512, .inl Y.dk)), (b.pln, .inl (b.cln, 100, .inl Y.ln)), (b.pch, .inl (b.cch, 1200, .inl Y.ch)), (b.pva, .inl (b.cva, 8, .inl Y.va)), (b.pou, .inl (b.cou, 60, .inl Y.ou)), (b.ptx, .inl (b.ctx, 15, .inl Y.tx)), (b.pnb, .inl (b.cnb, 16, .inl Y.nb)), (b.psg, .inl (b.csg, 16, .inl Y.sg)), (b.pwh, .inl (b.cwh, 6, .inl Y.wh)), (b.pce, .inl (b.cce, 96, .inl Y.ce))] sz) := by
  refine Met.ofW (cc := b_Mo_formatted) (maxL := 1) (ret := (some .boolean)) (by decide) rfl ?_
  intro p e s m args below meth c s₁ B hml hv
  obtain ⟨rfl, hsz, hP, hK, hD0, hkw, hX⟩ := hv
  have hx := B.exec
  have hb := B.bytes
  have hr := B.returns
  have hts := fun w hw => atoms_spec (ws := Cond.code y_Mo_formatted b_Mo_formatted 1 (some .boolean) :: gw) B.pre w (List.mem_cons_of_mem _ hw)
  have hown : s.vm.findClass "LineDiskModel" = some m.cls := findClass_of_methodNamed B.named
  have hlocks := B.notSynchronized
  have hin := (name_of_methodNamed B.named B.method).1
  subst hsz
  have hD := hD0.self (sz := s.heap.size)
  generalize hAe : va_A [(b.r0, .inr (5, [.int Y.th, .ref b.pdk, .int Y.ar, .int Y.de, .int Y.wr, .ref b.pln, .ref b.pch, .ref b.pva, .int Y.nx, .int (nI Y.os), .ref b.pou, .int (nI Y.tn), .ref b.ptx, .int Y.ol, .int (nI Y.fm), .int (nI Y.at1), .int (nI Y.en), .int Y.go, .int (nI Y.nn), .ref b.pnb, .int (nI Y.sn), .ref b.psg, .int (nI Y.my), .ref b.pwh, .ref b.pce])), (b.pdk, .inl (b.cdk, 512, .inl Y.dk)), (b.pln, .inl (b.cln, 100, .inl Y.ln)), (b.pch, .inl (b.cch, 1200, .inl Y.ch)), (b.pva, .inl (b.cva, 8, .inl Y.va)), (b.pou, .inl (b.cou, 60, .inl Y.ou)), (b.ptx, .inl (b.ctx, 15, .inl Y.tx)), (b.pnb, .inl (b.cnb, 16, .inl Y.nb)), (b.psg, .inl (b.csg, 16, .inl Y.sg)), (b.pwh, .inl (b.cwh, 6, .inl Y.wh)), (b.pce, .inl (b.cce, 96, .inl Y.ce))] s.heap.size = A at hD ⊢
  have hA : ∀ q : Nat, s.heap.size ≤ q → A q := fun q h => by rw [← hAe]; exact Or.inr h
  have hS : va_S A s.heap s.heap [] := va_S.rf
  have hl := lv_entry ([.ref b.r0]) (n := 1) (Nat.le_of_ble_eq_true rfl)
  rw [lg_entry_eq]
  generalize (lg_sl ([.ref b.r0]) ++ List.replicate (1 - (lg_sl ([.ref b.r0])).length) Slot.unset).toArray = ls at hl ⊢
  have hl : lv_has ls 1 [(0, .ref b.r0)] := hl
  have F : CallFix p m c b_Mo_formatted 1 s ([.ref b.r0]).toArray gw "LineDiskModel" := ⟨hx, hb, hml, hown, hts⟩
  refine lv_aload_n hx hb d_Mo_formatted_0 rfl (lv_at hl 0 rfl) ?_
  refine va_get (D := (dC, dI)) (ci := 5) (v := .ref b.pdk) (C := R_Mo) (T := F_Mo) (N := 25) hx hb hts in_Mo hown hK hP 0 rfl rfl 1 (by decide) (hts _ w_594) (fun _ h9 => h9) rfl d_Mo_formatted_1 ?_
  refine lv_iconst (v := 0) hx hb d_Mo_formatted_4 (by decide) ?_
  refine va_iald hx hb hK hP 1 0 rfl rfl (vp_in_iff.mpr (by decide)) d_Mo_formatted_5 ?_
  refine tv (x2 := Y.dk 0) (by exact rfl) ?_
  refine lv_sipush (v := 7077) hx hb d_Mo_formatted_6 (by decide) ?_
  refine lv_icmp_ne (tgt := 16) hx hb d_Mo_formatted_9 (by decide) (fun c9 => ?_) (fun c9 => ?_)
  · skip
    refine lv_iconst (v := 0) hx hb d_Mo_formatted_16 (by decide) ?_
    refine W.widen (k := 0) (n := 0) (by decide) (by decide) ?_
    exact W.zret (v := 0) hx hb hr (rfl) (fun t ht hW => ⟨⟨0, Y, rfl, ⟨by (simp only [fmtv, c9, if_true, if_false, not_true_eq_false, not_false_eq_true, ite_not] <;> try simp), rfl⟩, cB.of (hP.sub [0, 1, 2, 3, 4, 5, 6, 7, 8, 9, 10] rfl) (hD.sub [0, 1, 2, 3, 4, 5, 6, 7, 8, 9, 10] (by decide) rfl) (hK.sub [0, 1, 2, 3, 4, 5, 6, 7, 8, 9] rfl) ht hW⟩, hS.F ht⟩) hS.2.2 d_Mo_formatted_17
  · skip
    refine lv_iconst (v := 1) hx hb d_Mo_formatted_12 (by decide) ?_
    refine lv_goto (tgt := 17) hx hb d_Mo_formatted_13 (by decide) ?_
    refine W.widen (k := 0) (n := 0) (by decide) (by decide) ?_
    exact W.zret (v := 1) hx hb hr (rfl) (fun t ht hW => ⟨⟨1, Y, rfl, ⟨by (simp only [fmtv, c9, if_true, if_false, not_true_eq_false, not_false_eq_true, ite_not] <;> try simp), rfl⟩, cB.of (hP.sub [0, 1, 2, 3, 4, 5, 6, 7, 8, 9, 10] rfl) (hD.sub [0, 1, 2, 3, 4, 5, 6, 7, 8, 9, 10] (by decide) rfl) (hK.sub [0, 1, 2, 3, 4, 5, 6, 7, 8, 9] rfl) ht hW⟩, hS.F ht⟩) hS.2.2 d_Mo_formatted_17
def lvl (x : Int32) : Int32 := if ¬ x = 42 then (if x = 43 then 1 else if ¬ x = 45 then 0 else 1) else 2
set_option maxHeartbeats 4000000 in
set_option maxRecDepth 100000 in
theorem g_Mo_level (l : Launch) (dC : Nat → ClassId) (dI : Nat → Nat → Nat) (x : Int32) (sz : Nat) : Met l y_Mo_level (Cond.code y_Mo_level b_Mo_level 1 (some .int) :: gw) ({ frames := 0, cells := 0, slots := 0, locals := 0 }) (cP (dC, dI) [.int x] sz [] [] xT) (va_Qi (fun (r : Int32) (u : Unit) => r = lvl x) (fun (u : Unit) t => cB (dC, dI) (va_A [] sz) [] [] t) (va_A [] sz)) 0 0 (va_A [] sz) := by
  refine Met.ofW (cc := b_Mo_level) (maxL := 1) (ret := (some .int)) (by decide) rfl ?_
  intro p e s m args below meth c s₁ B hml hv
  obtain ⟨rfl, hsz, hP, hK, hD0, hkw, hX⟩ := hv
  have hx := B.exec
  have hb := B.bytes
  have hr := B.returns
  have hts := fun w hw => atoms_spec (ws := Cond.code y_Mo_level b_Mo_level 1 (some .int) :: gw) B.pre w (List.mem_cons_of_mem _ hw)
  have hown : s.vm.findClass "LineDiskModel" = some m.cls := findClass_of_methodNamed B.named
  have hlocks := B.notSynchronized
  have hin := (name_of_methodNamed B.named B.method).1
  subst hsz
  have hD := hD0.self (sz := s.heap.size)
  generalize hAe : va_A [] s.heap.size = A at hD ⊢
  have hA : ∀ q : Nat, s.heap.size ≤ q → A q := fun q h => by rw [← hAe]; exact Or.inr h
  have hS : va_S A s.heap s.heap [] := va_S.rf
  have hl := lv_entry ([.int x]) (n := 1) (Nat.le_of_ble_eq_true rfl)
  rw [lg_entry_eq]
  generalize (lg_sl ([.int x]) ++ List.replicate (1 - (lg_sl ([.int x])).length) Slot.unset).toArray = ls at hl ⊢
  have hl : lv_has ls 1 [(0, .int x)] := hl
  have F : CallFix p m c b_Mo_level 1 s ([.int x]).toArray gw "LineDiskModel" := ⟨hx, hb, hml, hown, hts⟩
  refine lv_iload_n hx hb d_Mo_level_0 rfl (lv_at hl 0 rfl) ?_
  refine lv_bipush (v := 42) hx hb d_Mo_level_1 (by decide) ?_
  refine lv_icmp_ne (tgt := 10) hx hb d_Mo_level_3 (by decide) (fun c3 => ?_) (fun c3 => ?_)
  · skip
    refine lv_iload_n hx hb d_Mo_level_10 rfl (lv_at hl 0 rfl) ?_
    refine lv_bipush (v := 43) hx hb d_Mo_level_11 (by decide) ?_
    refine lv_icmp_eq (tgt := 22) hx hb d_Mo_level_13 (by decide) (fun c13 => ?_) (fun c13 => ?_)
    · skip
      refine lv_iconst (v := 1) hx hb d_Mo_level_22 (by decide) ?_
      refine lv_goto (tgt := 27) hx hb d_Mo_level_23 (by decide) ?_
      refine W.widen (k := 0) (n := 0) (by decide) (by decide) ?_
      exact W.iret (v := 1) hx hb hr (fun t ht hW => ⟨⟨1, (), rfl, by (simp only [lvl, c3, c13, if_true, if_false, not_true_eq_false, not_false_eq_true, ite_not] <;> try simp), cB.of (hP.sub [] rfl) (hD.sub [] (by decide) rfl) (hK.sub [] rfl) ht hW⟩, hS.F ht⟩) hS.2.2 d_Mo_level_27
    · skip
      refine lv_iload_n hx hb d_Mo_level_16 rfl (lv_at hl 0 rfl) ?_
      refine lv_bipush (v := 45) hx hb d_Mo_level_17 (by decide) ?_
      refine lv_icmp_ne (tgt := 26) hx hb d_Mo_level_19 (by decide) (fun c19 => ?_) (fun c19 => ?_)
      · skip
        refine lv_iconst (v := 0) hx hb d_Mo_level_26 (by decide) ?_
        refine W.widen (k := 0) (n := 0) (by decide) (by decide) ?_
        exact W.iret (v := 0) hx hb hr (fun t ht hW => ⟨⟨0, (), rfl, by (simp only [lvl, c3, c13, c19, if_true, if_false, not_true_eq_false, not_false_eq_true, ite_not] <;> try simp), cB.of (hP.sub [] rfl) (hD.sub [] (by decide) rfl) (hK.sub [] rfl) ht hW⟩, hS.F ht⟩) hS.2.2 d_Mo_level_27
      · skip
        refine lv_iconst (v := 1) hx hb d_Mo_level_22 (by decide) ?_
        refine lv_goto (tgt := 27) hx hb d_Mo_level_23 (by decide) ?_
        refine W.widen (k := 0) (n := 0) (by decide) (by decide) ?_
        exact W.iret (v := 1) hx hb hr (fun t ht hW => ⟨⟨1, (), rfl, by (simp only [lvl, c3, c13, c19, if_true, if_false, not_true_eq_false, not_false_eq_true, ite_not] <;> try simp), cB.of (hP.sub [] rfl) (hD.sub [] (by decide) rfl) (hK.sub [] rfl) ht hW⟩, hS.F ht⟩) hS.2.2 d_Mo_level_27
  · skip
    refine lv_iconst (v := 2) hx hb d_Mo_level_6 (by decide) ?_
    refine lv_goto (tgt := 27) hx hb d_Mo_level_7 (by decide) ?_
    refine W.widen (k := 0) (n := 0) (by decide) (by decide) ?_
    exact W.iret (v := 2) hx hb hr (fun t ht hW => ⟨⟨2, (), rfl, by (simp only [lvl, c3, if_true, if_false, not_true_eq_false, not_false_eq_true, ite_not] <;> try simp), cB.of (hP.sub [] rfl) (hD.sub [] (by decide) rfl) (hK.sub [] rfl) ht hW⟩, hS.F ht⟩) hS.2.2 d_Mo_level_27
set_option maxHeartbeats 4000000 in
set_option maxRecDepth 100000 in
theorem g_Mo_last (l : Launch) (dC : Nat → ClassId) (dI : Nat → Nat → Nat) (b : RAd) (Y : RSt)  (sz : Nat) : Met l y_Mo_last (Cond.code y_Mo_last b_Mo_last 1 (some .int) :: gw) ({ frames := 0, cells := 0, slots := 0, locals := 0 }) (cP (dC, dI) [.ref b.r0] sz [(b.r0, .inr (5, [.int Y.th, .ref b.pdk, .int Y.ar, .int Y.de, .int Y.wr, .ref b.pln, .ref b.pch, .ref b.pva, .int Y.nx, .int (nI Y.os), .ref b.pou, .int (nI Y.tn), .ref b.ptx, .int Y.ol, .int (nI Y.fm), .int (nI Y.at1), .int (nI Y.en), .int Y.go, .int (nI Y.nn), .ref b.pnb, .int (nI Y.sn), .ref b.psg, .int (nI Y.my), .ref b.pwh, .ref b.pce])), (b.pdk, .inl (b.cdk, 512, .inl Y.dk)), (b.pln, .inl (b.cln, 100, .inl Y.ln)), (b.pch, .inl (b.cch, 1200, .inl Y.ch)), (b.pva, .inl (b.cva, 8, .inl Y.va)), (b.pou, .inl (b.cou, 60, .inl Y.ou)), (b.ptx, .inl (b.ctx, 15, .inl Y.tx)), (b.pnb, .inl (b.cnb, 16, .inl Y.nb)), (b.psg, .inl (b.csg, 16, .inl Y.sg)), (b.pwh, .inl (b.cwh, 6, .inl Y.wh)), (b.pce, .inl (b.cce, 96, .inl Y.ce))] [(b.cdk, .int), (b.cln, .int), (b.cch, .int), (b.cva, .int), (b.cou, .int), (b.ctx, .int), (b.cnb, .int), (b.csg, .int), (b.cwh, .int), (b.cce, .int)] xT) (va_Qi (fun (r : Int32) (u : RSt) => r = nI Y.at1 ∧ u = Y) (fun (u : RSt) t => cB (dC, dI) (va_A [(b.r0, .inr (5, [.int Y.th, .ref b.pdk, .int Y.ar, .int Y.de, .int Y.wr, .ref b.pln, .ref b.pch, .ref b.pva, .int Y.nx, .int (nI Y.os), .ref b.pou, .int (nI Y.tn), .ref b.ptx, .int Y.ol, .int (nI Y.fm), .int (nI Y.at1), .int (nI Y.en), .int Y.go, .int (nI Y.nn), .ref b.pnb, .int (nI Y.sn), .ref b.psg, .int (nI Y.my), .ref b.pwh, .ref b.pce])), (b.pdk, .inl (b.cdk, 512, .inl Y.dk)), (b.pln, .inl (b.cln, 100, .inl Y.ln)), (b.pch, .inl (b.cch, 1200, .inl Y.ch)), (b.pva, .inl (b.cva, 8, .inl Y.va)), (b.pou, .inl (b.cou, 60, .inl Y.ou)), (b.ptx, .inl (b.ctx, 15, .inl Y.tx)), (b.pnb, .inl (b.cnb, 16, .inl Y.nb)), (b.psg, .inl (b.csg, 16, .inl Y.sg)), (b.pwh, .inl (b.cwh, 6, .inl Y.wh)), (b.pce, .inl (b.cce, 96, .inl Y.ce))] sz) [(b.r0, .inr (5, [.int u.th, .ref b.pdk, .int u.ar, .int u.de, .int u.wr, .ref b.pln, .ref b.pch, .ref b.pva, .int u.nx, .int (nI u.os), .ref b.pou, .int (nI u.tn), .ref b.ptx, .int u.ol, .int (nI u.fm), .int (nI u.at1), .int (nI u.en), .int u.go, .int (nI u.nn), .ref b.pnb, .int (nI u.sn), .ref b.psg, .int (nI u.my), .ref b.pwh, .ref b.pce])), (b.pdk, .inl (b.cdk, 512, .inl u.dk)), (b.pln, .inl (b.cln, 100, .inl u.ln)), (b.pch, .inl (b.cch, 1200, .inl u.ch)), (b.pva, .inl (b.cva, 8, .inl u.va)), (b.pou, .inl (b.cou, 60, .inl u.ou)), (b.ptx, .inl (b.ctx, 15, .inl u.tx)), (b.pnb, .inl (b.cnb, 16, .inl u.nb)), (b.psg, .inl (b.csg, 16, .inl u.sg)), (b.pwh, .inl (b.cwh, 6, .inl u.wh)), (b.pce, .inl (b.cce, 96, .inl u.ce))] [(b.cdk, .int), (b.cln, .int), (b.cch, .int), (b.cva, .int), (b.cou, .int), (b.ctx, .int), (b.cnb, .int), (b.csg, .int), (b.cwh, .int), (b.cce, .int)] t) (va_A [(b.r0, .inr (5, [.int Y.th, .ref b.pdk, .int Y.ar, .int Y.de, .int Y.wr, .ref b.pln, .ref b.pch, .ref b.pva, .int Y.nx, .int (nI Y.os), .ref b.pou, .int (nI Y.tn), .ref b.ptx, .int Y.ol, .int (nI Y.fm), .int (nI Y.at1), .int (nI Y.en), .int Y.go, .int (nI Y.nn), .ref b.pnb, .int (nI Y.sn), .ref b.psg, .int (nI Y.my), .ref b.pwh, .ref b.pce])), (b.pdk, .inl (b.cdk, 512, .inl Y.dk)), (b.pln, .inl (b.cln, 100, .inl Y.ln)), (b.pch, .inl (b.cch, 1200, .inl Y.ch)), (b.pva, .inl (b.cva, 8, .inl Y.va)), (b.pou, .inl (b.cou, 60, .inl Y.ou)), (b.ptx, .inl (b.ctx, 15, .inl Y.tx)), (b.pnb, .inl (b.cnb, 16, .inl Y.nb)), (b.psg, .inl (b.csg, 16, .inl Y.sg)), (b.pwh, .inl (b.cwh, 6, .inl Y.wh)), (b.pce, .inl (b.cce, 96, .inl Y.ce))] sz)) 0 0 (va_A [(b.r0, .inr (5, [.int Y.th, .ref b.pdk, .int Y.ar, .int Y.de, .int Y.wr, .ref b.pln, .ref b.pch, .ref b.pva, .int Y.nx, .int (nI Y.os), .ref b.pou, .int (nI Y.tn), .ref b.ptx, .int Y.ol, .int (nI Y.fm), .int (nI Y.at1), .int (nI Y.en), .int Y.go, .int (nI Y.nn), .ref b.pnb, .int (nI Y.sn), .ref b.psg, .int (nI Y.my), .ref b.pwh, .ref b.pce])), (b.pdk, .inl (b.cdk, 512, .inl Y.dk)), (b.pln, .inl (b.cln, 100, .inl Y.ln)), (b.pch, .inl (b.cch, 1200, .inl Y.ch)), (b.pva, .inl (b.cva, 8, .inl Y.va)), (b.pou, .inl (b.cou, 60, .inl Y.ou)), (b.ptx, .inl (b.ctx, 15, .inl Y.tx)), (b.pnb, .inl (b.cnb, 16, .inl Y.nb)), (b.psg, .inl (b.csg, 16, .inl Y.sg)), (b.pwh, .inl (b.cwh, 6, .inl Y.wh)), (b.pce, .inl (b.cce, 96, .inl Y.ce))] sz) := by
  refine Met.ofW (cc := b_Mo_last) (maxL := 1) (ret := (some .int)) (by decide) rfl ?_
  intro p e s m args below meth c s₁ B hml hv
  obtain ⟨rfl, hsz, hP, hK, hD0, hkw, hX⟩ := hv
  have hx := B.exec
  have hb := B.bytes
  have hr := B.returns
  have hts := fun w hw => atoms_spec (ws := Cond.code y_Mo_last b_Mo_last 1 (some .int) :: gw) B.pre w (List.mem_cons_of_mem _ hw)
  have hown : s.vm.findClass "LineDiskModel" = some m.cls := findClass_of_methodNamed B.named
  have hlocks := B.notSynchronized
  have hin := (name_of_methodNamed B.named B.method).1
  subst hsz
  have hD := hD0.self (sz := s.heap.size)
  generalize hAe : va_A [(b.r0, .inr (5, [.int Y.th, .ref b.pdk, .int Y.ar, .int Y.de, .int Y.wr, .ref b.pln, .ref b.pch, .ref b.pva, .int Y.nx, .int (nI Y.os), .ref b.pou, .int (nI Y.tn), .ref b.ptx, .int Y.ol, .int (nI Y.fm), .int (nI Y.at1), .int (nI Y.en), .int Y.go, .int (nI Y.nn), .ref b.pnb, .int (nI Y.sn), .ref b.psg, .int (nI Y.my), .ref b.pwh, .ref b.pce])), (b.pdk, .inl (b.cdk, 512, .inl Y.dk)), (b.pln, .inl (b.cln, 100, .inl Y.ln)), (b.pch, .inl (b.cch, 1200, .inl Y.ch)), (b.pva, .inl (b.cva, 8, .inl Y.va)), (b.pou, .inl (b.cou, 60, .inl Y.ou)), (b.ptx, .inl (b.ctx, 15, .inl Y.tx)), (b.pnb, .inl (b.cnb, 16, .inl Y.nb)), (b.psg, .inl (b.csg, 16, .inl Y.sg)), (b.pwh, .inl (b.cwh, 6, .inl Y.wh)), (b.pce, .inl (b.cce, 96, .inl Y.ce))] s.heap.size = A at hD ⊢
  have hA : ∀ q : Nat, s.heap.size ≤ q → A q := fun q h => by rw [← hAe]; exact Or.inr h
  have hS : va_S A s.heap s.heap [] := va_S.rf
  have hl := lv_entry ([.ref b.r0]) (n := 1) (Nat.le_of_ble_eq_true rfl)
  rw [lg_entry_eq]
  generalize (lg_sl ([.ref b.r0]) ++ List.replicate (1 - (lg_sl ([.ref b.r0])).length) Slot.unset).toArray = ls at hl ⊢
  have hl : lv_has ls 1 [(0, .ref b.r0)] := hl
  have F : CallFix p m c b_Mo_last 1 s ([.ref b.r0]).toArray gw "LineDiskModel" := ⟨hx, hb, hml, hown, hts⟩
  refine lv_aload_n hx hb d_Mo_last_0 rfl (lv_at hl 0 rfl) ?_
  refine va_get (D := (dC, dI)) (ci := 5) (v := .int (nI Y.at1)) (C := R_Mo) (T := F_Mo) (N := 25) hx hb hts in_Mo hown hK hP 0 rfl rfl 15 (by decide) (hts _ w_608) (fun _ h9 => h9) rfl d_Mo_last_1 ?_
  refine W.widen (k := 0) (n := 0) (by decide) (by decide) ?_
  exact W.iret (v := nI Y.at1) hx hb hr (fun t ht hW => ⟨⟨nI Y.at1, Y, rfl, ⟨rfl, rfl⟩, cB.of (hP.sub [0, 1, 2, 3, 4, 5, 6, 7, 8, 9, 10] rfl) (hD.sub [0, 1, 2, 3, 4, 5, 6, 7, 8, 9, 10] (by decide) rfl) (hK.sub [0, 1, 2, 3, 4, 5, 6, 7, 8, 9] rfl) ht hW⟩, hS.F ht⟩) hS.2.2 d_Mo_last_4
set_option maxHeartbeats 4000000 in
set_option maxRecDepth 100000 in
theorem g_Mo_outs (l : Launch) (dC : Nat → ClassId) (dI : Nat → Nat → Nat) (b : RAd) (Y : RSt)  (sz : Nat) : Met l y_Mo_outs (Cond.code y_Mo_outs b_Mo_outs 1 (some .int) :: gw) ({ frames := 0, cells := 0, slots := 0, locals := 0 }) (cP (dC, dI) [.ref b.r0] sz [(b.r0, .inr (5, [.int Y.th, .ref b.pdk, .int Y.ar, .int Y.de, .int Y.wr, .ref b.pln, .ref b.pch, .ref b.pva, .int Y.nx, .int (nI Y.os), .ref b.pou, .int (nI Y.tn), .ref b.ptx, .int Y.ol, .int (nI Y.fm), .int (nI Y.at1), .int (nI Y.en), .int Y.go, .int (nI Y.nn), .ref b.pnb, .int (nI Y.sn), .ref b.psg, .int (nI Y.my), .ref b.pwh, .ref b.pce])), (b.pdk, .inl (b.cdk, 512, .inl Y.dk)), (b.pln, .inl (b.cln, 100, .inl Y.ln)), (b.pch, .inl (b.cch, 1200, .inl Y.ch)), (b.pva, .inl (b.cva, 8, .inl Y.va)), (b.pou, .inl (b.cou, 60, .inl Y.ou)), (b.ptx, .inl (b.ctx, 15, .inl Y.tx)), (b.pnb, .inl (b.cnb, 16, .inl Y.nb)), (b.psg, .inl (b.csg, 16, .inl Y.sg)), (b.pwh, .inl (b.cwh, 6, .inl Y.wh)), (b.pce, .inl (b.cce, 96, .inl Y.ce))] [(b.cdk, .int), (b.cln, .int), (b.cch, .int), (b.cva, .int), (b.cou, .int), (b.ctx, .int), (b.cnb, .int), (b.csg, .int), (b.cwh, .int), (b.cce, .int)] xT) (va_Qi (fun (r : Int32) (u : RSt) => r = nI Y.os ∧ u = (0, Y.ar, Y.de, Y.wr, Y.nx, Y.os, Y.tn, Y.ol, Y.fm, Y.at1, Y.en, Y.go, Y.nn, Y.sn, Y.my, Y.dk, Y.ln, Y.ch, Y.va, Y.ou, Y.tx, Y.nb, Y.sg, Y.wh, Y.ce)) (fun (u : RSt) t => cB (dC, dI) (va_A [(b.r0, .inr (5, [.int Y.th, .ref b.pdk, .int Y.ar, .int Y.de, .int Y.wr, .ref b.pln, .ref b.pch, .ref b.pva, .int Y.nx, .int (nI Y.os), .ref b.pou, .int (nI Y.tn), .ref b.ptx, .int Y.ol, .int (nI Y.fm), .int (nI Y.at1), .int (nI Y.en), .int Y.go, .int (nI Y.nn), .ref b.pnb, .int (nI Y.sn), .ref b.psg, .int (nI Y.my), .ref b.pwh, .ref b.pce])), (b.pdk, .inl (b.cdk, 512, .inl Y.dk)), (b.pln, .inl (b.cln, 100, .inl Y.ln)), (b.pch, .inl (b.cch, 1200, .inl Y.ch)), (b.pva, .inl (b.cva, 8, .inl Y.va)), (b.pou, .inl (b.cou, 60, .inl Y.ou)), (b.ptx, .inl (b.ctx, 15, .inl Y.tx)), (b.pnb, .inl (b.cnb, 16, .inl Y.nb)), (b.psg, .inl (b.csg, 16, .inl Y.sg)), (b.pwh, .inl (b.cwh, 6, .inl Y.wh)), (b.pce, .inl (b.cce, 96, .inl Y.ce))] sz) [(b.r0, .inr (5, [.int u.th, .ref b.pdk, .int u.ar, .int u.de, .int u.wr, .ref b.pln, .ref b.pch, .ref b.pva, .int u.nx, .int (nI u.os), .ref b.pou, .int (nI u.tn), .ref b.ptx, .int u.ol, .int (nI u.fm), .int (nI u.at1), .int (nI u.en), .int u.go, .int (nI u.nn), .ref b.pnb, .int (nI u.sn), .ref b.psg, .int (nI u.my), .ref b.pwh, .ref b.pce])), (b.pdk, .inl (b.cdk, 512, .inl u.dk)), (b.pln, .inl (b.cln, 100, .inl u.ln)), (b.pch, .inl (b.cch, 1200, .inl u.ch)), (b.pva, .inl (b.cva, 8, .inl u.va)), (b.pou, .inl (b.cou, 60, .inl u.ou)), (b.ptx, .inl (b.ctx, 15, .inl u.tx)), (b.pnb, .inl (b.cnb, 16, .inl u.nb)), (b.psg, .inl (b.csg, 16, .inl u.sg)), (b.pwh, .inl (b.cwh, 6, .inl u.wh)), (b.pce, .inl (b.cce, 96, .inl u.ce))] [(b.cdk, .int), (b.cln, .int), (b.cch, .int), (b.cva, .int), (b.cou, .int), (b.ctx, .int), (b.cnb, .int), (b.csg, .int), (b.cwh, .int), (b.cce, .int)] t) (va_A [(b.r0, .inr (5, [.int Y.th, .ref b.pdk, .int Y.ar, .int Y.de, .int Y.wr, .ref b.pln, .ref b.pch, .ref b.pva, .int Y.nx, .int (nI Y.os), .ref b.pou, .int (nI Y.tn), .ref b.ptx, .int Y.ol, .int (nI Y.fm), .int (nI Y.at1), .int (nI Y.en), .int Y.go, .int (nI Y.nn), .ref b.pnb, .int (nI Y.sn), .ref b.psg, .int (nI Y.my), .ref b.pwh, .ref b.pce])), (b.pdk, .inl (b.cdk, 512, .inl Y.dk)), (b.pln, .inl (b.cln, 100, .inl Y.ln)), (b.pch, .inl (b.cch, 1200, .inl Y.ch)), (b.pva, .inl (b.cva, 8, .inl Y.va)), (b.pou, .inl (b.cou, 60, .inl Y.ou)), (b.ptx, .inl (b.ctx, 15, .inl Y.tx)), (b.pnb, .inl (b.cnb, 16, .inl Y.nb)), (b.psg, .inl (b.csg, 16, .inl Y.sg)), (b.pwh, .inl (b.cwh, 6, .inl Y.wh)), (b.pce, .inl (b.cce, 96, .inl Y.ce))] sz)) 0 0 (va_A [(b.r0, .inr (5, [.int Y.th, .ref b.pdk, .int Y.ar, .int Y.de, .int Y.wr, .ref b.pln, .ref b.pch, .ref b.pva, .int Y.nx, .int (nI Y.os), .ref b.pou, .int (nI Y.tn), .ref b.ptx, .int Y.ol, .int (nI Y.fm), .int (nI Y.at1), .int (nI Y.en), .int Y.go, .int (nI Y.nn), .ref b.pnb, .int (nI Y.sn), .ref b.psg, .int (nI Y.my), .ref b.pwh, .ref b.pce])), (b.pdk, .inl (b.cdk, 512, .inl Y.dk)), (b.pln, .inl (b.cln, 100, .inl Y.ln)), (b.pch, .inl (b.cch, 1200, .inl Y.ch)), (b.pva, .inl (b.cva, 8, .inl Y.va)), (b.pou, .inl (b.cou, 60, .inl Y.ou)), (b.ptx, .inl (b.ctx, 15, .inl Y.tx)), (b.pnb, .inl (b.cnb, 16, .inl Y.nb)), (b.psg, .inl (b.csg, 16, .inl Y.sg)), (b.pwh, .inl (b.cwh, 6, .inl Y.wh)), (b.pce, .inl (b.cce, 96, .inl Y.ce))] sz) := by
  refine Met.ofW (cc := b_Mo_outs) (maxL := 1) (ret := (some .int)) (by decide) rfl ?_
  intro p e s m args below meth c s₁ B hml hv
  obtain ⟨rfl, hsz, hP, hK, hD0, hkw, hX⟩ := hv
  have hx := B.exec
  have hb := B.bytes
  have hr := B.returns
  have hts := fun w hw => atoms_spec (ws := Cond.code y_Mo_outs b_Mo_outs 1 (some .int) :: gw) B.pre w (List.mem_cons_of_mem _ hw)
  have hown : s.vm.findClass "LineDiskModel" = some m.cls := findClass_of_methodNamed B.named
  have hlocks := B.notSynchronized
  have hin := (name_of_methodNamed B.named B.method).1
  subst hsz
  have hD := hD0.self (sz := s.heap.size)
  generalize hAe : va_A [(b.r0, .inr (5, [.int Y.th, .ref b.pdk, .int Y.ar, .int Y.de, .int Y.wr, .ref b.pln, .ref b.pch, .ref b.pva, .int Y.nx, .int (nI Y.os), .ref b.pou, .int (nI Y.tn), .ref b.ptx, .int Y.ol, .int (nI Y.fm), .int (nI Y.at1), .int (nI Y.en), .int Y.go, .int (nI Y.nn), .ref b.pnb, .int (nI Y.sn), .ref b.psg, .int (nI Y.my), .ref b.pwh, .ref b.pce])), (b.pdk, .inl (b.cdk, 512, .inl Y.dk)), (b.pln, .inl (b.cln, 100, .inl Y.ln)), (b.pch, .inl (b.cch, 1200, .inl Y.ch)), (b.pva, .inl (b.cva, 8, .inl Y.va)), (b.pou, .inl (b.cou, 60, .inl Y.ou)), (b.ptx, .inl (b.ctx, 15, .inl Y.tx)), (b.pnb, .inl (b.cnb, 16, .inl Y.nb)), (b.psg, .inl (b.csg, 16, .inl Y.sg)), (b.pwh, .inl (b.cwh, 6, .inl Y.wh)), (b.pce, .inl (b.cce, 96, .inl Y.ce))] s.heap.size = A at hD ⊢
  have hA : ∀ q : Nat, s.heap.size ≤ q → A q := fun q h => by rw [← hAe]; exact Or.inr h
  have hS : va_S A s.heap s.heap [] := va_S.rf
  have hl := lv_entry ([.ref b.r0]) (n := 1) (Nat.le_of_ble_eq_true rfl)
  rw [lg_entry_eq]
  generalize (lg_sl ([.ref b.r0]) ++ List.replicate (1 - (lg_sl ([.ref b.r0])).length) Slot.unset).toArray = ls at hl ⊢
  have hl : lv_has ls 1 [(0, .ref b.r0)] := hl
  have F : CallFix p m c b_Mo_outs 1 s ([.ref b.r0]).toArray gw "LineDiskModel" := ⟨hx, hb, hml, hown, hts⟩
  refine lv_aload_n hx hb d_Mo_outs_0 rfl (lv_at hl 0 rfl) ?_
  refine lv_iconst (v := 0) hx hb d_Mo_outs_1 (by decide) ?_
  refine va_put (D := (dC, dI)) (ci := 5) (v := .int 0) (ty := .int) (C := R_Mo) (T := F_Mo) (N := 25) hx hb hts in_Mo t_Mo t_Mo_ok n_Mo hown hK hP hD hS 0 rfl rfl 0 (by decide) (hts _ w_593) (fun _ h9 => h9) rfl (by decide +kernel) (rfl) (rfl) (Nat.le_of_ble_eq_true rfl) d_Mo_outs_2 (fun H locs hP hD hS => ?_)
  have hP : va_P (dC, dI) cls [(b.r0, .inr (5, [.int 0, .ref b.pdk, .int Y.ar, .int Y.de, .int Y.wr, .ref b.pln, .ref b.pch, .ref b.pva, .int Y.nx, .int (nI Y.os), .ref b.pou, .int (nI Y.tn), .ref b.ptx, .int Y.ol, .int (nI Y.fm), .int (nI Y.at1), .int (nI Y.en), .int Y.go, .int (nI Y.nn), .ref b.pnb, .int (nI Y.sn), .ref b.psg, .int (nI Y.my), .ref b.pwh, .ref b.pce])), (b.pdk, .inl (b.cdk, 512, .inl Y.dk)), (b.pln, .inl (b.cln, 100, .inl Y.ln)), (b.pch, .inl (b.cch, 1200, .inl Y.ch)), (b.pva, .inl (b.cva, 8, .inl Y.va)), (b.pou, .inl (b.cou, 60, .inl Y.ou)), (b.ptx, .inl (b.ctx, 15, .inl Y.tx)), (b.pnb, .inl (b.cnb, 16, .inl Y.nb)), (b.psg, .inl (b.csg, 16, .inl Y.sg)), (b.pwh, .inl (b.cwh, 6, .inl Y.wh)), (b.pce, .inl (b.cce, 96, .inl Y.ce))] H := hP
  have hD : va_D A [(b.r0, .inr (5, [.int 0, .ref b.pdk, .int Y.ar, .int Y.de, .int Y.wr, .ref b.pln, .ref b.pch, .ref b.pva, .int Y.nx, .int (nI Y.os), .ref b.pou, .int (nI Y.tn), .ref b.ptx, .int Y.ol, .int (nI Y.fm), .int (nI Y.at1), .int (nI Y.en), .int Y.go, .int (nI Y.nn), .ref b.pnb, .int (nI Y.sn), .ref b.psg, .int (nI Y.my), .ref b.pwh, .ref b.pce])), (b.pdk, .inl (b.cdk, 512, .inl Y.dk)), (b.pln, .inl (b.cln, 100, .inl Y.ln)), (b.pch, .inl (b.cch, 1200, .inl Y.ch)), (b.pva, .inl (b.cva, 8, .inl Y.va)), (b.pou, .inl (b.cou, 60, .inl Y.ou)), (b.ptx, .inl (b.ctx, 15, .inl Y.tx)), (b.pnb, .inl (b.cnb, 16, .inl Y.nb)), (b.psg, .inl (b.csg, 16, .inl Y.sg)), (b.pwh, .inl (b.cwh, 6, .inl Y.wh)), (b.pce, .inl (b.cce, 96, .inl Y.ce))] := hD
  refine lv_aload_n hx hb d_Mo_outs_5 rfl (lv_at hl 0 rfl) ?_
  refine va_get (D := (dC, dI)) (ci := 5) (v := .int (nI Y.os)) (C := R_Mo) (T := F_Mo) (N := 25) hx hb hts in_Mo hown hK hP 0 rfl rfl 9 (by decide) (hts _ w_602) (fun _ h9 => h9) rfl d_Mo_outs_6 ?_
  refine W.widen (k := 0) (n := 0) (by decide) (by decide) ?_
  exact W.iret (v := nI Y.os) hx hb hr (fun t ht hW => ⟨⟨nI Y.os, (0, Y.ar, Y.de, Y.wr, Y.nx, Y.os, Y.tn, Y.ol, Y.fm, Y.at1, Y.en, Y.go, Y.nn, Y.sn, Y.my, Y.dk, Y.ln, Y.ch, Y.va, Y.ou, Y.tx, Y.nb, Y.sg, Y.wh, Y.ce), rfl, ⟨rfl, rfl⟩, cB.of (hP.sub [0, 1, 2, 3, 4, 5, 6, 7, 8, 9, 10] rfl) (hD.sub [0, 1, 2, 3, 4, 5, 6, 7, 8, 9, 10] (by decide) rfl) (hK.sub [0, 1, 2, 3, 4, 5, 6, 7, 8, 9] rfl) ht hW⟩, hS.F ht⟩) hS.2.2 d_Mo_outs_9
