/-! what the throwing of an exception asks of the statics of Throwable -/
def zS (n d : String) (U : State) (H : Heap) : Prop := ∃ (c : ClassId) (k : Class) (i : Nat) (f : Field) (a : Nat) (cell : Cell) (v : Value), U.vm.findClass Bundle.tN = some c ∧ U.fieldFound? Bundle.tN n d = some (c, k, i, f) ∧ f.isStatic = true ∧ k.statics = some a ∧ H[a]? = some cell ∧ cell.vm.isStatics = true ∧ cell.cls = c ∧ f.slot < cell.slots.size ∧ k.staticTypes[f.slot]? = some f.type ∧ cell.slots[f.slot]? = some v ∧ v.isRef = true
theorem zS.kept {n d : String} {U : State} {H H1 : Heap} (h : zS n d U H) (hq : ∀ q : Nat, q < H.size → H1[q]? = H[q]?) : zS n d U H1 := by
  obtain ⟨c, k, i, f, a, cell, v, h1, h2, h3, h4, h5, h6⟩ := h
  exact ⟨c, k, i, f, a, cell, v, h1, h2, h3, h4, by rw [hq a (Array.getElem?_eq_some_iff.mp h5).1]; exact h5, h6⟩
theorem zS.moved {n d : String} {u U : State} {H : Heap} (hvm : u.vm.Alike U.vm) (h : zS n d u H) : zS n d U H := by
  obtain ⟨c, k, i, f, a, cell, v, h1, h2, h3, h4, h5, h6, h7, h8, h9, h10⟩ := h
  obtain ⟨k', hi', he⟩ := State.fieldFound?_setVm hvm h2
  exact ⟨c, k', i, f, a, cell, v, by rw [hvm.findClass]; exact h1, hi', h3, by rw [he]; exact h4, h5, h6, h7, h8, by rw [he]; exact h9, h10⟩
theorem zS.lays {n d : String} {s : State} {args : Array Value} (h : zS n d s s.heap) : (Cond.laysStatic Bundle.tN n d).before args s = true := by
  obtain ⟨c, k, i, f, a, cell, v, h1, h2, h3, h4, h5, h6, h7, h8, h9, h10⟩ := h
  simp [Cond.before, Cond.holds, Cond.value, h1, h2, h3, h4, h5, h6, h7, h8, h9]
theorem zS.isRef {n d : String} {s : State} {args : Array Value} (h : zS n d s s.heap) : (Cond.isRef (.static Bundle.tN n d)).before args s = true := by
  obtain ⟨c, k, i, f, a, cell, v, h1, h2, h3, h4, h5, h6, h7, h8, h9, h10, h11⟩ := h
  have e : (Term.static Bundle.tN n d).eval args s none [] s = some v := by
    simp [Term.eval, State.fieldNamed?, h2, h3, h4, h5, h6, h10]
  cases v <;> simp_all [Cond.before, Cond.holds, Cond.value, Value.isRef]
theorem zS.of {n d : String} {s : State} {args : Array Value} (hl : (Cond.laysStatic Bundle.tN n d).before args s = true) (hr : (Cond.isRef (.static Bundle.tN n d)).before args s = true) : zS n d s s.heap := by
  obtain ⟨c, k, i, f, a, cell, hc, hi, hst, ha, hcell, hs, hcls, hlt, hty⟩ := Cond.laysStatic_spec hl
  cases hv : (Term.static Bundle.tN n d).eval args s none [] s with
  | none => simp [Cond.before, Cond.holds, Cond.value, hv] at hr
  | some w =>
    obtain ⟨hst', a', cell', ha', hcell', -, hslot⟩ := Term.static_spec hi hv
    cases ha.symm.trans ha'
    cases hcell.symm.trans hcell'
    refine ⟨c, k, i, f, a, cell, w, hc, hi, hst, ha, hcell, hs, hcls, hlt, hty, hslot, ?_⟩
    cases w <;> simp_all [Cond.before, Cond.holds, Cond.value, Value.isRef]
def xE (k : Nat) (tx : String) (q : Nat) : State → Prop := fun U => vk_R "LineDisk" k tx q U ∧ zS "UNASSIGNED_STACK" Bundle.steD U U.heap ∧ zS "SUPPRESSED_SENTINEL" Bundle.listD U U.heap
theorem xE_bl {k : Nat} {tx : String} {q : Nat} : xBl (xE k tx q) := fun U g mk a h => ⟨vk_R.same (u := U) (U := U.calling g mk a) rfl h.1, zS.moved (u := U) (U := U.calling g mk a) (Vm.Alike.refl U.vm) h.2.1, zS.moved (u := U) (U := U.calling g mk a) (Vm.Alike.refl U.vm) h.2.2⟩
theorem xE_of {k : Nat} {tx : String} {q : Nat} {s : State} {H : Heap} (h : xE k tx q s) (hq : ∀ q : Nat, q < s.heap.size → H[q]? = s.heap[q]?) : ∀ U : State, U.heap = H → s.WarmedH U.vm → xE k tx q U :=
  fun U hU hW => ⟨vk_R.warm hW h.1, by rw [hU]; exact zS.moved hW.alike (h.2.1.kept hq), by rw [hU]; exact zS.moved hW.alike (h.2.2.kept hq)⟩
def hz : List Cond := [.laysStatic Bundle.tN "UNASSIGNED_STACK" Bundle.steD, .laysStatic Bundle.tN "SUPPRESSED_SENTINEL" Bundle.listD, .isRef (.static Bundle.tN "UNASSIGNED_STACK" Bundle.steD), .isRef (.static Bundle.tN "SUPPRESSED_SENTINEL" Bundle.listD)]
theorem hz_all {s : State} {args : Array Value} (h1 : zS "UNASSIGNED_STACK" Bundle.steD s s.heap) (h2 : zS "SUPPRESSED_SENTINEL" Bundle.listD s s.heap) : ∀ a ∈ hz, a.before args s = true := by
  intro a ha
  simp only [hz, List.mem_cons, List.not_mem_nil, or_false] at ha
  rcases ha with rfl | rfl | rfl | rfl
  · exact h1.lays
  · exact h2.lays
  · exact h1.isRef
  · exact h2.isRef
def own_ok (a : Cond) : Bool := (tables_1.contains a && (goodWord a || nw_ok a)) || hz.contains a
theorem own_all {l : List Cond} (hl : l.all own_ok = true) {s : State} {args : Array Value} (hts : ∀ w ∈ gw, w.before args s = true) (hkw : kw s) (h1 : zS "UNASSIGNED_STACK" Bundle.steD s s.heap) (h2 : zS "SUPPRESSED_SENTINEL" Bundle.listD s s.heap) : ∀ a ∈ l, a.before args s = true := by
  intro a ha
  have h := List.all_eq_true.mp hl a ha
  simp only [own_ok, Bool.or_eq_true, Bool.and_eq_true, List.contains_iff_mem] at h
  rcases h with ⟨hm, hg | hn⟩ | hm
  · exact hts a (List.mem_filter.mpr ⟨List.mem_append_right _ hm, hg⟩)
  · exact va_Nw.use (nw_tab hn) (hkw a hm hn)
  · exact hz_all h1 h2 a hm
theorem own_arm : (Bundle.ownAtoms "LineDisk" 114 "java/lang/IllegalArgumentException" ["java/lang/RuntimeException", "java/lang/Exception"]).all own_ok = true := by decide +kernel
theorem own_out : (Bundle.ownAtoms "LineDisk" 121 "java/lang/IndexOutOfBoundsException" ["java/lang/RuntimeException", "java/lang/Exception"]).all own_ok = true := by decide +kernel
set_option maxHeartbeats 4000000 in
set_option maxRecDepth 100000 in
theorem t_Ld_arm1 (l : Launch) (hfl : l.flags = pinnedFlags ++ [noTraceFlag]) (dC : Nat → ClassId) (dI : Nat → Nat → Nat) (h0 o0 o1 o2 o3 o4 : Nat) (x : Int32) (h1 : x < 0) (q : Nat) (sz : Nat) : th_Met l y_Ld_arm (Cond.code y_Ld_arm b_Ld_arm 2 (some .boolean) :: gw) ({ frames := 6, cells := 1, slots := 6, locals := 100 }) (cP (dC, dI) [.ref h0, .int x] sz [(h0, .inr (0, [.ref o0, .ref o1, .ref o2, .ref o3, .ref o4, .int 0]))] [] (xE 112 "armed with 0 to 1000 writes" q)) "java/lang/IllegalArgumentException" := by
  refine th_ofW (cc := b_Ld_arm) (maxL := 2) (ret := (some .boolean)) (by decide) rfl ?_
  intro p e s m args below meth c s₁ B hml htab hv
  obtain ⟨rfl, hsz, hP, hK, hD0, hkw, hX⟩ := hv
  have hx := B.exec
  have hb := B.bytes
  have hr := B.returns
  have hts := fun w hw => atoms_spec (ws := Cond.code y_Ld_arm b_Ld_arm 2 (some .boolean) :: gw) B.pre w (List.mem_cons_of_mem _ hw)
  have hown : s.vm.findClass "LineDisk" = some m.cls := findClass_of_methodNamed B.named
  have hlocks := B.notSynchronized
  have hin := (name_of_methodNamed B.named B.method).1
  subst hsz
  have hD := hD0.self (sz := s.heap.size)
  generalize hAe : va_A [(h0, .inr (0, [.ref o0, .ref o1, .ref o2, .ref o3, .ref o4, .int 0]))] s.heap.size = A at hD
  have hA : ∀ q : Nat, s.heap.size ≤ q → A q := fun q h => by rw [← hAe]; exact Or.inr h
  have hS : va_S A s.heap s.heap [] := va_S.rf
  have hl := lv_entry ([.ref h0, .int x]) (n := 2) (Nat.le_of_ble_eq_true rfl)
  rw [lg_entry_eq]
  generalize (lg_sl ([.ref h0, .int x]) ++ List.replicate (2 - (lg_sl ([.ref h0, .int x])).length) Slot.unset).toArray = ls at hl ⊢
  have hl : lv_has ls 2 [(0, .ref h0), (1, .int x)] := hl
  have F : CallFix p m c b_Ld_arm 2 s ([.ref h0, .int x]).toArray gw "LineDisk" := ⟨hx, hb, hml, hown, hts⟩
  refine lv_iload_n hx hb d_Ld_arm_0 rfl (lv_at hl 1 rfl) ?_
  refine lv_if_lt (tgt := 11) hx hb d_Ld_arm_1 (by decide) (fun _ => ?_) (fun h => absurd (h1) h)
  exact th_throw hx hb (Launch.traces_off hfl B.admits) (own := "LineDisk") (X := "java/lang/IllegalArgumentException") (names := ["java/lang/RuntimeException", "java/lang/Exception"]) hown (by decide +kernel) (by decide +kernel) (own_all own_arm hts hkw hX.2.1 hX.2.2) (hts _ w_484) (hts _ w_13) hX.1 (hl.1.trans hml.symm) htab hlocks (by decide) (by decide) (by decide) (by decide) (by decide) (by decide) d_Ld_arm_11 d_Ld_arm_14 d_Ld_arm_15 d_Ld_arm_17 d_Ld_arm_20
set_option maxHeartbeats 4000000 in
set_option maxRecDepth 100000 in
theorem t_Ld_arm2 (l : Launch) (hfl : l.flags = pinnedFlags ++ [noTraceFlag]) (dC : Nat → ClassId) (dI : Nat → Nat → Nat) (h0 o0 o1 o2 o3 o4 : Nat) (x : Int32) (h1 : ¬ x < 0) (h2 : ¬ x ≤ 1000) (q : Nat) (sz : Nat) : th_Met l y_Ld_arm (Cond.code y_Ld_arm b_Ld_arm 2 (some .boolean) :: gw) ({ frames := 6, cells := 1, slots := 6, locals := 100 }) (cP (dC, dI) [.ref h0, .int x] sz [(h0, .inr (0, [.ref o0, .ref o1, .ref o2, .ref o3, .ref o4, .int 0]))] [] (xE 112 "armed with 0 to 1000 writes" q)) "java/lang/IllegalArgumentException" := by
  refine th_ofW (cc := b_Ld_arm) (maxL := 2) (ret := (some .boolean)) (by decide) rfl ?_
  intro p e s m args below meth c s₁ B hml htab hv
  obtain ⟨rfl, hsz, hP, hK, hD0, hkw, hX⟩ := hv
  have hx := B.exec
  have hb := B.bytes
  have hr := B.returns
  have hts := fun w hw => atoms_spec (ws := Cond.code y_Ld_arm b_Ld_arm 2 (some .boolean) :: gw) B.pre w (List.mem_cons_of_mem _ hw)
  have hown : s.vm.findClass "LineDisk" = some m.cls := findClass_of_methodNamed B.named
  have hlocks := B.notSynchronized
  have hin := (name_of_methodNamed B.named B.method).1
  subst hsz
  have hD := hD0.self (sz := s.heap.size)
  generalize hAe : va_A [(h0, .inr (0, [.ref o0, .ref o1, .ref o2, .ref o3, .ref o4, .int 0]))] s.heap.size = A at hD
  have hA : ∀ q : Nat, s.heap.size ≤ q → A q := fun q h => by rw [← hAe]; exact Or.inr h
  have hS : va_S A s.heap s.heap [] := va_S.rf
  have hl := lv_entry ([.ref h0, .int x]) (n := 2) (Nat.le_of_ble_eq_true rfl)
  rw [lg_entry_eq]
  generalize (lg_sl ([.ref h0, .int x]) ++ List.replicate (2 - (lg_sl ([.ref h0, .int x])).length) Slot.unset).toArray = ls at hl ⊢
  have hl : lv_has ls 2 [(0, .ref h0), (1, .int x)] := hl
  have F : CallFix p m c b_Ld_arm 2 s ([.ref h0, .int x]).toArray gw "LineDisk" := ⟨hx, hb, hml, hown, hts⟩
  refine lv_iload_n hx hb d_Ld_arm_0 rfl (lv_at hl 1 rfl) ?_
  refine lv_if_lt (tgt := 11) hx hb d_Ld_arm_1 (by decide) (fun h => absurd h (h1)) (fun _ => ?_)
  refine lv_iload_n hx hb d_Ld_arm_4 rfl (lv_at hl 1 rfl) ?_
  refine lv_sipush (v := 1000) hx hb d_Ld_arm_5 (by decide) ?_
  refine lv_icmp_le (tgt := 21) hx hb d_Ld_arm_8 (by decide) (fun h => absurd h (h2)) (fun _ => ?_)
  exact th_throw hx hb (Launch.traces_off hfl B.admits) (own := "LineDisk") (X := "java/lang/IllegalArgumentException") (names := ["java/lang/RuntimeException", "java/lang/Exception"]) hown (by decide +kernel) (by decide +kernel) (own_all own_arm hts hkw hX.2.1 hX.2.2) (hts _ w_484) (hts _ w_13) hX.1 (hl.1.trans hml.symm) htab hlocks (by decide) (by decide) (by decide) (by decide) (by decide) (by decide) d_Ld_arm_11 d_Ld_arm_14 d_Ld_arm_15 d_Ld_arm_17 d_Ld_arm_20
set_option maxHeartbeats 4000000 in
set_option maxRecDepth 100000 in
theorem t_Ld_out1 (l : Launch) (hfl : l.flags = pinnedFlags ++ [noTraceFlag]) (dC : Nat → ClassId) (dI : Nat → Nat → Nat) (h0 o0 o1 o2 o3 o4 : Nat) (x : Int32) (h1 : x < 0) (q : Nat) (sz : Nat) : th_Met l y_Ld_out (Cond.code y_Ld_out b_Ld_out 2 (some .int) :: gw) ({ frames := 6, cells := 1, slots := 6, locals := 100 }) (cP (dC, dI) [.ref h0, .int x] sz [(h0, .inr (0, [.ref o0, .ref o1, .ref o2, .ref o3, .ref o4, .int 0]))] [] (xE 119 "no such number is kept" q)) "java/lang/IndexOutOfBoundsException" := by
  refine th_ofW (cc := b_Ld_out) (maxL := 2) (ret := (some .int)) (by decide) rfl ?_
  intro p e s m args below meth c s₁ B hml htab hv
  obtain ⟨rfl, hsz, hP, hK, hD0, hkw, hX⟩ := hv
  have hx := B.exec
  have hb := B.bytes
  have hr := B.returns
  have hts := fun w hw => atoms_spec (ws := Cond.code y_Ld_out b_Ld_out 2 (some .int) :: gw) B.pre w (List.mem_cons_of_mem _ hw)
  have hown : s.vm.findClass "LineDisk" = some m.cls := findClass_of_methodNamed B.named
  have hlocks := B.notSynchronized
  have hin := (name_of_methodNamed B.named B.method).1
  subst hsz
  have hD := hD0.self (sz := s.heap.size)
  generalize hAe : va_A [(h0, .inr (0, [.ref o0, .ref o1, .ref o2, .ref o3, .ref o4, .int 0]))] s.heap.size = A at hD
  have hA : ∀ q : Nat, s.heap.size ≤ q → A q := fun q h => by rw [← hAe]; exact Or.inr h
  have hS : va_S A s.heap s.heap [] := va_S.rf
  have hl := lv_entry ([.ref h0, .int x]) (n := 2) (Nat.le_of_ble_eq_true rfl)
  rw [lg_entry_eq]
  generalize (lg_sl ([.ref h0, .int x]) ++ List.replicate (2 - (lg_sl ([.ref h0, .int x])).length) Slot.unset).toArray = ls at hl ⊢
  have hl : lv_has ls 2 [(0, .ref h0), (1, .int x)] := hl
  have F : CallFix p m c b_Ld_out 2 s ([.ref h0, .int x]).toArray gw "LineDisk" := ⟨hx, hb, hml, hown, hts⟩
  refine lv_iload_n hx hb d_Ld_out_0 rfl (lv_at hl 1 rfl) ?_
  refine lv_if_lt (tgt := 18) hx hb d_Ld_out_1 (by decide) (fun _ => ?_) (fun h => absurd (h1) h)
  exact th_throw hx hb (Launch.traces_off hfl B.admits) (own := "LineDisk") (X := "java/lang/IndexOutOfBoundsException") (names := ["java/lang/RuntimeException", "java/lang/Exception"]) hown (by decide +kernel) (by decide +kernel) (own_all own_out hts hkw hX.2.1 hX.2.2) (hts _ w_559) (hts _ w_14) hX.1 (hl.1.trans hml.symm) htab hlocks (by decide) (by decide) (by decide) (by decide) (by decide) (by decide) d_Ld_out_18 d_Ld_out_21 d_Ld_out_22 d_Ld_out_24 d_Ld_out_27
set_option maxHeartbeats 4000000 in
set_option maxRecDepth 100000 in
theorem t_Ld_out2 (l : Launch) (hfl : l.flags = pinnedFlags ++ [noTraceFlag]) (dC : Nat → ClassId) (dI : Nat → Nat → Nat) (h0 o0 o1 o2 o3 o4 : Nat) (x : Int32) (h1 : ¬ x < 0) (q : Nat) (sz : Nat) : th_Met l y_Ld_out (Cond.code y_Ld_out b_Ld_out 2 (some .int) :: gw) ({ frames := 6, cells := 1, slots := 6, locals := 100 }) (cP (dC, dI) [.ref h0, .int x] sz [(h0, .inr (0, [.ref o0, .ref o1, .ref o2, .ref o3, .ref o4, .int 0]))] [] (xE 119 "no such number is kept" q)) "java/lang/IndexOutOfBoundsException" := by
  refine th_ofW (cc := b_Ld_out) (maxL := 2) (ret := (some .int)) (by decide) rfl ?_
  intro p e s m args below meth c s₁ B hml htab hv
  obtain ⟨rfl, hsz, hP, hK, hD0, hkw, hX⟩ := hv
  have hx := B.exec
  have hb := B.bytes
  have hr := B.returns
  have hts := fun w hw => atoms_spec (ws := Cond.code y_Ld_out b_Ld_out 2 (some .int) :: gw) B.pre w (List.mem_cons_of_mem _ hw)
  have hown : s.vm.findClass "LineDisk" = some m.cls := findClass_of_methodNamed B.named
  have hlocks := B.notSynchronized
  have hin := (name_of_methodNamed B.named B.method).1
  subst hsz
  have hD := hD0.self (sz := s.heap.size)
  generalize hAe : va_A [(h0, .inr (0, [.ref o0, .ref o1, .ref o2, .ref o3, .ref o4, .int 0]))] s.heap.size = A at hD
  have hA : ∀ q : Nat, s.heap.size ≤ q → A q := fun q h => by rw [← hAe]; exact Or.inr h
  have hS : va_S A s.heap s.heap [] := va_S.rf
  have hl := lv_entry ([.ref h0, .int x]) (n := 2) (Nat.le_of_ble_eq_true rfl)
  rw [lg_entry_eq]
  generalize (lg_sl ([.ref h0, .int x]) ++ List.replicate (2 - (lg_sl ([.ref h0, .int x])).length) Slot.unset).toArray = ls at hl ⊢
  have hl : lv_has ls 2 [(0, .ref h0), (1, .int x)] := hl
  have F : CallFix p m c b_Ld_out 2 s ([.ref h0, .int x]).toArray gw "LineDisk" := ⟨hx, hb, hml, hown, hts⟩
  refine lv_iload_n hx hb d_Ld_out_0 rfl (lv_at hl 1 rfl) ?_
  refine lv_if_lt (tgt := 18) hx hb d_Ld_out_1 (by decide) (fun h => absurd h (h1)) (fun _ => ?_)
  refine lv_iload_n hx hb d_Ld_out_4 rfl (lv_at hl 1 rfl) ?_
  refine lv_aload_n hx hb d_Ld_out_5 rfl (lv_at hl 0 rfl) ?_
  refine va_get (D := (dC, dI)) (ci := 0) (v := .int 0) (C := R_Ld) (T := F_Ld) (N := 6) hx hb hts in_Ld hown hK hP 0 rfl rfl 5 (by decide) (hts _ w_157) (fun _ h9 => h9) rfl d_Ld_out_6 ?_
  refine lv_icmp_ge (tgt := 18) hx hb d_Ld_out_9 (by decide) (fun _ => ?_) (fun h => absurd (Int32.not_lt.mp h1) h)
  exact th_throw hx hb (Launch.traces_off hfl B.admits) (own := "LineDisk") (X := "java/lang/IndexOutOfBoundsException") (names := ["java/lang/RuntimeException", "java/lang/Exception"]) hown (by decide +kernel) (by decide +kernel) (own_all own_out hts hkw hX.2.1 hX.2.2) (hts _ w_559) (hts _ w_14) hX.1 (hl.1.trans hml.symm) htab hlocks (by decide) (by decide) (by decide) (by decide) (by decide) (by decide) d_Ld_out_18 d_Ld_out_21 d_Ld_out_22 d_Ld_out_24 d_Ld_out_27
set_option maxHeartbeats 4000000 in
set_option maxRecDepth 100000 in
theorem t_Ld_disk1 (l : Launch) (hfl : l.flags = pinnedFlags ++ [noTraceFlag]) (dC : Nat → ClassId) (dI : Nat → Nat → Nat) (h0 o0 o1 o2 o3 o4 : Nat) (x : Int32) (h1 : x < 0) (q : Nat) (sz : Nat) : th_Met l y_Ld_disk (Cond.code y_Ld_disk b_Ld_disk 2 (some .int) :: gw) ({ frames := 6, cells := 1, slots := 6, locals := 100 }) (cP (dC, dI) [.ref h0, .int x] sz [(h0, .inr (0, [.ref o0, .ref o1, .ref o2, .ref o3, .ref o4, .int 0]))] [] (xE 122 "no such cell" q)) "java/lang/IndexOutOfBoundsException" := by
  refine th_ofW (cc := b_Ld_disk) (maxL := 2) (ret := (some .int)) (by decide) rfl ?_
  intro p e s m args below meth c s₁ B hml htab hv
  obtain ⟨rfl, hsz, hP, hK, hD0, hkw, hX⟩ := hv
  have hx := B.exec
  have hb := B.bytes
  have hr := B.returns
  have hts := fun w hw => atoms_spec (ws := Cond.code y_Ld_disk b_Ld_disk 2 (some .int) :: gw) B.pre w (List.mem_cons_of_mem _ hw)
  have hown : s.vm.findClass "LineDisk" = some m.cls := findClass_of_methodNamed B.named
  have hlocks := B.notSynchronized
  have hin := (name_of_methodNamed B.named B.method).1
  subst hsz
  have hD := hD0.self (sz := s.heap.size)
  generalize hAe : va_A [(h0, .inr (0, [.ref o0, .ref o1, .ref o2, .ref o3, .ref o4, .int 0]))] s.heap.size = A at hD
  have hA : ∀ q : Nat, s.heap.size ≤ q → A q := fun q h => by rw [← hAe]; exact Or.inr h
  have hS : va_S A s.heap s.heap [] := va_S.rf
  have hl := lv_entry ([.ref h0, .int x]) (n := 2) (Nat.le_of_ble_eq_true rfl)
  rw [lg_entry_eq]
  generalize (lg_sl ([.ref h0, .int x]) ++ List.replicate (2 - (lg_sl ([.ref h0, .int x])).length) Slot.unset).toArray = ls at hl ⊢
  have hl : lv_has ls 2 [(0, .ref h0), (1, .int x)] := hl
  have F : CallFix p m c b_Ld_disk 2 s ([.ref h0, .int x]).toArray gw "LineDisk" := ⟨hx, hb, hml, hown, hts⟩
  refine lv_iload_n hx hb d_Ld_disk_0 rfl (lv_at hl 1 rfl) ?_
  refine lv_if_lt (tgt := 11) hx hb d_Ld_disk_1 (by decide) (fun _ => ?_) (fun h => absurd (h1) h)
  exact th_throw hx hb (Launch.traces_off hfl B.admits) (own := "LineDisk") (X := "java/lang/IndexOutOfBoundsException") (names := ["java/lang/RuntimeException", "java/lang/Exception"]) hown (by decide +kernel) (by decide +kernel) (own_all own_out hts hkw hX.2.1 hX.2.2) (hts _ w_559) (hts _ w_14) hX.1 (hl.1.trans hml.symm) htab hlocks (by decide) (by decide) (by decide) (by decide) (by decide) (by decide) d_Ld_disk_11 d_Ld_disk_14 d_Ld_disk_15 d_Ld_disk_17 d_Ld_disk_20
set_option maxHeartbeats 4000000 in
set_option maxRecDepth 100000 in
theorem t_Ld_disk2 (l : Launch) (hfl : l.flags = pinnedFlags ++ [noTraceFlag]) (dC : Nat → ClassId) (dI : Nat → Nat → Nat) (h0 o0 o1 o2 o3 o4 : Nat) (x : Int32) (h1 : ¬ x < 0) (h2 : ¬ x < 512) (q : Nat) (sz : Nat) : th_Met l y_Ld_disk (Cond.code y_Ld_disk b_Ld_disk 2 (some .int) :: gw) ({ frames := 6, cells := 1, slots := 6, locals := 100 }) (cP (dC, dI) [.ref h0, .int x] sz [(h0, .inr (0, [.ref o0, .ref o1, .ref o2, .ref o3, .ref o4, .int 0]))] [] (xE 122 "no such cell" q)) "java/lang/IndexOutOfBoundsException" := by
  refine th_ofW (cc := b_Ld_disk) (maxL := 2) (ret := (some .int)) (by decide) rfl ?_
  intro p e s m args below meth c s₁ B hml htab hv
  obtain ⟨rfl, hsz, hP, hK, hD0, hkw, hX⟩ := hv
  have hx := B.exec
  have hb := B.bytes
  have hr := B.returns
  have hts := fun w hw => atoms_spec (ws := Cond.code y_Ld_disk b_Ld_disk 2 (some .int) :: gw) B.pre w (List.mem_cons_of_mem _ hw)
  have hown : s.vm.findClass "LineDisk" = some m.cls := findClass_of_methodNamed B.named
  have hlocks := B.notSynchronized
  have hin := (name_of_methodNamed B.named B.method).1
  subst hsz
  have hD := hD0.self (sz := s.heap.size)
  generalize hAe : va_A [(h0, .inr (0, [.ref o0, .ref o1, .ref o2, .ref o3, .ref o4, .int 0]))] s.heap.size = A at hD
  have hA : ∀ q : Nat, s.heap.size ≤ q → A q := fun q h => by rw [← hAe]; exact Or.inr h
  have hS : va_S A s.heap s.heap [] := va_S.rf
  have hl := lv_entry ([.ref h0, .int x]) (n := 2) (Nat.le_of_ble_eq_true rfl)
  rw [lg_entry_eq]
  generalize (lg_sl ([.ref h0, .int x]) ++ List.replicate (2 - (lg_sl ([.ref h0, .int x])).length) Slot.unset).toArray = ls at hl ⊢
  have hl : lv_has ls 2 [(0, .ref h0), (1, .int x)] := hl
  have F : CallFix p m c b_Ld_disk 2 s ([.ref h0, .int x]).toArray gw "LineDisk" := ⟨hx, hb, hml, hown, hts⟩
  refine lv_iload_n hx hb d_Ld_disk_0 rfl (lv_at hl 1 rfl) ?_
  refine lv_if_lt (tgt := 11) hx hb d_Ld_disk_1 (by decide) (fun h => absurd h (h1)) (fun _ => ?_)
  refine lv_iload_n hx hb d_Ld_disk_4 rfl (lv_at hl 1 rfl) ?_
  refine lv_sipush (v := 512) hx hb d_Ld_disk_5 (by decide) ?_
  refine lv_icmp_lt (tgt := 21) hx hb d_Ld_disk_8 (by decide) (fun h => absurd h (h2)) (fun _ => ?_)
  exact th_throw hx hb (Launch.traces_off hfl B.admits) (own := "LineDisk") (X := "java/lang/IndexOutOfBoundsException") (names := ["java/lang/RuntimeException", "java/lang/Exception"]) hown (by decide +kernel) (by decide +kernel) (own_all own_out hts hkw hX.2.1 hX.2.2) (hts _ w_559) (hts _ w_14) hX.1 (hl.1.trans hml.symm) htab hlocks (by decide) (by decide) (by decide) (by decide) (by decide) (by decide) d_Ld_disk_11 d_Ld_disk_14 d_Ld_disk_15 d_Ld_disk_17 d_Ld_disk_20
