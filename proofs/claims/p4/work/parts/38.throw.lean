/-! the throwing ends of arm, out, disk, in any state -/
set_option maxHeartbeats 4000000 in
set_option maxRecDepth 100000 in
theorem t_Ld_arm1 (l : Launch) (hfl : l.flags = pinnedFlags ++ [noTraceFlag]) (dC : Nat → ClassId) (dI : Nat → Nat → Nat) (a : LAd) (L : LSt) (x : Int32) (h1 : x < 0) (q : Nat) (sz : Nat) : th_Met l y_Ld_arm (Cond.code y_Ld_arm b_Ld_arm 2 (some .boolean) :: gw) ({ frames := 6, cells := 1, slots := 6, locals := 100 }) (cP (dC, dI) [.ref a.o0, .int x] sz [(a.o0, .inr (0, [.ref a.s0, .ref a.j0, .ref a.h0, .ref a.m0, .ref a.kp, .int L.oc]))] [] (xE 112 "armed with 0 to 1000 writes" q)) "java/lang/IllegalArgumentException" := by
  refine th_ofW (cc := b_Ld_arm) (maxL := 2) (ret := (some .boolean)) (by decide) rfl ?_
  intro p e s m args below meth c s₁ B hml htab hv
  obtain ⟨rfl, hsz, hP, hK, hD0, hkw, hX⟩ := hv
  have hx := B.exec
  have hb := B.bytes
  have hr := B.returns
  have hts := fun w hw => atoms_spec (ws := Cond.code y_Ld_arm b_Ld_arm 2 (some .boolean) :: gw) B.pre w (List.mem_cons_of_mem _ hw)
  have hown : s.vm.findClass "LineDisk" = some m.cls := findClass_of_methodNamed B.named
  have hlocks := B.notSynchronized
  have hin := (name_of_methodNamed B.named B.method).1
  subst hsz
  have hD := hD0.self (sz := s.heap.size)
  generalize hAe : va_A [(a.o0, .inr (0, [.ref a.s0, .ref a.j0, .ref a.h0, .ref a.m0, .ref a.kp, .int L.oc]))] s.heap.size = A at hD
  have hA : ∀ q : Nat, s.heap.size ≤ q → A q := fun q h => by rw [← hAe]; exact Or.inr h
  have hS : va_S A s.heap s.heap [] := va_S.rf
  have hl := lv_entry ([.ref a.o0, .int x]) (n := 2) (Nat.le_of_ble_eq_true rfl)
  rw [lg_entry_eq]
  generalize (lg_sl ([.ref a.o0, .int x]) ++ List.replicate (2 - (lg_sl ([.ref a.o0, .int x])).length) Slot.unset).toArray = ls at hl ⊢
  have hl : lv_has ls 2 [(0, .ref a.o0), (1, .int x)] := hl
  have F : CallFix p m c b_Ld_arm 2 s ([.ref a.o0, .int x]).toArray gw "LineDisk" := ⟨hx, hb, hml, hown, hts⟩
  refine lv_iload_n hx hb d_Ld_arm_0 rfl (lv_at hl 1 rfl) ?_
  refine lv_if_lt (tgt := 11) hx hb d_Ld_arm_1 (by decide) (fun _ => ?_) (fun h => absurd (h1) h)
  exact th_throw hx hb (Launch.traces_off hfl B.admits) (own := "LineDisk") (X := "java/lang/IllegalArgumentException") (names := ["java/lang/RuntimeException", "java/lang/Exception"]) hown (by decide +kernel) (by decide +kernel) (own_all own_arm hts hkw hX.2.1 hX.2.2) (hts _ w_484) (hts _ w_13) hX.1 (hl.1.trans hml.symm) htab hlocks (by decide) (by decide) (by decide) (by decide) (by decide) (by decide) d_Ld_arm_11 d_Ld_arm_14 d_Ld_arm_15 d_Ld_arm_17 d_Ld_arm_20
set_option maxHeartbeats 4000000 in
set_option maxRecDepth 100000 in
theorem t_Ld_arm2 (l : Launch) (hfl : l.flags = pinnedFlags ++ [noTraceFlag]) (dC : Nat → ClassId) (dI : Nat → Nat → Nat) (a : LAd) (L : LSt) (x : Int32) (h1 : ¬ x < 0) (h2 : ¬ x ≤ 1000) (q : Nat) (sz : Nat) : th_Met l y_Ld_arm (Cond.code y_Ld_arm b_Ld_arm 2 (some .boolean) :: gw) ({ frames := 6, cells := 1, slots := 6, locals := 100 }) (cP (dC, dI) [.ref a.o0, .int x] sz [(a.o0, .inr (0, [.ref a.s0, .ref a.j0, .ref a.h0, .ref a.m0, .ref a.kp, .int L.oc]))] [] (xE 112 "armed with 0 to 1000 writes" q)) "java/lang/IllegalArgumentException" := by
  refine th_ofW (cc := b_Ld_arm) (maxL := 2) (ret := (some .boolean)) (by decide) rfl ?_
  intro p e s m args below meth c s₁ B hml htab hv
  obtain ⟨rfl, hsz, hP, hK, hD0, hkw, hX⟩ := hv
  have hx := B.exec
  have hb := B.bytes
  have hr := B.returns
  have hts := fun w hw => atoms_spec (ws := Cond.code y_Ld_arm b_Ld_arm 2 (some .boolean) :: gw) B.pre w (List.mem_cons_of_mem _ hw)
  have hown : s.vm.findClass "LineDisk" = some m.cls := findClass_of_methodNamed B.named
  have hlocks := B.notSynchronized
  have hin := (name_of_methodNamed B.named B.method).1
  subst hsz
  have hD := hD0.self (sz := s.heap.size)
  generalize hAe : va_A [(a.o0, .inr (0, [.ref a.s0, .ref a.j0, .ref a.h0, .ref a.m0, .ref a.kp, .int L.oc]))] s.heap.size = A at hD
  have hA : ∀ q : Nat, s.heap.size ≤ q → A q := fun q h => by rw [← hAe]; exact Or.inr h
  have hS : va_S A s.heap s.heap [] := va_S.rf
  have hl := lv_entry ([.ref a.o0, .int x]) (n := 2) (Nat.le_of_ble_eq_true rfl)
  rw [lg_entry_eq]
  generalize (lg_sl ([.ref a.o0, .int x]) ++ List.replicate (2 - (lg_sl ([.ref a.o0, .int x])).length) Slot.unset).toArray = ls at hl ⊢
  have hl : lv_has ls 2 [(0, .ref a.o0), (1, .int x)] := hl
  have F : CallFix p m c b_Ld_arm 2 s ([.ref a.o0, .int x]).toArray gw "LineDisk" := ⟨hx, hb, hml, hown, hts⟩
  refine lv_iload_n hx hb d_Ld_arm_0 rfl (lv_at hl 1 rfl) ?_
  refine lv_if_lt (tgt := 11) hx hb d_Ld_arm_1 (by decide) (fun h => absurd h (h1)) (fun _ => ?_)
  refine lv_iload_n hx hb d_Ld_arm_4 rfl (lv_at hl 1 rfl) ?_
  refine lv_sipush (v := 1000) hx hb d_Ld_arm_5 (by decide) ?_
  refine lv_icmp_le (tgt := 21) hx hb d_Ld_arm_8 (by decide) (fun h => absurd h (h2)) (fun _ => ?_)
  exact th_throw hx hb (Launch.traces_off hfl B.admits) (own := "LineDisk") (X := "java/lang/IllegalArgumentException") (names := ["java/lang/RuntimeException", "java/lang/Exception"]) hown (by decide +kernel) (by decide +kernel) (own_all own_arm hts hkw hX.2.1 hX.2.2) (hts _ w_484) (hts _ w_13) hX.1 (hl.1.trans hml.symm) htab hlocks (by decide) (by decide) (by decide) (by decide) (by decide) (by decide) d_Ld_arm_11 d_Ld_arm_14 d_Ld_arm_15 d_Ld_arm_17 d_Ld_arm_20
set_option maxHeartbeats 4000000 in
set_option maxRecDepth 100000 in
theorem t_Ld_out1 (l : Launch) (hfl : l.flags = pinnedFlags ++ [noTraceFlag]) (dC : Nat → ClassId) (dI : Nat → Nat → Nat) (a : LAd) (L : LSt) (x : Int32) (h1 : x < 0) (q : Nat) (sz : Nat) : th_Met l y_Ld_out (Cond.code y_Ld_out b_Ld_out 2 (some .int) :: gw) ({ frames := 6, cells := 1, slots := 6, locals := 100 }) (cP (dC, dI) [.ref a.o0, .int x] sz [(a.o0, .inr (0, [.ref a.s0, .ref a.j0, .ref a.h0, .ref a.m0, .ref a.kp, .int L.oc]))] [] (xE 119 "no such number is kept" q)) "java/lang/IndexOutOfBoundsException" := by
  refine th_ofW (cc := b_Ld_out) (maxL := 2) (ret := (some .int)) (by decide) rfl ?_
  intro p e s m args below meth c s₁ B hml htab hv
  obtain ⟨rfl, hsz, hP, hK, hD0, hkw, hX⟩ := hv
  have hx := B.exec
  have hb := B.bytes
  have hr := B.returns
  have hts := fun w hw => atoms_spec (ws := Cond.code y_Ld_out b_Ld_out 2 (some .int) :: gw) B.pre w (List.mem_cons_of_mem _ hw)
  have hown : s.vm.findClass "LineDisk" = some m.cls := findClass_of_methodNamed B.named
  have hlocks := B.notSynchronized
  have hin := (name_of_methodNamed B.named B.method).1
  subst hsz
  have hD := hD0.self (sz := s.heap.size)
  generalize hAe : va_A [(a.o0, .inr (0, [.ref a.s0, .ref a.j0, .ref a.h0, .ref a.m0, .ref a.kp, .int L.oc]))] s.heap.size = A at hD
  have hA : ∀ q : Nat, s.heap.size ≤ q → A q := fun q h => by rw [← hAe]; exact Or.inr h
  have hS : va_S A s.heap s.heap [] := va_S.rf
  have hl := lv_entry ([.ref a.o0, .int x]) (n := 2) (Nat.le_of_ble_eq_true rfl)
  rw [lg_entry_eq]
  generalize (lg_sl ([.ref a.o0, .int x]) ++ List.replicate (2 - (lg_sl ([.ref a.o0, .int x])).length) Slot.unset).toArray = ls at hl ⊢
  have hl : lv_has ls 2 [(0, .ref a.o0), (1, .int x)] := hl
  have F : CallFix p m c b_Ld_out 2 s ([.ref a.o0, .int x]).toArray gw "LineDisk" := ⟨hx, hb, hml, hown, hts⟩
  refine lv_iload_n hx hb d_Ld_out_0 rfl (lv_at hl 1 rfl) ?_
  refine lv_if_lt (tgt := 18) hx hb d_Ld_out_1 (by decide) (fun _ => ?_) (fun h => absurd (h1) h)
  exact th_throw hx hb (Launch.traces_off hfl B.admits) (own := "LineDisk") (X := "java/lang/IndexOutOfBoundsException") (names := ["java/lang/RuntimeException", "java/lang/Exception"]) hown (by decide +kernel) (by decide +kernel) (own_all own_out hts hkw hX.2.1 hX.2.2) (hts _ w_559) (hts _ w_14) hX.1 (hl.1.trans hml.symm) htab hlocks (by decide) (by decide) (by decide) (by decide) (by decide) (by decide) d_Ld_out_18 d_Ld_out_21 d_Ld_out_22 d_Ld_out_24 d_Ld_out_27
set_option maxHeartbeats 4000000 in
set_option maxRecDepth 100000 in
theorem t_Ld_out2 (l : Launch) (hfl : l.flags = pinnedFlags ++ [noTraceFlag]) (dC : Nat → ClassId) (dI : Nat → Nat → Nat) (a : LAd) (L : LSt) (x : Int32) (h1 : ¬ x < 0) (h2 : L.oc ≤ x) (q : Nat) (sz : Nat) : th_Met l y_Ld_out (Cond.code y_Ld_out b_Ld_out 2 (some .int) :: gw) ({ frames := 6, cells := 1, slots := 6, locals := 100 }) (cP (dC, dI) [.ref a.o0, .int x] sz [(a.o0, .inr (0, [.ref a.s0, .ref a.j0, .ref a.h0, .ref a.m0, .ref a.kp, .int L.oc]))] [] (xE 119 "no such number is kept" q)) "java/lang/IndexOutOfBoundsException" := by
  refine th_ofW (cc := b_Ld_out) (maxL := 2) (ret := (some .int)) (by decide) rfl ?_
  intro p e s m args below meth c s₁ B hml htab hv
  obtain ⟨rfl, hsz, hP, hK, hD0, hkw, hX⟩ := hv
  have hx := B.exec
  have hb := B.bytes
  have hr := B.returns
  have hts := fun w hw => atoms_spec (ws := Cond.code y_Ld_out b_Ld_out 2 (some .int) :: gw) B.pre w (List.mem_cons_of_mem _ hw)
  have hown : s.vm.findClass "LineDisk" = some m.cls := findClass_of_methodNamed B.named
  have hlocks := B.notSynchronized
  have hin := (name_of_methodNamed B.named B.method).1
  subst hsz
  have hD := hD0.self (sz := s.heap.size)
  generalize hAe : va_A [(a.o0, .inr (0, [.ref a.s0, .ref a.j0, .ref a.h0, .ref a.m0, .ref a.kp, .int L.oc]))] s.heap.size = A at hD
  have hA : ∀ q : Nat, s.heap.size ≤ q → A q := fun q h => by rw [← hAe]; exact Or.inr h
  have hS : va_S A s.heap s.heap [] := va_S.rf
  have hl := lv_entry ([.ref a.o0, .int x]) (n := 2) (Nat.le_of_ble_eq_true rfl)
  rw [lg_entry_eq]
  generalize (lg_sl ([.ref a.o0, .int x]) ++ List.replicate (2 - (lg_sl ([.ref a.o0, .int x])).length) Slot.unset).toArray = ls at hl ⊢
  have hl : lv_has ls 2 [(0, .ref a.o0), (1, .int x)] := hl
  have F : CallFix p m c b_Ld_out 2 s ([.ref a.o0, .int x]).toArray gw "LineDisk" := ⟨hx, hb, hml, hown, hts⟩
  refine lv_iload_n hx hb d_Ld_out_0 rfl (lv_at hl 1 rfl) ?_
  refine lv_if_lt (tgt := 18) hx hb d_Ld_out_1 (by decide) (fun h => absurd h (h1)) (fun _ => ?_)
  refine lv_iload_n hx hb d_Ld_out_4 rfl (lv_at hl 1 rfl) ?_
  refine lv_aload_n hx hb d_Ld_out_5 rfl (lv_at hl 0 rfl) ?_
  refine va_get (D := (dC, dI)) (ci := 0) (v := .int L.oc) (C := R_Ld) (T := F_Ld) (N := 6) hx hb hts in_Ld hown hK hP 0 rfl rfl 5 (by decide) (hts _ w_157) (fun _ h9 => h9) rfl d_Ld_out_6 ?_
  refine lv_icmp_ge (tgt := 18) hx hb d_Ld_out_9 (by decide) (fun _ => ?_) (fun h => absurd (h2) h)
  exact th_throw hx hb (Launch.traces_off hfl B.admits) (own := "LineDisk") (X := "java/lang/IndexOutOfBoundsException") (names := ["java/lang/RuntimeException", "java/lang/Exception"]) hown (by decide +kernel) (by decide +kernel) (own_all own_out hts hkw hX.2.1 hX.2.2) (hts _ w_559) (hts _ w_14) hX.1 (hl.1.trans hml.symm) htab hlocks (by decide) (by decide) (by decide) (by decide) (by decide) (by decide) d_Ld_out_18 d_Ld_out_21 d_Ld_out_22 d_Ld_out_24 d_Ld_out_27
set_option maxHeartbeats 4000000 in
set_option maxRecDepth 100000 in
theorem t_Ld_out3 (l : Launch) (hfl : l.flags = pinnedFlags ++ [noTraceFlag]) (dC : Nat → ClassId) (dI : Nat → Nat → Nat) (a : LAd) (L : LSt) (x : Int32) (h1 : ¬ x < 0) (h2 : ¬ L.oc ≤ x) (h3 : ¬ x < 60) (q : Nat) (sz : Nat) : th_Met l y_Ld_out (Cond.code y_Ld_out b_Ld_out 2 (some .int) :: gw) ({ frames := 6, cells := 1, slots := 6, locals := 100 }) (cP (dC, dI) [.ref a.o0, .int x] sz [(a.o0, .inr (0, [.ref a.s0, .ref a.j0, .ref a.h0, .ref a.m0, .ref a.kp, .int L.oc]))] [] (xE 119 "no such number is kept" q)) "java/lang/IndexOutOfBoundsException" := by
  refine th_ofW (cc := b_Ld_out) (maxL := 2) (ret := (some .int)) (by decide) rfl ?_
  intro p e s m args below meth c s₁ B hml htab hv
  obtain ⟨rfl, hsz, hP, hK, hD0, hkw, hX⟩ := hv
  have hx := B.exec
  have hb := B.bytes
  have hr := B.returns
  have hts := fun w hw => atoms_spec (ws := Cond.code y_Ld_out b_Ld_out 2 (some .int) :: gw) B.pre w (List.mem_cons_of_mem _ hw)
  have hown : s.vm.findClass "LineDisk" = some m.cls := findClass_of_methodNamed B.named
  have hlocks := B.notSynchronized
  have hin := (name_of_methodNamed B.named B.method).1
  subst hsz
  have hD := hD0.self (sz := s.heap.size)
  generalize hAe : va_A [(a.o0, .inr (0, [.ref a.s0, .ref a.j0, .ref a.h0, .ref a.m0, .ref a.kp, .int L.oc]))] s.heap.size = A at hD
  have hA : ∀ q : Nat, s.heap.size ≤ q → A q := fun q h => by rw [← hAe]; exact Or.inr h
  have hS : va_S A s.heap s.heap [] := va_S.rf
  have hl := lv_entry ([.ref a.o0, .int x]) (n := 2) (Nat.le_of_ble_eq_true rfl)
  rw [lg_entry_eq]
  generalize (lg_sl ([.ref a.o0, .int x]) ++ List.replicate (2 - (lg_sl ([.ref a.o0, .int x])).length) Slot.unset).toArray = ls at hl ⊢
  have hl : lv_has ls 2 [(0, .ref a.o0), (1, .int x)] := hl
  have F : CallFix p m c b_Ld_out 2 s ([.ref a.o0, .int x]).toArray gw "LineDisk" := ⟨hx, hb, hml, hown, hts⟩
  refine lv_iload_n hx hb d_Ld_out_0 rfl (lv_at hl 1 rfl) ?_
  refine lv_if_lt (tgt := 18) hx hb d_Ld_out_1 (by decide) (fun h => absurd h (h1)) (fun _ => ?_)
  refine lv_iload_n hx hb d_Ld_out_4 rfl (lv_at hl 1 rfl) ?_
  refine lv_aload_n hx hb d_Ld_out_5 rfl (lv_at hl 0 rfl) ?_
  refine va_get (D := (dC, dI)) (ci := 0) (v := .int L.oc) (C := R_Ld) (T := F_Ld) (N := 6) hx hb hts in_Ld hown hK hP 0 rfl rfl 5 (by decide) (hts _ w_157) (fun _ h9 => h9) rfl d_Ld_out_6 ?_
  refine lv_icmp_ge (tgt := 18) hx hb d_Ld_out_9 (by decide) (fun h => absurd h (h2)) (fun _ => ?_)
  refine lv_iload_n hx hb d_Ld_out_12 rfl (lv_at hl 1 rfl) ?_
  refine lv_bipush (v := 60) hx hb d_Ld_out_13 (by decide) ?_
  refine lv_icmp_lt (tgt := 28) hx hb d_Ld_out_15 (by decide) (fun h => absurd h (h3)) (fun _ => ?_)
  exact th_throw hx hb (Launch.traces_off hfl B.admits) (own := "LineDisk") (X := "java/lang/IndexOutOfBoundsException") (names := ["java/lang/RuntimeException", "java/lang/Exception"]) hown (by decide +kernel) (by decide +kernel) (own_all own_out hts hkw hX.2.1 hX.2.2) (hts _ w_559) (hts _ w_14) hX.1 (hl.1.trans hml.symm) htab hlocks (by decide) (by decide) (by decide) (by decide) (by decide) (by decide) d_Ld_out_18 d_Ld_out_21 d_Ld_out_22 d_Ld_out_24 d_Ld_out_27
set_option maxHeartbeats 4000000 in
set_option maxRecDepth 100000 in
theorem t_Ld_disk1 (l : Launch) (hfl : l.flags = pinnedFlags ++ [noTraceFlag]) (dC : Nat → ClassId) (dI : Nat → Nat → Nat) (a : LAd) (L : LSt) (x : Int32) (h1 : x < 0) (q : Nat) (sz : Nat) : th_Met l y_Ld_disk (Cond.code y_Ld_disk b_Ld_disk 2 (some .int) :: gw) ({ frames := 6, cells := 1, slots := 6, locals := 100 }) (cP (dC, dI) [.ref a.o0, .int x] sz [(a.o0, .inr (0, [.ref a.s0, .ref a.j0, .ref a.h0, .ref a.m0, .ref a.kp, .int L.oc]))] [] (xE 122 "no such cell" q)) "java/lang/IndexOutOfBoundsException" := by
  refine th_ofW (cc := b_Ld_disk) (maxL := 2) (ret := (some .int)) (by decide) rfl ?_
  intro p e s m args below meth c s₁ B hml htab hv
  obtain ⟨rfl, hsz, hP, hK, hD0, hkw, hX⟩ := hv
  have hx := B.exec
  have hb := B.bytes
  have hr := B.returns
  have hts := fun w hw => atoms_spec (ws := Cond.code y_Ld_disk b_Ld_disk 2 (some .int) :: gw) B.pre w (List.mem_cons_of_mem _ hw)
  have hown : s.vm.findClass "LineDisk" = some m.cls := findClass_of_methodNamed B.named
  have hlocks := B.notSynchronized
  have hin := (name_of_methodNamed B.named B.method).1
  subst hsz
  have hD := hD0.self (sz := s.heap.size)
  generalize hAe : va_A [(a.o0, .inr (0, [.ref a.s0, .ref a.j0, .ref a.h0, .ref a.m0, .ref a.kp, .int L.oc]))] s.heap.size = A at hD
  have hA : ∀ q : Nat, s.heap.size ≤ q → A q := fun q h => by rw [← hAe]; exact Or.inr h
  have hS : va_S A s.heap s.heap [] := va_S.rf
  have hl := lv_entry ([.ref a.o0, .int x]) (n := 2) (Nat.le_of_ble_eq_true rfl)
  rw [lg_entry_eq]
  generalize (lg_sl ([.ref a.o0, .int x]) ++ List.replicate (2 - (lg_sl ([.ref a.o0, .int x])).length) Slot.unset).toArray = ls at hl ⊢
  have hl : lv_has ls 2 [(0, .ref a.o0), (1, .int x)] := hl
  have F : CallFix p m c b_Ld_disk 2 s ([.ref a.o0, .int x]).toArray gw "LineDisk" := ⟨hx, hb, hml, hown, hts⟩
  refine lv_iload_n hx hb d_Ld_disk_0 rfl (lv_at hl 1 rfl) ?_
  refine lv_if_lt (tgt := 11) hx hb d_Ld_disk_1 (by decide) (fun _ => ?_) (fun h => absurd (h1) h)
  exact th_throw hx hb (Launch.traces_off hfl B.admits) (own := "LineDisk") (X := "java/lang/IndexOutOfBoundsException") (names := ["java/lang/RuntimeException", "java/lang/Exception"]) hown (by decide +kernel) (by decide +kernel) (own_all own_out hts hkw hX.2.1 hX.2.2) (hts _ w_559) (hts _ w_14) hX.1 (hl.1.trans hml.symm) htab hlocks (by decide) (by decide) (by decide) (by decide) (by decide) (by decide) d_Ld_disk_11 d_Ld_disk_14 d_Ld_disk_15 d_Ld_disk_17 d_Ld_disk_20
set_option maxHeartbeats 4000000 in
set_option maxRecDepth 100000 in
theorem t_Ld_disk2 (l : Launch) (hfl : l.flags = pinnedFlags ++ [noTraceFlag]) (dC : Nat → ClassId) (dI : Nat → Nat → Nat) (a : LAd) (L : LSt) (x : Int32) (h1 : ¬ x < 0) (h2 : ¬ x < 512) (q : Nat) (sz : Nat) : th_Met l y_Ld_disk (Cond.code y_Ld_disk b_Ld_disk 2 (some .int) :: gw) ({ frames := 6, cells := 1, slots := 6, locals := 100 }) (cP (dC, dI) [.ref a.o0, .int x] sz [(a.o0, .inr (0, [.ref a.s0, .ref a.j0, .ref a.h0, .ref a.m0, .ref a.kp, .int L.oc]))] [] (xE 122 "no such cell" q)) "java/lang/IndexOutOfBoundsException" := by
  refine th_ofW (cc := b_Ld_disk) (maxL := 2) (ret := (some .int)) (by decide) rfl ?_
  intro p e s m args below meth c s₁ B hml htab hv
  obtain ⟨rfl, hsz, hP, hK, hD0, hkw, hX⟩ := hv
  have hx := B.exec
  have hb := B.bytes
  have hr := B.returns
  have hts := fun w hw => atoms_spec (ws := Cond.code y_Ld_disk b_Ld_disk 2 (some .int) :: gw) B.pre w (List.mem_cons_of_mem _ hw)
  have hown : s.vm.findClass "LineDisk" = some m.cls := findClass_of_methodNamed B.named
  have hlocks := B.notSynchronized
  have hin := (name_of_methodNamed B.named B.method).1
  subst hsz
  have hD := hD0.self (sz := s.heap.size)
  generalize hAe : va_A [(a.o0, .inr (0, [.ref a.s0, .ref a.j0, .ref a.h0, .ref a.m0, .ref a.kp, .int L.oc]))] s.heap.size = A at hD
  have hA : ∀ q : Nat, s.heap.size ≤ q → A q := fun q h => by rw [← hAe]; exact Or.inr h
  have hS : va_S A s.heap s.heap [] := va_S.rf
  have hl := lv_entry ([.ref a.o0, .int x]) (n := 2) (Nat.le_of_ble_eq_true rfl)
  rw [lg_entry_eq]
  generalize (lg_sl ([.ref a.o0, .int x]) ++ List.replicate (2 - (lg_sl ([.ref a.o0, .int x])).length) Slot.unset).toArray = ls at hl ⊢
  have hl : lv_has ls 2 [(0, .ref a.o0), (1, .int x)] := hl
  have F : CallFix p m c b_Ld_disk 2 s ([.ref a.o0, .int x]).toArray gw "LineDisk" := ⟨hx, hb, hml, hown, hts⟩
  refine lv_iload_n hx hb d_Ld_disk_0 rfl (lv_at hl 1 rfl) ?_
  refine lv_if_lt (tgt := 11) hx hb d_Ld_disk_1 (by decide) (fun h => absurd h (h1)) (fun _ => ?_)
  refine lv_iload_n hx hb d_Ld_disk_4 rfl (lv_at hl 1 rfl) ?_
  refine lv_sipush (v := 512) hx hb d_Ld_disk_5 (by decide) ?_
  refine lv_icmp_lt (tgt := 21) hx hb d_Ld_disk_8 (by decide) (fun h => absurd h (h2)) (fun _ => ?_)
  exact th_throw hx hb (Launch.traces_off hfl B.admits) (own := "LineDisk") (X := "java/lang/IndexOutOfBoundsException") (names := ["java/lang/RuntimeException", "java/lang/Exception"]) hown (by decide +kernel) (by decide +kernel) (own_all own_out hts hkw hX.2.1 hX.2.2) (hts _ w_559) (hts _ w_14) hX.1 (hl.1.trans hml.symm) htab hlocks (by decide) (by decide) (by decide) (by decide) (by decide) (by decide) d_Ld_disk_11 d_Ld_disk_14 d_Ld_disk_15 d_Ld_disk_17 d_Ld_disk_20
