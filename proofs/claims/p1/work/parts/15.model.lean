set_option maxHeartbeats 4000000 in
set_option maxRecDepth 100000 in
theorem c_Mo_thrown (l : Launch) (dC : Nat → ClassId) (dI : Nat → Nat → Nat) (h0 a0 a1 a2 a3 a4 a5 a6 a7 a8 a9 : Nat) (th ar : Int32) (sz : Nat) : Met l y_Mo_thrown (Cond.code y_Mo_thrown b_Mo_thrown 1 (some .int) :: gw) ({ frames := 0, cells := 0, slots := 0, locals := 0 }) (cP (dC, dI) [.ref h0] sz [(h0, .inr (5, [.int th, .ref a0, .int ar, .int 0, .int 0, .ref a1, .ref a2, .ref a3, .int 0, .int 0, .ref a4, .int 0, .ref a5, .int 0, .int 0, .int 0, .int 0, .int 0, .int 0, .ref a6, .int 0, .ref a7, .int 0, .ref a8, .ref a9]))] [] xT) (va_Qi (fun (r : Int32) (u : Unit) => r = th) (fun (u : Unit) t => cB (dC, dI) (va_A [(h0, .inr (5, [.int th, .ref a0, .int ar, .int 0, .int 0, .ref a1, .ref a2, .ref a3, .int 0, .int 0, .ref a4, .int 0, .ref a5, .int 0, .int 0, .int 0, .int 0, .int 0, .int 0, .ref a6, .int 0, .ref a7, .int 0, .ref a8, .ref a9]))] sz) [] [] t) (va_A [(h0, .inr (5, [.int th, .ref a0, .int ar, .int 0, .int 0, .ref a1, .ref a2, .ref a3, .int 0, .int 0, .ref a4, .int 0, .ref a5, .int 0, .int 0, .int 0, .int 0, .int 0, .int 0, .ref a6, .int 0, .ref a7, .int 0, .ref a8, .ref a9]))] sz)) 0 0 (va_A [(h0, .inr (5, [.int th, .ref a0, .int ar, .int 0, .int 0, .ref a1, .ref a2, .ref a3, .int 0, .int 0, .ref a4, .int 0, .ref a5, .int 0, .int 0, .int 0, .int 0, .int 0, .int 0, .ref a6, .int 0, .ref a7, .int 0, .ref a8, .ref a9]))] sz) := by
  refine Met.ofW (cc := b_Mo_thrown) (maxL := 1) (ret := (some .int)) (by decide) rfl ?_
  intro p e s m args below meth c s₁ B hml hv
  obtain ⟨rfl, hsz, hP, hK, hD0, hkw, hX⟩ := hv
  have hx := B.exec
  have hb := B.bytes
  have hr := B.returns
  have hts := fun w hw => atoms_spec (ws := Cond.code y_Mo_thrown b_Mo_thrown 1 (some .int) :: gw) B.pre w (List.mem_cons_of_mem _ hw)
  have hown : s.vm.findClass "LineDiskModel" = some m.cls := findClass_of_methodNamed B.named
  have hlocks := B.notSynchronized
  have hin := (name_of_methodNamed B.named B.method).1
  subst hsz
  have hD := hD0.self (sz := s.heap.size)
  generalize hAe : va_A [(h0, .inr (5, [.int th, .ref a0, .int ar, .int 0, .int 0, .ref a1, .ref a2, .ref a3, .int 0, .int 0, .ref a4, .int 0, .ref a5, .int 0, .int 0, .int 0, .int 0, .int 0, .int 0, .ref a6, .int 0, .ref a7, .int 0, .ref a8, .ref a9]))] s.heap.size = A at hD ⊢
  have hA : ∀ q : Nat, s.heap.size ≤ q → A q := fun q h => by rw [← hAe]; exact Or.inr h
  have hS : va_S A s.heap s.heap [] := va_S.rf
  have hl := lv_entry ([.ref h0]) (n := 1) (Nat.le_of_ble_eq_true rfl)
  rw [lg_entry_eq]
  generalize (lg_sl ([.ref h0]) ++ List.replicate (1 - (lg_sl ([.ref h0])).length) Slot.unset).toArray = ls at hl ⊢
  have hl : lv_has ls 1 [(0, .ref h0)] := hl
  have F : CallFix p m c b_Mo_thrown 1 s ([.ref h0]).toArray gw "LineDiskModel" := ⟨hx, hb, hml, hown, hts⟩
  refine lv_aload_n hx hb d_Mo_thrown_0 rfl (lv_at hl 0 rfl) ?_
  refine va_get (D := (dC, dI)) (ci := 5) (v := .int th) (C := R_Mo) (T := F_Mo) (N := 25) hx hb hts in_Mo hown hK hP 0 rfl rfl 0 (by decide) (hts _ w_593) (fun _ h9 => h9) rfl d_Mo_thrown_1 ?_
  refine W.widen (k := 0) (n := 0) (by decide) (by decide) ?_
  exact W.iret (v := th) hx hb hr (fun t ht hW => ⟨⟨th, (), rfl, rfl, cB.of (hP.sub [] rfl) (hD.sub [] (by decide) rfl) (hK.sub [] rfl) ht hW⟩, hS.F ht⟩) hS.2.2 d_Mo_thrown_4
set_option maxHeartbeats 4000000 in
set_option maxRecDepth 100000 in
theorem c_Mo_outs (l : Launch) (dC : Nat → ClassId) (dI : Nat → Nat → Nat) (h0 a0 a1 a2 a3 a4 a5 a6 a7 a8 a9 : Nat) (sz : Nat) : Met l y_Mo_outs (Cond.code y_Mo_outs b_Mo_outs 1 (some .int) :: gw) ({ frames := 0, cells := 0, slots := 0, locals := 0 }) (cP (dC, dI) [.ref h0] sz [(h0, .inr (5, [.int 0, .ref a0, .int (-1), .int 0, .int 0, .ref a1, .ref a2, .ref a3, .int 0, .int 0, .ref a4, .int 0, .ref a5, .int 0, .int 0, .int 0, .int 0, .int 0, .int 0, .ref a6, .int 0, .ref a7, .int 0, .ref a8, .ref a9]))] [] xT) (va_Qi (fun (r : Int32) (u : Unit) => r = 0) (fun (u : Unit) t => cB (dC, dI) (va_A [(h0, .inr (5, [.int 0, .ref a0, .int (-1), .int 0, .int 0, .ref a1, .ref a2, .ref a3, .int 0, .int 0, .ref a4, .int 0, .ref a5, .int 0, .int 0, .int 0, .int 0, .int 0, .int 0, .ref a6, .int 0, .ref a7, .int 0, .ref a8, .ref a9]))] sz) [] [] t) (va_A [(h0, .inr (5, [.int 0, .ref a0, .int (-1), .int 0, .int 0, .ref a1, .ref a2, .ref a3, .int 0, .int 0, .ref a4, .int 0, .ref a5, .int 0, .int 0, .int 0, .int 0, .int 0, .int 0, .ref a6, .int 0, .ref a7, .int 0, .ref a8, .ref a9]))] sz)) 0 0 (va_A [(h0, .inr (5, [.int 0, .ref a0, .int (-1), .int 0, .int 0, .ref a1, .ref a2, .ref a3, .int 0, .int 0, .ref a4, .int 0, .ref a5, .int 0, .int 0, .int 0, .int 0, .int 0, .int 0, .ref a6, .int 0, .ref a7, .int 0, .ref a8, .ref a9]))] sz) := by
  refine Met.ofW (cc := b_Mo_outs) (maxL := 1) (ret := (some .int)) (by decide) rfl ?_
  intro p e s m args below meth c s₁ B hml hv
  obtain ⟨rfl, hsz, hP, hK, hD0, hkw, hX⟩ := hv
  have hx := B.exec
  have hb := B.bytes
  have hr := B.returns
  have hts := fun w hw => atoms_spec (ws := Cond.code y_Mo_outs b_Mo_outs 1 (some .int) :: gw) B.pre w (List.mem_cons_of_mem _ hw)
  have hown : s.vm.findClass "LineDiskModel" = some m.cls := findClass_of_methodNamed B.named
  have hlocks := B.notSynchronized
  have hin := (name_of_methodNamed B.named B.method).1
  subst hsz
  have hD := hD0.self (sz := s.heap.size)
  generalize hAe : va_A [(h0, .inr (5, [.int 0, .ref a0, .int (-1), .int 0, .int 0, .ref a1, .ref a2, .ref a3, .int 0, .int 0, .ref a4, .int 0, .ref a5, .int 0, .int 0, .int 0, .int 0, .int 0, .int 0, .ref a6, .int 0, .ref a7, .int 0, .ref a8, .ref a9]))] s.heap.size = A at hD ⊢
  have hA : ∀ q : Nat, s.heap.size ≤ q → A q := fun q h => by rw [← hAe]; exact Or.inr h
  have hS : va_S A s.heap s.heap [] := va_S.rf
  have hl := lv_entry ([.ref h0]) (n := 1) (Nat.le_of_ble_eq_true rfl)
  rw [lg_entry_eq]
  generalize (lg_sl ([.ref h0]) ++ List.replicate (1 - (lg_sl ([.ref h0])).length) Slot.unset).toArray = ls at hl ⊢
  have hl : lv_has ls 1 [(0, .ref h0)] := hl
  have F : CallFix p m c b_Mo_outs 1 s ([.ref h0]).toArray gw "LineDiskModel" := ⟨hx, hb, hml, hown, hts⟩
  refine lv_aload_n hx hb d_Mo_outs_0 rfl (lv_at hl 0 rfl) ?_
  refine lv_iconst (v := 0) hx hb d_Mo_outs_1 (by decide) ?_
  refine va_put (D := (dC, dI)) (ci := 5) (v := .int 0) (ty := .int) (C := R_Mo) (T := F_Mo) (N := 25) hx hb hts in_Mo t_Mo t_Mo_ok n_Mo hown hK hP hD hS 0 rfl rfl 0 (by decide) (hts _ w_593) (fun _ h9 => h9) rfl (by decide +kernel) (rfl) (rfl) (Nat.le_of_ble_eq_true rfl) d_Mo_outs_2 (fun H locs hP hD hS => ?_)
  have hP : va_P (dC, dI) cls [(h0, .inr (5, [.int 0, .ref a0, .int (-1), .int 0, .int 0, .ref a1, .ref a2, .ref a3, .int 0, .int 0, .ref a4, .int 0, .ref a5, .int 0, .int 0, .int 0, .int 0, .int 0, .int 0, .ref a6, .int 0, .ref a7, .int 0, .ref a8, .ref a9]))] H := hP
  have hD : va_D A [(h0, .inr (5, [.int 0, .ref a0, .int (-1), .int 0, .int 0, .ref a1, .ref a2, .ref a3, .int 0, .int 0, .ref a4, .int 0, .ref a5, .int 0, .int 0, .int 0, .int 0, .int 0, .int 0, .ref a6, .int 0, .ref a7, .int 0, .ref a8, .ref a9]))] := hD
  refine lv_aload_n hx hb d_Mo_outs_5 rfl (lv_at hl 0 rfl) ?_
  refine va_get (D := (dC, dI)) (ci := 5) (v := .int 0) (C := R_Mo) (T := F_Mo) (N := 25) hx hb hts in_Mo hown hK hP 0 rfl rfl 9 (by decide) (hts _ w_602) (fun _ h9 => h9) rfl d_Mo_outs_6 ?_
  refine W.widen (k := 0) (n := 0) (by decide) (by decide) ?_
  exact W.iret (v := 0) hx hb hr (fun t ht hW => ⟨⟨0, (), rfl, rfl, cB.of (hP.sub [] rfl) (hD.sub [] (by decide) rfl) (hK.sub [] rfl) ht hW⟩, hS.F ht⟩) hS.2.2 d_Mo_outs_9
set_option maxHeartbeats 4000000 in
set_option maxRecDepth 100000 in
theorem c_Mo_arm1 (l : Launch) (dC : Nat → ClassId) (dI : Nat → Nat → Nat) (h0 a0 a1 a2 a3 a4 a5 a6 a7 a8 a9 : Nat) (x : Int32) (h1 : x < 0) (sz : Nat) : Met l y_Mo_arm (Cond.code y_Mo_arm b_Mo_arm 2 (some .boolean) :: gw) ({ frames := 0, cells := 0, slots := 0, locals := 0 }) (cP (dC, dI) [.ref h0, .int x] sz [(h0, .inr (5, [.int 0, .ref a0, .int (-1), .int 0, .int 0, .ref a1, .ref a2, .ref a3, .int 0, .int 0, .ref a4, .int 0, .ref a5, .int 0, .int 0, .int 0, .int 0, .int 0, .int 0, .ref a6, .int 0, .ref a7, .int 0, .ref a8, .ref a9]))] [] xT) (va_Qi (fun (r : Int32) (u : Unit) => r = 0) (fun (u : Unit) t => cB (dC, dI) (va_A [(h0, .inr (5, [.int 0, .ref a0, .int (-1), .int 0, .int 0, .ref a1, .ref a2, .ref a3, .int 0, .int 0, .ref a4, .int 0, .ref a5, .int 0, .int 0, .int 0, .int 0, .int 0, .int 0, .ref a6, .int 0, .ref a7, .int 0, .ref a8, .ref a9]))] sz) [(h0, .inr (5, [.int 1, .ref a0, .int (-1), .int 0, .int 0, .ref a1, .ref a2, .ref a3, .int 0, .int 0, .ref a4, .int 0, .ref a5, .int 0, .int 0, .int 0, .int 0, .int 0, .int 0, .ref a6, .int 0, .ref a7, .int 0, .ref a8, .ref a9]))] [] t) (va_A [(h0, .inr (5, [.int 0, .ref a0, .int (-1), .int 0, .int 0, .ref a1, .ref a2, .ref a3, .int 0, .int 0, .ref a4, .int 0, .ref a5, .int 0, .int 0, .int 0, .int 0, .int 0, .int 0, .ref a6, .int 0, .ref a7, .int 0, .ref a8, .ref a9]))] sz)) 0 0 (va_A [(h0, .inr (5, [.int 0, .ref a0, .int (-1), .int 0, .int 0, .ref a1, .ref a2, .ref a3, .int 0, .int 0, .ref a4, .int 0, .ref a5, .int 0, .int 0, .int 0, .int 0, .int 0, .int 0, .ref a6, .int 0, .ref a7, .int 0, .ref a8, .ref a9]))] sz) := by
  refine Met.ofW (cc := b_Mo_arm) (maxL := 2) (ret := (some .boolean)) (by decide) rfl ?_
  intro p e s m args below meth c s₁ B hml hv
  obtain ⟨rfl, hsz, hP, hK, hD0, hkw, hX⟩ := hv
  have hx := B.exec
  have hb := B.bytes
  have hr := B.returns
  have hts := fun w hw => atoms_spec (ws := Cond.code y_Mo_arm b_Mo_arm 2 (some .boolean) :: gw) B.pre w (List.mem_cons_of_mem _ hw)
  have hown : s.vm.findClass "LineDiskModel" = some m.cls := findClass_of_methodNamed B.named
  have hlocks := B.notSynchronized
  have hin := (name_of_methodNamed B.named B.method).1
  subst hsz
  have hD := hD0.self (sz := s.heap.size)
  generalize hAe : va_A [(h0, .inr (5, [.int 0, .ref a0, .int (-1), .int 0, .int 0, .ref a1, .ref a2, .ref a3, .int 0, .int 0, .ref a4, .int 0, .ref a5, .int 0, .int 0, .int 0, .int 0, .int 0, .int 0, .ref a6, .int 0, .ref a7, .int 0, .ref a8, .ref a9]))] s.heap.size = A at hD ⊢
  have hA : ∀ q : Nat, s.heap.size ≤ q → A q := fun q h => by rw [← hAe]; exact Or.inr h
  have hS : va_S A s.heap s.heap [] := va_S.rf
  have hl := lv_entry ([.ref h0, .int x]) (n := 2) (Nat.le_of_ble_eq_true rfl)
  rw [lg_entry_eq]
  generalize (lg_sl ([.ref h0, .int x]) ++ List.replicate (2 - (lg_sl ([.ref h0, .int x])).length) Slot.unset).toArray = ls at hl ⊢
  have hl : lv_has ls 2 [(0, .ref h0), (1, .int x)] := hl
  have F : CallFix p m c b_Mo_arm 2 s ([.ref h0, .int x]).toArray gw "LineDiskModel" := ⟨hx, hb, hml, hown, hts⟩
  refine lv_aload_n hx hb d_Mo_arm_0 rfl (lv_at hl 0 rfl) ?_
  refine lv_iload_n hx hb d_Mo_arm_1 rfl (lv_at hl 1 rfl) ?_
  refine lv_if_lt (tgt := 12) hx hb d_Mo_arm_2 (by decide) (fun _ => ?_) (fun h => absurd (h1) h)
  refine lv_iconst (v := 1) hx hb d_Mo_arm_12 (by decide) ?_
  refine lv_goto (tgt := 17) hx hb d_Mo_arm_13 (by decide) ?_
  refine va_put (D := (dC, dI)) (ci := 5) (v := .int 1) (ty := .int) (C := R_Mo) (T := F_Mo) (N := 25) hx hb hts in_Mo t_Mo t_Mo_ok n_Mo hown hK hP hD hS 0 rfl rfl 0 (by decide) (hts _ w_593) (fun _ h9 => h9) rfl (by decide +kernel) (rfl) (rfl) (Nat.le_of_ble_eq_true rfl) d_Mo_arm_17 (fun H locs hP hD hS => ?_)
  have hP : va_P (dC, dI) cls [(h0, .inr (5, [.int 1, .ref a0, .int (-1), .int 0, .int 0, .ref a1, .ref a2, .ref a3, .int 0, .int 0, .ref a4, .int 0, .ref a5, .int 0, .int 0, .int 0, .int 0, .int 0, .int 0, .ref a6, .int 0, .ref a7, .int 0, .ref a8, .ref a9]))] H := hP
  have hD : va_D A [(h0, .inr (5, [.int 1, .ref a0, .int (-1), .int 0, .int 0, .ref a1, .ref a2, .ref a3, .int 0, .int 0, .ref a4, .int 0, .ref a5, .int 0, .int 0, .int 0, .int 0, .int 0, .int 0, .ref a6, .int 0, .ref a7, .int 0, .ref a8, .ref a9]))] := hD
  refine lv_aload_n hx hb d_Mo_arm_20 rfl (lv_at hl 0 rfl) ?_
  refine va_get (D := (dC, dI)) (ci := 5) (v := .int 1) (C := R_Mo) (T := F_Mo) (N := 25) hx hb hts in_Mo hown hK hP 0 rfl rfl 0 (by decide) (hts _ w_593) (fun _ h9 => h9) rfl d_Mo_arm_21 ?_
  refine lv_if_le (tgt := 29) hx hb d_Mo_arm_24 (by decide) (fun h => absurd h (by decide)) (fun _ => ?_)
  refine lv_iconst (v := 0) hx hb d_Mo_arm_27 (by decide) ?_
  refine W.widen (k := 0) (n := 0) (by decide) (by decide) ?_
  exact W.zret (v := 0) hx hb hr rfl (fun t ht hW => ⟨⟨0, (), rfl, rfl, cB.of (hP.sub [0] rfl) (hD.sub [0] (by decide) rfl) (hK.sub [] rfl) ht hW⟩, hS.F ht⟩) hS.2.2 d_Mo_arm_28
set_option maxHeartbeats 4000000 in
set_option maxRecDepth 100000 in
theorem c_Mo_arm2 (l : Launch) (dC : Nat → ClassId) (dI : Nat → Nat → Nat) (h0 a0 a1 a2 a3 a4 a5 a6 a7 a8 a9 : Nat) (x : Int32) (h1 : ¬ x < 0) (h2 : ¬ x ≤ 1000) (sz : Nat) : Met l y_Mo_arm (Cond.code y_Mo_arm b_Mo_arm 2 (some .boolean) :: gw) ({ frames := 0, cells := 0, slots := 0, locals := 0 }) (cP (dC, dI) [.ref h0, .int x] sz [(h0, .inr (5, [.int 0, .ref a0, .int (-1), .int 0, .int 0, .ref a1, .ref a2, .ref a3, .int 0, .int 0, .ref a4, .int 0, .ref a5, .int 0, .int 0, .int 0, .int 0, .int 0, .int 0, .ref a6, .int 0, .ref a7, .int 0, .ref a8, .ref a9]))] [] xT) (va_Qi (fun (r : Int32) (u : Unit) => r = 0) (fun (u : Unit) t => cB (dC, dI) (va_A [(h0, .inr (5, [.int 0, .ref a0, .int (-1), .int 0, .int 0, .ref a1, .ref a2, .ref a3, .int 0, .int 0, .ref a4, .int 0, .ref a5, .int 0, .int 0, .int 0, .int 0, .int 0, .int 0, .ref a6, .int 0, .ref a7, .int 0, .ref a8, .ref a9]))] sz) [(h0, .inr (5, [.int 1, .ref a0, .int (-1), .int 0, .int 0, .ref a1, .ref a2, .ref a3, .int 0, .int 0, .ref a4, .int 0, .ref a5, .int 0, .int 0, .int 0, .int 0, .int 0, .int 0, .ref a6, .int 0, .ref a7, .int 0, .ref a8, .ref a9]))] [] t) (va_A [(h0, .inr (5, [.int 0, .ref a0, .int (-1), .int 0, .int 0, .ref a1, .ref a2, .ref a3, .int 0, .int 0, .ref a4, .int 0, .ref a5, .int 0, .int 0, .int 0, .int 0, .int 0, .int 0, .ref a6, .int 0, .ref a7, .int 0, .ref a8, .ref a9]))] sz)) 0 0 (va_A [(h0, .inr (5, [.int 0, .ref a0, .int (-1), .int 0, .int 0, .ref a1, .ref a2, .ref a3, .int 0, .int 0, .ref a4, .int 0, .ref a5, .int 0, .int 0, .int 0, .int 0, .int 0, .int 0, .ref a6, .int 0, .ref a7, .int 0, .ref a8, .ref a9]))] sz) := by
  refine Met.ofW (cc := b_Mo_arm) (maxL := 2) (ret := (some .boolean)) (by decide) rfl ?_
  intro p e s m args below meth c s₁ B hml hv
  obtain ⟨rfl, hsz, hP, hK, hD0, hkw, hX⟩ := hv
  have hx := B.exec
  have hb := B.bytes
  have hr := B.returns
  have hts := fun w hw => atoms_spec (ws := Cond.code y_Mo_arm b_Mo_arm 2 (some .boolean) :: gw) B.pre w (List.mem_cons_of_mem _ hw)
  have hown : s.vm.findClass "LineDiskModel" = some m.cls := findClass_of_methodNamed B.named
  have hlocks := B.notSynchronized
  have hin := (name_of_methodNamed B.named B.method).1
  subst hsz
  have hD := hD0.self (sz := s.heap.size)
  generalize hAe : va_A [(h0, .inr (5, [.int 0, .ref a0, .int (-1), .int 0, .int 0, .ref a1, .ref a2, .ref a3, .int 0, .int 0, .ref a4, .int 0, .ref a5, .int 0, .int 0, .int 0, .int 0, .int 0, .int 0, .ref a6, .int 0, .ref a7, .int 0, .ref a8, .ref a9]))] s.heap.size = A at hD ⊢
  have hA : ∀ q : Nat, s.heap.size ≤ q → A q := fun q h => by rw [← hAe]; exact Or.inr h
  have hS : va_S A s.heap s.heap [] := va_S.rf
  have hl := lv_entry ([.ref h0, .int x]) (n := 2) (Nat.le_of_ble_eq_true rfl)
  rw [lg_entry_eq]
  generalize (lg_sl ([.ref h0, .int x]) ++ List.replicate (2 - (lg_sl ([.ref h0, .int x])).length) Slot.unset).toArray = ls at hl ⊢
  have hl : lv_has ls 2 [(0, .ref h0), (1, .int x)] := hl
  have F : CallFix p m c b_Mo_arm 2 s ([.ref h0, .int x]).toArray gw "LineDiskModel" := ⟨hx, hb, hml, hown, hts⟩
  refine lv_aload_n hx hb d_Mo_arm_0 rfl (lv_at hl 0 rfl) ?_
  refine lv_iload_n hx hb d_Mo_arm_1 rfl (lv_at hl 1 rfl) ?_
  refine lv_if_lt (tgt := 12) hx hb d_Mo_arm_2 (by decide) (fun h => absurd h (h1)) (fun _ => ?_)
  refine lv_iload_n hx hb d_Mo_arm_5 rfl (lv_at hl 1 rfl) ?_
  refine lv_sipush (v := 1000) hx hb d_Mo_arm_6 (by decide) ?_
  refine lv_icmp_le (tgt := 16) hx hb d_Mo_arm_9 (by decide) (fun h => absurd h (h2)) (fun _ => ?_)
  refine lv_iconst (v := 1) hx hb d_Mo_arm_12 (by decide) ?_
  refine lv_goto (tgt := 17) hx hb d_Mo_arm_13 (by decide) ?_
  refine va_put (D := (dC, dI)) (ci := 5) (v := .int 1) (ty := .int) (C := R_Mo) (T := F_Mo) (N := 25) hx hb hts in_Mo t_Mo t_Mo_ok n_Mo hown hK hP hD hS 0 rfl rfl 0 (by decide) (hts _ w_593) (fun _ h9 => h9) rfl (by decide +kernel) (rfl) (rfl) (Nat.le_of_ble_eq_true rfl) d_Mo_arm_17 (fun H locs hP hD hS => ?_)
  have hP : va_P (dC, dI) cls [(h0, .inr (5, [.int 1, .ref a0, .int (-1), .int 0, .int 0, .ref a1, .ref a2, .ref a3, .int 0, .int 0, .ref a4, .int 0, .ref a5, .int 0, .int 0, .int 0, .int 0, .int 0, .int 0, .ref a6, .int 0, .ref a7, .int 0, .ref a8, .ref a9]))] H := hP
  have hD : va_D A [(h0, .inr (5, [.int 1, .ref a0, .int (-1), .int 0, .int 0, .ref a1, .ref a2, .ref a3, .int 0, .int 0, .ref a4, .int 0, .ref a5, .int 0, .int 0, .int 0, .int 0, .int 0, .int 0, .ref a6, .int 0, .ref a7, .int 0, .ref a8, .ref a9]))] := hD
  refine lv_aload_n hx hb d_Mo_arm_20 rfl (lv_at hl 0 rfl) ?_
  refine va_get (D := (dC, dI)) (ci := 5) (v := .int 1) (C := R_Mo) (T := F_Mo) (N := 25) hx hb hts in_Mo hown hK hP 0 rfl rfl 0 (by decide) (hts _ w_593) (fun _ h9 => h9) rfl d_Mo_arm_21 ?_
  refine lv_if_le (tgt := 29) hx hb d_Mo_arm_24 (by decide) (fun h => absurd h (by decide)) (fun _ => ?_)
  refine lv_iconst (v := 0) hx hb d_Mo_arm_27 (by decide) ?_
  refine W.widen (k := 0) (n := 0) (by decide) (by decide) ?_
  exact W.zret (v := 0) hx hb hr rfl (fun t ht hW => ⟨⟨0, (), rfl, rfl, cB.of (hP.sub [0] rfl) (hD.sub [0] (by decide) rfl) (hK.sub [] rfl) ht hW⟩, hS.F ht⟩) hS.2.2 d_Mo_arm_28
set_option maxHeartbeats 4000000 in
set_option maxRecDepth 100000 in
theorem c_Mo_arm3 (l : Launch) (dC : Nat → ClassId) (dI : Nat → Nat → Nat) (h0 a0 a1 a2 a3 a4 a5 a6 a7 a8 a9 : Nat) (x : Int32) (h1 : ¬ x < 0) (h2 : x ≤ 1000) (sz : Nat) : Met l y_Mo_arm (Cond.code y_Mo_arm b_Mo_arm 2 (some .boolean) :: gw) ({ frames := 0, cells := 0, slots := 0, locals := 0 }) (cP (dC, dI) [.ref h0, .int x] sz [(h0, .inr (5, [.int 0, .ref a0, .int (-1), .int 0, .int 0, .ref a1, .ref a2, .ref a3, .int 0, .int 0, .ref a4, .int 0, .ref a5, .int 0, .int 0, .int 0, .int 0, .int 0, .int 0, .ref a6, .int 0, .ref a7, .int 0, .ref a8, .ref a9]))] [] xT) (va_Qi (fun (r : Int32) (u : Unit) => r = 1) (fun (u : Unit) t => cB (dC, dI) (va_A [(h0, .inr (5, [.int 0, .ref a0, .int (-1), .int 0, .int 0, .ref a1, .ref a2, .ref a3, .int 0, .int 0, .ref a4, .int 0, .ref a5, .int 0, .int 0, .int 0, .int 0, .int 0, .int 0, .ref a6, .int 0, .ref a7, .int 0, .ref a8, .ref a9]))] sz) [(h0, .inr (5, [.int 0, .ref a0, .int x, .int 0, .int 0, .ref a1, .ref a2, .ref a3, .int 0, .int 0, .ref a4, .int 0, .ref a5, .int 0, .int 0, .int 0, .int 0, .int 0, .int 0, .ref a6, .int 0, .ref a7, .int 0, .ref a8, .ref a9]))] [] t) (va_A [(h0, .inr (5, [.int 0, .ref a0, .int (-1), .int 0, .int 0, .ref a1, .ref a2, .ref a3, .int 0, .int 0, .ref a4, .int 0, .ref a5, .int 0, .int 0, .int 0, .int 0, .int 0, .int 0, .ref a6, .int 0, .ref a7, .int 0, .ref a8, .ref a9]))] sz)) 0 0 (va_A [(h0, .inr (5, [.int 0, .ref a0, .int (-1), .int 0, .int 0, .ref a1, .ref a2, .ref a3, .int 0, .int 0, .ref a4, .int 0, .ref a5, .int 0, .int 0, .int 0, .int 0, .int 0, .int 0, .ref a6, .int 0, .ref a7, .int 0, .ref a8, .ref a9]))] sz) := by
  refine Met.ofW (cc := b_Mo_arm) (maxL := 2) (ret := (some .boolean)) (by decide) rfl ?_
  intro p e s m args below meth c s₁ B hml hv
  obtain ⟨rfl, hsz, hP, hK, hD0, hkw, hX⟩ := hv
  have hx := B.exec
  have hb := B.bytes
  have hr := B.returns
  have hts := fun w hw => atoms_spec (ws := Cond.code y_Mo_arm b_Mo_arm 2 (some .boolean) :: gw) B.pre w (List.mem_cons_of_mem _ hw)
  have hown : s.vm.findClass "LineDiskModel" = some m.cls := findClass_of_methodNamed B.named
  have hlocks := B.notSynchronized
  have hin := (name_of_methodNamed B.named B.method).1
  subst hsz
  have hD := hD0.self (sz := s.heap.size)
  generalize hAe : va_A [(h0, .inr (5, [.int 0, .ref a0, .int (-1), .int 0, .int 0, .ref a1, .ref a2, .ref a3, .int 0, .int 0, .ref a4, .int 0, .ref a5, .int 0, .int 0, .int 0, .int 0, .int 0, .int 0, .ref a6, .int 0, .ref a7, .int 0, .ref a8, .ref a9]))] s.heap.size = A at hD ⊢
  have hA : ∀ q : Nat, s.heap.size ≤ q → A q := fun q h => by rw [← hAe]; exact Or.inr h
  have hS : va_S A s.heap s.heap [] := va_S.rf
  have hl := lv_entry ([.ref h0, .int x]) (n := 2) (Nat.le_of_ble_eq_true rfl)
  rw [lg_entry_eq]
  generalize (lg_sl ([.ref h0, .int x]) ++ List.replicate (2 - (lg_sl ([.ref h0, .int x])).length) Slot.unset).toArray = ls at hl ⊢
  have hl : lv_has ls 2 [(0, .ref h0), (1, .int x)] := hl
  have F : CallFix p m c b_Mo_arm 2 s ([.ref h0, .int x]).toArray gw "LineDiskModel" := ⟨hx, hb, hml, hown, hts⟩
  refine lv_aload_n hx hb d_Mo_arm_0 rfl (lv_at hl 0 rfl) ?_
  refine lv_iload_n hx hb d_Mo_arm_1 rfl (lv_at hl 1 rfl) ?_
  refine lv_if_lt (tgt := 12) hx hb d_Mo_arm_2 (by decide) (fun h => absurd h (h1)) (fun _ => ?_)
  refine lv_iload_n hx hb d_Mo_arm_5 rfl (lv_at hl 1 rfl) ?_
  refine lv_sipush (v := 1000) hx hb d_Mo_arm_6 (by decide) ?_
  refine lv_icmp_le (tgt := 16) hx hb d_Mo_arm_9 (by decide) (fun _ => ?_) (fun h => absurd (h2) h)
  refine lv_iconst (v := 0) hx hb d_Mo_arm_16 (by decide) ?_
  refine va_put (D := (dC, dI)) (ci := 5) (v := .int 0) (ty := .int) (C := R_Mo) (T := F_Mo) (N := 25) hx hb hts in_Mo t_Mo t_Mo_ok n_Mo hown hK hP hD hS 0 rfl rfl 0 (by decide) (hts _ w_593) (fun _ h9 => h9) rfl (by decide +kernel) (rfl) (rfl) (Nat.le_of_ble_eq_true rfl) d_Mo_arm_17 (fun H locs hP hD hS => ?_)
  have hP : va_P (dC, dI) cls [(h0, .inr (5, [.int 0, .ref a0, .int (-1), .int 0, .int 0, .ref a1, .ref a2, .ref a3, .int 0, .int 0, .ref a4, .int 0, .ref a5, .int 0, .int 0, .int 0, .int 0, .int 0, .int 0, .ref a6, .int 0, .ref a7, .int 0, .ref a8, .ref a9]))] H := hP
  have hD : va_D A [(h0, .inr (5, [.int 0, .ref a0, .int (-1), .int 0, .int 0, .ref a1, .ref a2, .ref a3, .int 0, .int 0, .ref a4, .int 0, .ref a5, .int 0, .int 0, .int 0, .int 0, .int 0, .int 0, .ref a6, .int 0, .ref a7, .int 0, .ref a8, .ref a9]))] := hD
  refine lv_aload_n hx hb d_Mo_arm_20 rfl (lv_at hl 0 rfl) ?_
  refine va_get (D := (dC, dI)) (ci := 5) (v := .int 0) (C := R_Mo) (T := F_Mo) (N := 25) hx hb hts in_Mo hown hK hP 0 rfl rfl 0 (by decide) (hts _ w_593) (fun _ h9 => h9) rfl d_Mo_arm_21 ?_
  refine lv_if_le (tgt := 29) hx hb d_Mo_arm_24 (by decide) (fun _ => ?_) (fun h => absurd (by decide) h)
  refine lv_aload_n hx hb d_Mo_arm_29 rfl (lv_at hl 0 rfl) ?_
  refine lv_iload_n hx hb d_Mo_arm_30 rfl (lv_at hl 1 rfl) ?_
  refine va_put (D := (dC, dI)) (ci := 5) (v := .int x) (ty := .int) (C := R_Mo) (T := F_Mo) (N := 25) hx hb hts in_Mo t_Mo t_Mo_ok n_Mo hown hK hP hD hS 0 rfl rfl 2 (by decide) (hts _ w_595) (fun _ h9 => h9) rfl (by decide +kernel) (rfl) (rfl) (Nat.le_of_ble_eq_true rfl) d_Mo_arm_31 (fun H locs hP hD hS => ?_)
  have hP : va_P (dC, dI) cls [(h0, .inr (5, [.int 0, .ref a0, .int x, .int 0, .int 0, .ref a1, .ref a2, .ref a3, .int 0, .int 0, .ref a4, .int 0, .ref a5, .int 0, .int 0, .int 0, .int 0, .int 0, .int 0, .ref a6, .int 0, .ref a7, .int 0, .ref a8, .ref a9]))] H := hP
  have hD : va_D A [(h0, .inr (5, [.int 0, .ref a0, .int x, .int 0, .int 0, .ref a1, .ref a2, .ref a3, .int 0, .int 0, .ref a4, .int 0, .ref a5, .int 0, .int 0, .int 0, .int 0, .int 0, .int 0, .ref a6, .int 0, .ref a7, .int 0, .ref a8, .ref a9]))] := hD
  refine lv_iconst (v := 1) hx hb d_Mo_arm_34 (by decide) ?_
  refine W.widen (k := 0) (n := 0) (by decide) (by decide) ?_
  exact W.zret (v := 1) hx hb hr rfl (fun t ht hW => ⟨⟨1, (), rfl, rfl, cB.of (hP.sub [0] rfl) (hD.sub [0] (by decide) rfl) (hK.sub [] rfl) ht hW⟩, hS.F ht⟩) hS.2.2 d_Mo_arm_35
set_option maxHeartbeats 4000000 in
set_option maxRecDepth 100000 in
theorem c_Mo_out1 (l : Launch) (dC : Nat → ClassId) (dI : Nat → Nat → Nat) (h0 a0 a1 a2 a3 a4 a5 a6 a7 a8 a9 : Nat) (x : Int32) (h1 : x < 0) (sz : Nat) : Met l y_Mo_out (Cond.code y_Mo_out b_Mo_out 2 (some .int) :: gw) ({ frames := 0, cells := 0, slots := 0, locals := 0 }) (cP (dC, dI) [.ref h0, .int x] sz [(h0, .inr (5, [.int 0, .ref a0, .int (-1), .int 0, .int 0, .ref a1, .ref a2, .ref a3, .int 0, .int 0, .ref a4, .int 0, .ref a5, .int 0, .int 0, .int 0, .int 0, .int 0, .int 0, .ref a6, .int 0, .ref a7, .int 0, .ref a8, .ref a9]))] [] xT) (va_Qi (fun (r : Int32) (u : Unit) => r = 0) (fun (u : Unit) t => cB (dC, dI) (va_A [(h0, .inr (5, [.int 0, .ref a0, .int (-1), .int 0, .int 0, .ref a1, .ref a2, .ref a3, .int 0, .int 0, .ref a4, .int 0, .ref a5, .int 0, .int 0, .int 0, .int 0, .int 0, .int 0, .ref a6, .int 0, .ref a7, .int 0, .ref a8, .ref a9]))] sz) [(h0, .inr (5, [.int 1, .ref a0, .int (-1), .int 0, .int 0, .ref a1, .ref a2, .ref a3, .int 0, .int 0, .ref a4, .int 0, .ref a5, .int 0, .int 0, .int 0, .int 0, .int 0, .int 0, .ref a6, .int 0, .ref a7, .int 0, .ref a8, .ref a9]))] [] t) (va_A [(h0, .inr (5, [.int 0, .ref a0, .int (-1), .int 0, .int 0, .ref a1, .ref a2, .ref a3, .int 0, .int 0, .ref a4, .int 0, .ref a5, .int 0, .int 0, .int 0, .int 0, .int 0, .int 0, .ref a6, .int 0, .ref a7, .int 0, .ref a8, .ref a9]))] sz)) 0 0 (va_A [(h0, .inr (5, [.int 0, .ref a0, .int (-1), .int 0, .int 0, .ref a1, .ref a2, .ref a3, .int 0, .int 0, .ref a4, .int 0, .ref a5, .int 0, .int 0, .int 0, .int 0, .int 0, .int 0, .ref a6, .int 0, .ref a7, .int 0, .ref a8, .ref a9]))] sz) := by
  refine Met.ofW (cc := b_Mo_out) (maxL := 2) (ret := (some .int)) (by decide) rfl ?_
  intro p e s m args below meth c s₁ B hml hv
  obtain ⟨rfl, hsz, hP, hK, hD0, hkw, hX⟩ := hv
  have hx := B.exec
  have hb := B.bytes
  have hr := B.returns
  have hts := fun w hw => atoms_spec (ws := Cond.code y_Mo_out b_Mo_out 2 (some .int) :: gw) B.pre w (List.mem_cons_of_mem _ hw)
  have hown : s.vm.findClass "LineDiskModel" = some m.cls := findClass_of_methodNamed B.named
  have hlocks := B.notSynchronized
  have hin := (name_of_methodNamed B.named B.method).1
  subst hsz
  have hD := hD0.self (sz := s.heap.size)
  generalize hAe : va_A [(h0, .inr (5, [.int 0, .ref a0, .int (-1), .int 0, .int 0, .ref a1, .ref a2, .ref a3, .int 0, .int 0, .ref a4, .int 0, .ref a5, .int 0, .int 0, .int 0, .int 0, .int 0, .int 0, .ref a6, .int 0, .ref a7, .int 0, .ref a8, .ref a9]))] s.heap.size = A at hD ⊢
  have hA : ∀ q : Nat, s.heap.size ≤ q → A q := fun q h => by rw [← hAe]; exact Or.inr h
  have hS : va_S A s.heap s.heap [] := va_S.rf
  have hl := lv_entry ([.ref h0, .int x]) (n := 2) (Nat.le_of_ble_eq_true rfl)
  rw [lg_entry_eq]
  generalize (lg_sl ([.ref h0, .int x]) ++ List.replicate (2 - (lg_sl ([.ref h0, .int x])).length) Slot.unset).toArray = ls at hl ⊢
  have hl : lv_has ls 2 [(0, .ref h0), (1, .int x)] := hl
  have F : CallFix p m c b_Mo_out 2 s ([.ref h0, .int x]).toArray gw "LineDiskModel" := ⟨hx, hb, hml, hown, hts⟩
  refine lv_aload_n hx hb d_Mo_out_0 rfl (lv_at hl 0 rfl) ?_
  refine lv_iload_n hx hb d_Mo_out_1 rfl (lv_at hl 1 rfl) ?_
  refine lv_if_lt (tgt := 19) hx hb d_Mo_out_2 (by decide) (fun _ => ?_) (fun h => absurd (h1) h)
  refine lv_iconst (v := 1) hx hb d_Mo_out_19 (by decide) ?_
  refine lv_goto (tgt := 24) hx hb d_Mo_out_20 (by decide) ?_
  refine va_put (D := (dC, dI)) (ci := 5) (v := .int 1) (ty := .int) (C := R_Mo) (T := F_Mo) (N := 25) hx hb hts in_Mo t_Mo t_Mo_ok n_Mo hown hK hP hD hS 0 rfl rfl 0 (by decide) (hts _ w_593) (fun _ h9 => h9) rfl (by decide +kernel) (rfl) (rfl) (Nat.le_of_ble_eq_true rfl) d_Mo_out_24 (fun H locs hP hD hS => ?_)
  have hP : va_P (dC, dI) cls [(h0, .inr (5, [.int 1, .ref a0, .int (-1), .int 0, .int 0, .ref a1, .ref a2, .ref a3, .int 0, .int 0, .ref a4, .int 0, .ref a5, .int 0, .int 0, .int 0, .int 0, .int 0, .int 0, .ref a6, .int 0, .ref a7, .int 0, .ref a8, .ref a9]))] H := hP
  have hD : va_D A [(h0, .inr (5, [.int 1, .ref a0, .int (-1), .int 0, .int 0, .ref a1, .ref a2, .ref a3, .int 0, .int 0, .ref a4, .int 0, .ref a5, .int 0, .int 0, .int 0, .int 0, .int 0, .int 0, .ref a6, .int 0, .ref a7, .int 0, .ref a8, .ref a9]))] := hD
  refine lv_aload_n hx hb d_Mo_out_27 rfl (lv_at hl 0 rfl) ?_
  refine va_get (D := (dC, dI)) (ci := 5) (v := .int 1) (C := R_Mo) (T := F_Mo) (N := 25) hx hb hts in_Mo hown hK hP 0 rfl rfl 0 (by decide) (hts _ w_593) (fun _ h9 => h9) rfl d_Mo_out_28 ?_
  refine lv_if_le (tgt := 38) hx hb d_Mo_out_31 (by decide) (fun h => absurd h (by decide)) (fun _ => ?_)
  refine lv_iconst (v := 0) hx hb d_Mo_out_34 (by decide) ?_
  refine lv_goto (tgt := 44) hx hb d_Mo_out_35 (by decide) ?_
  refine W.widen (k := 0) (n := 0) (by decide) (by decide) ?_
  exact W.iret (v := 0) hx hb hr (fun t ht hW => ⟨⟨0, (), rfl, rfl, cB.of (hP.sub [0] rfl) (hD.sub [0] (by decide) rfl) (hK.sub [] rfl) ht hW⟩, hS.F ht⟩) hS.2.2 d_Mo_out_44
set_option maxHeartbeats 4000000 in
set_option maxRecDepth 100000 in
theorem c_Mo_out2 (l : Launch) (dC : Nat → ClassId) (dI : Nat → Nat → Nat) (h0 a0 a1 a2 a3 a4 a5 a6 a7 a8 a9 : Nat) (x : Int32) (h1 : ¬ x < 0) (sz : Nat) : Met l y_Mo_out (Cond.code y_Mo_out b_Mo_out 2 (some .int) :: gw) ({ frames := 0, cells := 0, slots := 0, locals := 0 }) (cP (dC, dI) [.ref h0, .int x] sz [(h0, .inr (5, [.int 0, .ref a0, .int (-1), .int 0, .int 0, .ref a1, .ref a2, .ref a3, .int 0, .int 0, .ref a4, .int 0, .ref a5, .int 0, .int 0, .int 0, .int 0, .int 0, .int 0, .ref a6, .int 0, .ref a7, .int 0, .ref a8, .ref a9]))] [] xT) (va_Qi (fun (r : Int32) (u : Unit) => r = 0) (fun (u : Unit) t => cB (dC, dI) (va_A [(h0, .inr (5, [.int 0, .ref a0, .int (-1), .int 0, .int 0, .ref a1, .ref a2, .ref a3, .int 0, .int 0, .ref a4, .int 0, .ref a5, .int 0, .int 0, .int 0, .int 0, .int 0, .int 0, .ref a6, .int 0, .ref a7, .int 0, .ref a8, .ref a9]))] sz) [(h0, .inr (5, [.int 1, .ref a0, .int (-1), .int 0, .int 0, .ref a1, .ref a2, .ref a3, .int 0, .int 0, .ref a4, .int 0, .ref a5, .int 0, .int 0, .int 0, .int 0, .int 0, .int 0, .ref a6, .int 0, .ref a7, .int 0, .ref a8, .ref a9]))] [] t) (va_A [(h0, .inr (5, [.int 0, .ref a0, .int (-1), .int 0, .int 0, .ref a1, .ref a2, .ref a3, .int 0, .int 0, .ref a4, .int 0, .ref a5, .int 0, .int 0, .int 0, .int 0, .int 0, .int 0, .ref a6, .int 0, .ref a7, .int 0, .ref a8, .ref a9]))] sz)) 0 0 (va_A [(h0, .inr (5, [.int 0, .ref a0, .int (-1), .int 0, .int 0, .ref a1, .ref a2, .ref a3, .int 0, .int 0, .ref a4, .int 0, .ref a5, .int 0, .int 0, .int 0, .int 0, .int 0, .int 0, .ref a6, .int 0, .ref a7, .int 0, .ref a8, .ref a9]))] sz) := by
  refine Met.ofW (cc := b_Mo_out) (maxL := 2) (ret := (some .int)) (by decide) rfl ?_
  intro p e s m args below meth c s₁ B hml hv
  obtain ⟨rfl, hsz, hP, hK, hD0, hkw, hX⟩ := hv
  have hx := B.exec
  have hb := B.bytes
  have hr := B.returns
  have hts := fun w hw => atoms_spec (ws := Cond.code y_Mo_out b_Mo_out 2 (some .int) :: gw) B.pre w (List.mem_cons_of_mem _ hw)
  have hown : s.vm.findClass "LineDiskModel" = some m.cls := findClass_of_methodNamed B.named
  have hlocks := B.notSynchronized
  have hin := (name_of_methodNamed B.named B.method).1
  subst hsz
  have hD := hD0.self (sz := s.heap.size)
  generalize hAe : va_A [(h0, .inr (5, [.int 0, .ref a0, .int (-1), .int 0, .int 0, .ref a1, .ref a2, .ref a3, .int 0, .int 0, .ref a4, .int 0, .ref a5, .int 0, .int 0, .int 0, .int 0, .int 0, .int 0, .ref a6, .int 0, .ref a7, .int 0, .ref a8, .ref a9]))] s.heap.size = A at hD ⊢
  have hA : ∀ q : Nat, s.heap.size ≤ q → A q := fun q h => by rw [← hAe]; exact Or.inr h
  have hS : va_S A s.heap s.heap [] := va_S.rf
  have hl := lv_entry ([.ref h0, .int x]) (n := 2) (Nat.le_of_ble_eq_true rfl)
  rw [lg_entry_eq]
  generalize (lg_sl ([.ref h0, .int x]) ++ List.replicate (2 - (lg_sl ([.ref h0, .int x])).length) Slot.unset).toArray = ls at hl ⊢
  have hl : lv_has ls 2 [(0, .ref h0), (1, .int x)] := hl
  have F : CallFix p m c b_Mo_out 2 s ([.ref h0, .int x]).toArray gw "LineDiskModel" := ⟨hx, hb, hml, hown, hts⟩
  refine lv_aload_n hx hb d_Mo_out_0 rfl (lv_at hl 0 rfl) ?_
  refine lv_iload_n hx hb d_Mo_out_1 rfl (lv_at hl 1 rfl) ?_
  refine lv_if_lt (tgt := 19) hx hb d_Mo_out_2 (by decide) (fun h => absurd h (h1)) (fun _ => ?_)
  refine lv_iload_n hx hb d_Mo_out_5 rfl (lv_at hl 1 rfl) ?_
  refine lv_aload_n hx hb d_Mo_out_6 rfl (lv_at hl 0 rfl) ?_
  refine va_get (D := (dC, dI)) (ci := 5) (v := .int 0) (C := R_Mo) (T := F_Mo) (N := 25) hx hb hts in_Mo hown hK hP 0 rfl rfl 9 (by decide) (hts _ w_602) (fun _ h9 => h9) rfl d_Mo_out_7 ?_
  refine lv_icmp_ge (tgt := 19) hx hb d_Mo_out_10 (by decide) (fun _ => ?_) (fun h => absurd (Int32.not_lt.mp h1) h)
  refine lv_iconst (v := 1) hx hb d_Mo_out_19 (by decide) ?_
  refine lv_goto (tgt := 24) hx hb d_Mo_out_20 (by decide) ?_
  refine va_put (D := (dC, dI)) (ci := 5) (v := .int 1) (ty := .int) (C := R_Mo) (T := F_Mo) (N := 25) hx hb hts in_Mo t_Mo t_Mo_ok n_Mo hown hK hP hD hS 0 rfl rfl 0 (by decide) (hts _ w_593) (fun _ h9 => h9) rfl (by decide +kernel) (rfl) (rfl) (Nat.le_of_ble_eq_true rfl) d_Mo_out_24 (fun H locs hP hD hS => ?_)
  have hP : va_P (dC, dI) cls [(h0, .inr (5, [.int 1, .ref a0, .int (-1), .int 0, .int 0, .ref a1, .ref a2, .ref a3, .int 0, .int 0, .ref a4, .int 0, .ref a5, .int 0, .int 0, .int 0, .int 0, .int 0, .int 0, .ref a6, .int 0, .ref a7, .int 0, .ref a8, .ref a9]))] H := hP
  have hD : va_D A [(h0, .inr (5, [.int 1, .ref a0, .int (-1), .int 0, .int 0, .ref a1, .ref a2, .ref a3, .int 0, .int 0, .ref a4, .int 0, .ref a5, .int 0, .int 0, .int 0, .int 0, .int 0, .int 0, .ref a6, .int 0, .ref a7, .int 0, .ref a8, .ref a9]))] := hD
  refine lv_aload_n hx hb d_Mo_out_27 rfl (lv_at hl 0 rfl) ?_
  refine va_get (D := (dC, dI)) (ci := 5) (v := .int 1) (C := R_Mo) (T := F_Mo) (N := 25) hx hb hts in_Mo hown hK hP 0 rfl rfl 0 (by decide) (hts _ w_593) (fun _ h9 => h9) rfl d_Mo_out_28 ?_
  refine lv_if_le (tgt := 38) hx hb d_Mo_out_31 (by decide) (fun h => absurd h (by decide)) (fun _ => ?_)
  refine lv_iconst (v := 0) hx hb d_Mo_out_34 (by decide) ?_
  refine lv_goto (tgt := 44) hx hb d_Mo_out_35 (by decide) ?_
  refine W.widen (k := 0) (n := 0) (by decide) (by decide) ?_
  exact W.iret (v := 0) hx hb hr (fun t ht hW => ⟨⟨0, (), rfl, rfl, cB.of (hP.sub [0] rfl) (hD.sub [0] (by decide) rfl) (hK.sub [] rfl) ht hW⟩, hS.F ht⟩) hS.2.2 d_Mo_out_44
theorem in511 {x : Int32} (h1 : ¬ x < 0) (h2 : x ≤ 511) : vp_in x 512 := by
  rw [vp_in_iff]
  have a := Int32.not_lt.mp h1
  rw [Int32.le_iff_toInt_le] at a h2
  have e1 : (511 : Int32).toInt = 511 := by decide
  have e0 : (0 : Int32).toInt = 0 := by decide
  rw [e1] at h2
  rw [e0] at a
  omega
set_option maxHeartbeats 4000000 in
set_option maxRecDepth 100000 in
theorem c_Mo_disk1 (l : Launch) (dC : Nat → ClassId) (dI : Nat → Nat → Nat) (h0 a0 a1 a2 a3 a4 a5 a6 a7 a8 a9 : Nat) (cA : ClassId) (x : Int32) (h1 : x < 0) (sz : Nat) : Met l y_Mo_disk (Cond.code y_Mo_disk b_Mo_disk 2 (some .int) :: gw) ({ frames := 0, cells := 0, slots := 0, locals := 0 }) (cP (dC, dI) [.ref h0, .int x] sz [(h0, .inr (5, [.int 0, .ref a0, .int (-1), .int 0, .int 0, .ref a1, .ref a2, .ref a3, .int 0, .int 0, .ref a4, .int 0, .ref a5, .int 0, .int 0, .int 0, .int 0, .int 0, .int 0, .ref a6, .int 0, .ref a7, .int 0, .ref a8, .ref a9])), (a0, .inl (cA, 512, .inl (fun _ => 0)))] [(cA, .int)] xT) (va_Qi (fun (r : Int32) (u : Unit) => r = 0) (fun (u : Unit) t => cB (dC, dI) (va_A [(h0, .inr (5, [.int 0, .ref a0, .int (-1), .int 0, .int 0, .ref a1, .ref a2, .ref a3, .int 0, .int 0, .ref a4, .int 0, .ref a5, .int 0, .int 0, .int 0, .int 0, .int 0, .int 0, .ref a6, .int 0, .ref a7, .int 0, .ref a8, .ref a9])), (a0, .inl (cA, 512, .inl (fun _ => 0)))] sz) [(h0, .inr (5, [.int 1, .ref a0, .int (-1), .int 0, .int 0, .ref a1, .ref a2, .ref a3, .int 0, .int 0, .ref a4, .int 0, .ref a5, .int 0, .int 0, .int 0, .int 0, .int 0, .int 0, .ref a6, .int 0, .ref a7, .int 0, .ref a8, .ref a9])), (a0, .inl (cA, 512, .inl (fun _ => 0)))] [(cA, .int)] t) (va_A [(h0, .inr (5, [.int 0, .ref a0, .int (-1), .int 0, .int 0, .ref a1, .ref a2, .ref a3, .int 0, .int 0, .ref a4, .int 0, .ref a5, .int 0, .int 0, .int 0, .int 0, .int 0, .int 0, .ref a6, .int 0, .ref a7, .int 0, .ref a8, .ref a9])), (a0, .inl (cA, 512, .inl (fun _ => 0)))] sz)) 0 0 (va_A [(h0, .inr (5, [.int 0, .ref a0, .int (-1), .int 0, .int 0, .ref a1, .ref a2, .ref a3, .int 0, .int 0, .ref a4, .int 0, .ref a5, .int 0, .int 0, .int 0, .int 0, .int 0, .int 0, .ref a6, .int 0, .ref a7, .int 0, .ref a8, .ref a9])), (a0, .inl (cA, 512, .inl (fun _ => 0)))] sz) := by
  refine Met.ofW (cc := b_Mo_disk) (maxL := 2) (ret := (some .int)) (by decide) rfl ?_
  intro p e s m args below meth c s₁ B hml hv
  obtain ⟨rfl, hsz, hP, hK, hD0, hkw, hX⟩ := hv
  have hx := B.exec
  have hb := B.bytes
  have hr := B.returns
  have hts := fun w hw => atoms_spec (ws := Cond.code y_Mo_disk b_Mo_disk 2 (some .int) :: gw) B.pre w (List.mem_cons_of_mem _ hw)
  have hown : s.vm.findClass "LineDiskModel" = some m.cls := findClass_of_methodNamed B.named
  have hlocks := B.notSynchronized
  have hin := (name_of_methodNamed B.named B.method).1
  subst hsz
  have hD := hD0.self (sz := s.heap.size)
  generalize hAe : va_A [(h0, .inr (5, [.int 0, .ref a0, .int (-1), .int 0, .int 0, .ref a1, .ref a2, .ref a3, .int 0, .int 0, .ref a4, .int 0, .ref a5, .int 0, .int 0, .int 0, .int 0, .int 0, .int 0, .ref a6, .int 0, .ref a7, .int 0, .ref a8, .ref a9])), (a0, .inl (cA, 512, .inl (fun _ => 0)))] s.heap.size = A at hD ⊢
  have hA : ∀ q : Nat, s.heap.size ≤ q → A q := fun q h => by rw [← hAe]; exact Or.inr h
  have hS : va_S A s.heap s.heap [] := va_S.rf
  have hl := lv_entry ([.ref h0, .int x]) (n := 2) (Nat.le_of_ble_eq_true rfl)
  rw [lg_entry_eq]
  generalize (lg_sl ([.ref h0, .int x]) ++ List.replicate (2 - (lg_sl ([.ref h0, .int x])).length) Slot.unset).toArray = ls at hl ⊢
  have hl : lv_has ls 2 [(0, .ref h0), (1, .int x)] := hl
  have F : CallFix p m c b_Mo_disk 2 s ([.ref h0, .int x]).toArray gw "LineDiskModel" := ⟨hx, hb, hml, hown, hts⟩
  refine lv_aload_n hx hb d_Mo_disk_0 rfl (lv_at hl 0 rfl) ?_
  refine lv_iload_n hx hb d_Mo_disk_1 rfl (lv_at hl 1 rfl) ?_
  refine lv_if_lt (tgt := 12) hx hb d_Mo_disk_2 (by decide) (fun _ => ?_) (fun h => absurd (h1) h)
  refine lv_iconst (v := 1) hx hb d_Mo_disk_12 (by decide) ?_
  refine lv_goto (tgt := 17) hx hb d_Mo_disk_13 (by decide) ?_
  refine va_put (D := (dC, dI)) (ci := 5) (v := .int 1) (ty := .int) (C := R_Mo) (T := F_Mo) (N := 25) hx hb hts in_Mo t_Mo t_Mo_ok n_Mo hown hK hP hD hS 0 rfl rfl 0 (by decide) (hts _ w_593) (fun _ h9 => h9) rfl (by decide +kernel) (rfl) (rfl) (Nat.le_of_ble_eq_true rfl) d_Mo_disk_17 (fun H locs hP hD hS => ?_)
  have hP : va_P (dC, dI) cls [(h0, .inr (5, [.int 1, .ref a0, .int (-1), .int 0, .int 0, .ref a1, .ref a2, .ref a3, .int 0, .int 0, .ref a4, .int 0, .ref a5, .int 0, .int 0, .int 0, .int 0, .int 0, .int 0, .ref a6, .int 0, .ref a7, .int 0, .ref a8, .ref a9])), (a0, .inl (cA, 512, .inl (fun _ => 0)))] H := hP
  have hD : va_D A [(h0, .inr (5, [.int 1, .ref a0, .int (-1), .int 0, .int 0, .ref a1, .ref a2, .ref a3, .int 0, .int 0, .ref a4, .int 0, .ref a5, .int 0, .int 0, .int 0, .int 0, .int 0, .int 0, .ref a6, .int 0, .ref a7, .int 0, .ref a8, .ref a9])), (a0, .inl (cA, 512, .inl (fun _ => 0)))] := hD
  refine lv_aload_n hx hb d_Mo_disk_20 rfl (lv_at hl 0 rfl) ?_
  refine va_get (D := (dC, dI)) (ci := 5) (v := .int 1) (C := R_Mo) (T := F_Mo) (N := 25) hx hb hts in_Mo hown hK hP 0 rfl rfl 0 (by decide) (hts _ w_593) (fun _ h9 => h9) rfl d_Mo_disk_21 ?_
  refine lv_if_le (tgt := 31) hx hb d_Mo_disk_24 (by decide) (fun h => absurd h (by decide)) (fun _ => ?_)
  refine lv_iconst (v := 0) hx hb d_Mo_disk_27 (by decide) ?_
  refine lv_goto (tgt := 37) hx hb d_Mo_disk_28 (by decide) ?_
  refine W.widen (k := 0) (n := 0) (by decide) (by decide) ?_
  exact W.iret (v := 0) hx hb hr (fun t ht hW => ⟨⟨0, (), rfl, rfl, cB.of (hP.sub [0, 1] rfl) (hD.sub [0, 1] (by decide) rfl) (hK.sub [0] rfl) ht hW⟩, hS.F ht⟩) hS.2.2 d_Mo_disk_37
set_option maxHeartbeats 4000000 in
set_option maxRecDepth 100000 in
theorem c_Mo_disk2 (l : Launch) (dC : Nat → ClassId) (dI : Nat → Nat → Nat) (h0 a0 a1 a2 a3 a4 a5 a6 a7 a8 a9 : Nat) (cA : ClassId) (x : Int32) (h1 : ¬ x < 0) (h2 : ¬ x ≤ 511) (sz : Nat) : Met l y_Mo_disk (Cond.code y_Mo_disk b_Mo_disk 2 (some .int) :: gw) ({ frames := 0, cells := 0, slots := 0, locals := 0 }) (cP (dC, dI) [.ref h0, .int x] sz [(h0, .inr (5, [.int 0, .ref a0, .int (-1), .int 0, .int 0, .ref a1, .ref a2, .ref a3, .int 0, .int 0, .ref a4, .int 0, .ref a5, .int 0, .int 0, .int 0, .int 0, .int 0, .int 0, .ref a6, .int 0, .ref a7, .int 0, .ref a8, .ref a9])), (a0, .inl (cA, 512, .inl (fun _ => 0)))] [(cA, .int)] xT) (va_Qi (fun (r : Int32) (u : Unit) => r = 0) (fun (u : Unit) t => cB (dC, dI) (va_A [(h0, .inr (5, [.int 0, .ref a0, .int (-1), .int 0, .int 0, .ref a1, .ref a2, .ref a3, .int 0, .int 0, .ref a4, .int 0, .ref a5, .int 0, .int 0, .int 0, .int 0, .int 0, .int 0, .ref a6, .int 0, .ref a7, .int 0, .ref a8, .ref a9])), (a0, .inl (cA, 512, .inl (fun _ => 0)))] sz) [(h0, .inr (5, [.int 1, .ref a0, .int (-1), .int 0, .int 0, .ref a1, .ref a2, .ref a3, .int 0, .int 0, .ref a4, .int 0, .ref a5, .int 0, .int 0, .int 0, .int 0, .int 0, .int 0, .ref a6, .int 0, .ref a7, .int 0, .ref a8, .ref a9])), (a0, .inl (cA, 512, .inl (fun _ => 0)))] [(cA, .int)] t) (va_A [(h0, .inr (5, [.int 0, .ref a0, .int (-1), .int 0, .int 0, .ref a1, .ref a2, .ref a3, .int 0, .int 0, .ref a4, .int 0, .ref a5, .int 0, .int 0, .int 0, .int 0, .int 0, .int 0, .ref a6, .int 0, .ref a7, .int 0, .ref a8, .ref a9])), (a0, .inl (cA, 512, .inl (fun _ => 0)))] sz)) 0 0 (va_A [(h0, .inr (5, [.int 0, .ref a0, .int (-1), .int 0, .int 0, .ref a1, .ref a2, .ref a3, .int 0, .int 0, .ref a4, .int 0, .ref a5, .int 0, .int 0, .int 0, .int 0, .int 0, .int 0, .ref a6, .int 0, .ref a7, .int 0, .ref a8, .ref a9])), (a0, .inl (cA, 512, .inl (fun _ => 0)))] sz) := by
  refine Met.ofW (cc := b_Mo_disk) (maxL := 2) (ret := (some .int)) (by decide) rfl ?_
  intro p e s m args below meth c s₁ B hml hv
  obtain ⟨rfl, hsz, hP, hK, hD0, hkw, hX⟩ := hv
  have hx := B.exec
  have hb := B.bytes
  have hr := B.returns
  have hts := fun w hw => atoms_spec (ws := Cond.code y_Mo_disk b_Mo_disk 2 (some .int) :: gw) B.pre w (List.mem_cons_of_mem _ hw)
  have hown : s.vm.findClass "LineDiskModel" = some m.cls := findClass_of_methodNamed B.named
  have hlocks := B.notSynchronized
  have hin := (name_of_methodNamed B.named B.method).1
  subst hsz
  have hD := hD0.self (sz := s.heap.size)
  generalize hAe : va_A [(h0, .inr (5, [.int 0, .ref a0, .int (-1), .int 0, .int 0, .ref a1, .ref a2, .ref a3, .int 0, .int 0, .ref a4, .int 0, .ref a5, .int 0, .int 0, .int 0, .int 0, .int 0, .int 0, .ref a6, .int 0, .ref a7, .int 0, .ref a8, .ref a9])), (a0, .inl (cA, 512, .inl (fun _ => 0)))] s.heap.size = A at hD ⊢
  have hA : ∀ q : Nat, s.heap.size ≤ q → A q := fun q h => by rw [← hAe]; exact Or.inr h
  have hS : va_S A s.heap s.heap [] := va_S.rf
  have hl := lv_entry ([.ref h0, .int x]) (n := 2) (Nat.le_of_ble_eq_true rfl)
  rw [lg_entry_eq]
  generalize (lg_sl ([.ref h0, .int x]) ++ List.replicate (2 - (lg_sl ([.ref h0, .int x])).length) Slot.unset).toArray = ls at hl ⊢
  have hl : lv_has ls 2 [(0, .ref h0), (1, .int x)] := hl
  have F : CallFix p m c b_Mo_disk 2 s ([.ref h0, .int x]).toArray gw "LineDiskModel" := ⟨hx, hb, hml, hown, hts⟩
  refine lv_aload_n hx hb d_Mo_disk_0 rfl (lv_at hl 0 rfl) ?_
  refine lv_iload_n hx hb d_Mo_disk_1 rfl (lv_at hl 1 rfl) ?_
  refine lv_if_lt (tgt := 12) hx hb d_Mo_disk_2 (by decide) (fun h => absurd h (h1)) (fun _ => ?_)
  refine lv_iload_n hx hb d_Mo_disk_5 rfl (lv_at hl 1 rfl) ?_
  refine lv_sipush (v := 511) hx hb d_Mo_disk_6 (by decide) ?_
  refine lv_icmp_le (tgt := 16) hx hb d_Mo_disk_9 (by decide) (fun h => absurd h (h2)) (fun _ => ?_)
  refine lv_iconst (v := 1) hx hb d_Mo_disk_12 (by decide) ?_
  refine lv_goto (tgt := 17) hx hb d_Mo_disk_13 (by decide) ?_
  refine va_put (D := (dC, dI)) (ci := 5) (v := .int 1) (ty := .int) (C := R_Mo) (T := F_Mo) (N := 25) hx hb hts in_Mo t_Mo t_Mo_ok n_Mo hown hK hP hD hS 0 rfl rfl 0 (by decide) (hts _ w_593) (fun _ h9 => h9) rfl (by decide +kernel) (rfl) (rfl) (Nat.le_of_ble_eq_true rfl) d_Mo_disk_17 (fun H locs hP hD hS => ?_)
  have hP : va_P (dC, dI) cls [(h0, .inr (5, [.int 1, .ref a0, .int (-1), .int 0, .int 0, .ref a1, .ref a2, .ref a3, .int 0, .int 0, .ref a4, .int 0, .ref a5, .int 0, .int 0, .int 0, .int 0, .int 0, .int 0, .ref a6, .int 0, .ref a7, .int 0, .ref a8, .ref a9])), (a0, .inl (cA, 512, .inl (fun _ => 0)))] H := hP
  have hD : va_D A [(h0, .inr (5, [.int 1, .ref a0, .int (-1), .int 0, .int 0, .ref a1, .ref a2, .ref a3, .int 0, .int 0, .ref a4, .int 0, .ref a5, .int 0, .int 0, .int 0, .int 0, .int 0, .int 0, .ref a6, .int 0, .ref a7, .int 0, .ref a8, .ref a9])), (a0, .inl (cA, 512, .inl (fun _ => 0)))] := hD
  refine lv_aload_n hx hb d_Mo_disk_20 rfl (lv_at hl 0 rfl) ?_
  refine va_get (D := (dC, dI)) (ci := 5) (v := .int 1) (C := R_Mo) (T := F_Mo) (N := 25) hx hb hts in_Mo hown hK hP 0 rfl rfl 0 (by decide) (hts _ w_593) (fun _ h9 => h9) rfl d_Mo_disk_21 ?_
  refine lv_if_le (tgt := 31) hx hb d_Mo_disk_24 (by decide) (fun h => absurd h (by decide)) (fun _ => ?_)
  refine lv_iconst (v := 0) hx hb d_Mo_disk_27 (by decide) ?_
  refine lv_goto (tgt := 37) hx hb d_Mo_disk_28 (by decide) ?_
  refine W.widen (k := 0) (n := 0) (by decide) (by decide) ?_
  exact W.iret (v := 0) hx hb hr (fun t ht hW => ⟨⟨0, (), rfl, rfl, cB.of (hP.sub [0, 1] rfl) (hD.sub [0, 1] (by decide) rfl) (hK.sub [0] rfl) ht hW⟩, hS.F ht⟩) hS.2.2 d_Mo_disk_37
set_option maxHeartbeats 4000000 in
set_option maxRecDepth 100000 in
theorem c_Mo_disk3 (l : Launch) (dC : Nat → ClassId) (dI : Nat → Nat → Nat) (h0 a0 a1 a2 a3 a4 a5 a6 a7 a8 a9 : Nat) (cA : ClassId) (x : Int32) (h1 : ¬ x < 0) (h2 : x ≤ 511) (sz : Nat) : Met l y_Mo_disk (Cond.code y_Mo_disk b_Mo_disk 2 (some .int) :: gw) ({ frames := 0, cells := 0, slots := 0, locals := 0 }) (cP (dC, dI) [.ref h0, .int x] sz [(h0, .inr (5, [.int 0, .ref a0, .int (-1), .int 0, .int 0, .ref a1, .ref a2, .ref a3, .int 0, .int 0, .ref a4, .int 0, .ref a5, .int 0, .int 0, .int 0, .int 0, .int 0, .int 0, .ref a6, .int 0, .ref a7, .int 0, .ref a8, .ref a9])), (a0, .inl (cA, 512, .inl (fun _ => 0)))] [(cA, .int)] xT) (va_Qi (fun (r : Int32) (u : Unit) => r = 0) (fun (u : Unit) t => cB (dC, dI) (va_A [(h0, .inr (5, [.int 0, .ref a0, .int (-1), .int 0, .int 0, .ref a1, .ref a2, .ref a3, .int 0, .int 0, .ref a4, .int 0, .ref a5, .int 0, .int 0, .int 0, .int 0, .int 0, .int 0, .ref a6, .int 0, .ref a7, .int 0, .ref a8, .ref a9])), (a0, .inl (cA, 512, .inl (fun _ => 0)))] sz) [(h0, .inr (5, [.int 0, .ref a0, .int (-1), .int 0, .int 0, .ref a1, .ref a2, .ref a3, .int 0, .int 0, .ref a4, .int 0, .ref a5, .int 0, .int 0, .int 0, .int 0, .int 0, .int 0, .ref a6, .int 0, .ref a7, .int 0, .ref a8, .ref a9])), (a0, .inl (cA, 512, .inl (fun _ => 0)))] [(cA, .int)] t) (va_A [(h0, .inr (5, [.int 0, .ref a0, .int (-1), .int 0, .int 0, .ref a1, .ref a2, .ref a3, .int 0, .int 0, .ref a4, .int 0, .ref a5, .int 0, .int 0, .int 0, .int 0, .int 0, .int 0, .ref a6, .int 0, .ref a7, .int 0, .ref a8, .ref a9])), (a0, .inl (cA, 512, .inl (fun _ => 0)))] sz)) 0 0 (va_A [(h0, .inr (5, [.int 0, .ref a0, .int (-1), .int 0, .int 0, .ref a1, .ref a2, .ref a3, .int 0, .int 0, .ref a4, .int 0, .ref a5, .int 0, .int 0, .int 0, .int 0, .int 0, .int 0, .ref a6, .int 0, .ref a7, .int 0, .ref a8, .ref a9])), (a0, .inl (cA, 512, .inl (fun _ => 0)))] sz) := by
  refine Met.ofW (cc := b_Mo_disk) (maxL := 2) (ret := (some .int)) (by decide) rfl ?_
  intro p e s m args below meth c s₁ B hml hv
  obtain ⟨rfl, hsz, hP, hK, hD0, hkw, hX⟩ := hv
  have hx := B.exec
  have hb := B.bytes
  have hr := B.returns
  have hts := fun w hw => atoms_spec (ws := Cond.code y_Mo_disk b_Mo_disk 2 (some .int) :: gw) B.pre w (List.mem_cons_of_mem _ hw)
  have hown : s.vm.findClass "LineDiskModel" = some m.cls := findClass_of_methodNamed B.named
  have hlocks := B.notSynchronized
  have hin := (name_of_methodNamed B.named B.method).1
  subst hsz
  have hD := hD0.self (sz := s.heap.size)
  generalize hAe : va_A [(h0, .inr (5, [.int 0, .ref a0, .int (-1), .int 0, .int 0, .ref a1, .ref a2, .ref a3, .int 0, .int 0, .ref a4, .int 0, .ref a5, .int 0, .int 0, .int 0, .int 0, .int 0, .int 0, .ref a6, .int 0, .ref a7, .int 0, .ref a8, .ref a9])), (a0, .inl (cA, 512, .inl (fun _ => 0)))] s.heap.size = A at hD ⊢
  have hA : ∀ q : Nat, s.heap.size ≤ q → A q := fun q h => by rw [← hAe]; exact Or.inr h
  have hS : va_S A s.heap s.heap [] := va_S.rf
  have hl := lv_entry ([.ref h0, .int x]) (n := 2) (Nat.le_of_ble_eq_true rfl)
  rw [lg_entry_eq]
  generalize (lg_sl ([.ref h0, .int x]) ++ List.replicate (2 - (lg_sl ([.ref h0, .int x])).length) Slot.unset).toArray = ls at hl ⊢
  have hl : lv_has ls 2 [(0, .ref h0), (1, .int x)] := hl
  have F : CallFix p m c b_Mo_disk 2 s ([.ref h0, .int x]).toArray gw "LineDiskModel" := ⟨hx, hb, hml, hown, hts⟩
  refine lv_aload_n hx hb d_Mo_disk_0 rfl (lv_at hl 0 rfl) ?_
  refine lv_iload_n hx hb d_Mo_disk_1 rfl (lv_at hl 1 rfl) ?_
  refine lv_if_lt (tgt := 12) hx hb d_Mo_disk_2 (by decide) (fun h => absurd h (h1)) (fun _ => ?_)
  refine lv_iload_n hx hb d_Mo_disk_5 rfl (lv_at hl 1 rfl) ?_
  refine lv_sipush (v := 511) hx hb d_Mo_disk_6 (by decide) ?_
  refine lv_icmp_le (tgt := 16) hx hb d_Mo_disk_9 (by decide) (fun _ => ?_) (fun h => absurd (h2) h)
  refine lv_iconst (v := 0) hx hb d_Mo_disk_16 (by decide) ?_
  refine va_put (D := (dC, dI)) (ci := 5) (v := .int 0) (ty := .int) (C := R_Mo) (T := F_Mo) (N := 25) hx hb hts in_Mo t_Mo t_Mo_ok n_Mo hown hK hP hD hS 0 rfl rfl 0 (by decide) (hts _ w_593) (fun _ h9 => h9) rfl (by decide +kernel) (rfl) (rfl) (Nat.le_of_ble_eq_true rfl) d_Mo_disk_17 (fun H locs hP hD hS => ?_)
  have hP : va_P (dC, dI) cls [(h0, .inr (5, [.int 0, .ref a0, .int (-1), .int 0, .int 0, .ref a1, .ref a2, .ref a3, .int 0, .int 0, .ref a4, .int 0, .ref a5, .int 0, .int 0, .int 0, .int 0, .int 0, .int 0, .ref a6, .int 0, .ref a7, .int 0, .ref a8, .ref a9])), (a0, .inl (cA, 512, .inl (fun _ => 0)))] H := hP
  have hD : va_D A [(h0, .inr (5, [.int 0, .ref a0, .int (-1), .int 0, .int 0, .ref a1, .ref a2, .ref a3, .int 0, .int 0, .ref a4, .int 0, .ref a5, .int 0, .int 0, .int 0, .int 0, .int 0, .int 0, .ref a6, .int 0, .ref a7, .int 0, .ref a8, .ref a9])), (a0, .inl (cA, 512, .inl (fun _ => 0)))] := hD
  refine lv_aload_n hx hb d_Mo_disk_20 rfl (lv_at hl 0 rfl) ?_
  refine va_get (D := (dC, dI)) (ci := 5) (v := .int 0) (C := R_Mo) (T := F_Mo) (N := 25) hx hb hts in_Mo hown hK hP 0 rfl rfl 0 (by decide) (hts _ w_593) (fun _ h9 => h9) rfl d_Mo_disk_21 ?_
  refine lv_if_le (tgt := 31) hx hb d_Mo_disk_24 (by decide) (fun _ => ?_) (fun h => absurd (by decide) h)
  refine lv_aload_n hx hb d_Mo_disk_31 rfl (lv_at hl 0 rfl) ?_
  refine va_get (D := (dC, dI)) (ci := 5) (v := .ref a0) (C := R_Mo) (T := F_Mo) (N := 25) hx hb hts in_Mo hown hK hP 0 rfl rfl 1 (by decide) (hts _ w_594) (fun _ h9 => h9) rfl d_Mo_disk_32 ?_
  refine lv_iload_n hx hb d_Mo_disk_35 rfl (lv_at hl 1 rfl) ?_
  refine va_iald hx hb hK hP 1 0 rfl rfl (in511 h1 h2) d_Mo_disk_36 ?_
  refine tv (x2 := 0) (by exact rfl) ?_
  refine W.widen (k := 0) (n := 0) (by decide) (by decide) ?_
  exact W.iret (v := 0) hx hb hr (fun t ht hW => ⟨⟨0, (), rfl, rfl, cB.of (hP.sub [0, 1] rfl) (hD.sub [0, 1] (by decide) rfl) (hK.sub [0] rfl) ht hW⟩, hS.F ht⟩) hS.2.2 d_Mo_disk_37
set_option maxHeartbeats 4000000 in
set_option maxRecDepth 100000 in
theorem c_Mo_feed (l : Launch) (dC : Nat → ClassId) (dI : Nat → Nat → Nat) (h0 a0 a1 a2 a3 a4 a5 a6 a7 a8 a9 : Nat) (cA : ClassId) (x : Int32) (sz : Nat) : Met l y_Mo_feed (Cond.code y_Mo_feed b_Mo_feed 3 (some .int) :: gw) ({ frames := 0, cells := 0, slots := 0, locals := 0 }) (cP (dC, dI) [.ref h0, .int x] sz [(h0, .inr (5, [.int 0, .ref a0, .int (-1), .int 0, .int 0, .ref a1, .ref a2, .ref a3, .int 0, .int 0, .ref a4, .int 0, .ref a5, .int 0, .int 0, .int 0, .int 0, .int 0, .int 0, .ref a6, .int 0, .ref a7, .int 0, .ref a8, .ref a9])), (a5, .inl (cA, 15, .inl (fun _ => 0)))] [(cA, .int)] xT) (va_Qi (fun (r : Int32) (u : Unit) => r = 0) (fun (u : Unit) t => cB (dC, dI) (va_A [(h0, .inr (5, [.int 0, .ref a0, .int (-1), .int 0, .int 0, .ref a1, .ref a2, .ref a3, .int 0, .int 0, .ref a4, .int 0, .ref a5, .int 0, .int 0, .int 0, .int 0, .int 0, .int 0, .ref a6, .int 0, .ref a7, .int 0, .ref a8, .ref a9])), (a5, .inl (cA, 15, .inl (fun _ => 0)))] sz) [] [] t) (va_A [(h0, .inr (5, [.int 0, .ref a0, .int (-1), .int 0, .int 0, .ref a1, .ref a2, .ref a3, .int 0, .int 0, .ref a4, .int 0, .ref a5, .int 0, .int 0, .int 0, .int 0, .int 0, .int 0, .ref a6, .int 0, .ref a7, .int 0, .ref a8, .ref a9])), (a5, .inl (cA, 15, .inl (fun _ => 0)))] sz)) 0 0 (va_A [(h0, .inr (5, [.int 0, .ref a0, .int (-1), .int 0, .int 0, .ref a1, .ref a2, .ref a3, .int 0, .int 0, .ref a4, .int 0, .ref a5, .int 0, .int 0, .int 0, .int 0, .int 0, .int 0, .ref a6, .int 0, .ref a7, .int 0, .ref a8, .ref a9])), (a5, .inl (cA, 15, .inl (fun _ => 0)))] sz) := by
  refine Met.ofW (cc := b_Mo_feed) (maxL := 3) (ret := (some .int)) (by decide) rfl ?_
  intro p e s m args below meth c s₁ B hml hv
  obtain ⟨rfl, hsz, hP, hK, hD0, hkw, hX⟩ := hv
  have hx := B.exec
  have hb := B.bytes
  have hr := B.returns
  have hts := fun w hw => atoms_spec (ws := Cond.code y_Mo_feed b_Mo_feed 3 (some .int) :: gw) B.pre w (List.mem_cons_of_mem _ hw)
  have hown : s.vm.findClass "LineDiskModel" = some m.cls := findClass_of_methodNamed B.named
  have hlocks := B.notSynchronized
  have hin := (name_of_methodNamed B.named B.method).1
  subst hsz
  have hD := hD0.self (sz := s.heap.size)
  generalize hAe : va_A [(h0, .inr (5, [.int 0, .ref a0, .int (-1), .int 0, .int 0, .ref a1, .ref a2, .ref a3, .int 0, .int 0, .ref a4, .int 0, .ref a5, .int 0, .int 0, .int 0, .int 0, .int 0, .int 0, .ref a6, .int 0, .ref a7, .int 0, .ref a8, .ref a9])), (a5, .inl (cA, 15, .inl (fun _ => 0)))] s.heap.size = A at hD ⊢
  have hA : ∀ q : Nat, s.heap.size ≤ q → A q := fun q h => by rw [← hAe]; exact Or.inr h
  have hS : va_S A s.heap s.heap [] := va_S.rf
  have hl := lv_entry ([.ref h0, .int x]) (n := 3) (Nat.le_of_ble_eq_true rfl)
  rw [lg_entry_eq]
  generalize (lg_sl ([.ref h0, .int x]) ++ List.replicate (3 - (lg_sl ([.ref h0, .int x])).length) Slot.unset).toArray = ls at hl ⊢
  have hl : lv_has ls 3 [(0, .ref h0), (1, .int x)] := hl
  have F : CallFix p m c b_Mo_feed 3 s ([.ref h0, .int x]).toArray gw "LineDiskModel" := ⟨hx, hb, hml, hown, hts⟩
  refine lv_aload_n hx hb d_Mo_feed_0 rfl (lv_at hl 0 rfl) ?_
  refine lv_iconst (v := 0) hx hb d_Mo_feed_1 (by decide) ?_
  refine va_put (D := (dC, dI)) (ci := 5) (v := .int 0) (ty := .int) (C := R_Mo) (T := F_Mo) (N := 25) hx hb hts in_Mo t_Mo t_Mo_ok n_Mo hown hK hP hD hS 0 rfl rfl 0 (by decide) (hts _ w_593) (fun _ h9 => h9) rfl (by decide +kernel) (rfl) (rfl) (Nat.le_of_ble_eq_true rfl) d_Mo_feed_2 (fun H locs hP hD hS => ?_)
  have hP : va_P (dC, dI) cls [(h0, .inr (5, [.int 0, .ref a0, .int (-1), .int 0, .int 0, .ref a1, .ref a2, .ref a3, .int 0, .int 0, .ref a4, .int 0, .ref a5, .int 0, .int 0, .int 0, .int 0, .int 0, .int 0, .ref a6, .int 0, .ref a7, .int 0, .ref a8, .ref a9])), (a5, .inl (cA, 15, .inl (fun _ => 0)))] H := hP
  have hD : va_D A [(h0, .inr (5, [.int 0, .ref a0, .int (-1), .int 0, .int 0, .ref a1, .ref a2, .ref a3, .int 0, .int 0, .ref a4, .int 0, .ref a5, .int 0, .int 0, .int 0, .int 0, .int 0, .int 0, .ref a6, .int 0, .ref a7, .int 0, .ref a8, .ref a9])), (a5, .inl (cA, 15, .inl (fun _ => 0)))] := hD
  refine lv_aload_n hx hb d_Mo_feed_5 rfl (lv_at hl 0 rfl) ?_
  refine va_get (D := (dC, dI)) (ci := 5) (v := .int 0) (C := R_Mo) (T := F_Mo) (N := 25) hx hb hts in_Mo hown hK hP 0 rfl rfl 3 (by decide) (hts _ w_596) (fun _ h9 => h9) rfl d_Mo_feed_6 ?_
  refine lv_if_eq (tgt := 15) hx hb d_Mo_feed_9 (by decide) (fun _ => ?_) (fun h => absurd (by decide) h)
  refine lv_iload_n hx hb d_Mo_feed_15 rfl (lv_at hl 1 rfl) ?_
  refine lv_bipush (v := 10) hx hb d_Mo_feed_16 (by decide) ?_
  refine lv_icmp_eq (tgt := 52) hx hb d_Mo_feed_18 (by decide) (fun h10 => ?_) (fun h10 => ?_)
  · skip
    refine lv_aload_n hx hb d_Mo_feed_52 rfl (lv_at hl 0 rfl) ?_
    refine va_get (D := (dC, dI)) (ci := 5) (v := .int 0) (C := R_Mo) (T := F_Mo) (N := 25) hx hb hts in_Mo hown hK hP 0 rfl rfl 11 (by decide) (hts _ w_604) (fun _ h9 => h9) rfl d_Mo_feed_53 ?_
    refine lv_if_ne (tgt := 63) hx hb d_Mo_feed_56 (by decide) (fun h => absurd (by decide) h) (fun _ => ?_)
    refine lv_iconst (v := 0) hx hb d_Mo_feed_59 (by decide) ?_
    refine lv_goto (tgt := 86) hx hb d_Mo_feed_60 (by decide) ?_
    refine lv_istore_n (i := 2) hx hb d_Mo_feed_86 rfl hl (by decide) rfl (fun ls hl => ?_)
    have hl : lv_has ls 3 [(2, .int 0), (0, .ref h0), (1, .int x)] := hl
    refine lv_aload_n hx hb d_Mo_feed_87 rfl (lv_at hl 1 rfl) ?_
    refine lv_iconst (v := 0) hx hb d_Mo_feed_88 (by decide) ?_
    refine va_put (D := (dC, dI)) (ci := 5) (v := .int 0) (ty := .int) (C := R_Mo) (T := F_Mo) (N := 25) hx hb hts in_Mo t_Mo t_Mo_ok n_Mo hown hK hP hD hS 0 rfl rfl 11 (by decide) (hts _ w_604) (fun _ h9 => h9) rfl (by decide +kernel) (rfl) (rfl) (Nat.le_of_ble_eq_true rfl) d_Mo_feed_89 (fun H locs hP hD hS => ?_)
    have hP : va_P (dC, dI) cls [(h0, .inr (5, [.int 0, .ref a0, .int (-1), .int 0, .int 0, .ref a1, .ref a2, .ref a3, .int 0, .int 0, .ref a4, .int 0, .ref a5, .int 0, .int 0, .int 0, .int 0, .int 0, .int 0, .ref a6, .int 0, .ref a7, .int 0, .ref a8, .ref a9])), (a5, .inl (cA, 15, .inl (fun _ => 0)))] H := hP
    have hD : va_D A [(h0, .inr (5, [.int 0, .ref a0, .int (-1), .int 0, .int 0, .ref a1, .ref a2, .ref a3, .int 0, .int 0, .ref a4, .int 0, .ref a5, .int 0, .int 0, .int 0, .int 0, .int 0, .int 0, .ref a6, .int 0, .ref a7, .int 0, .ref a8, .ref a9])), (a5, .inl (cA, 15, .inl (fun _ => 0)))] := hD
    refine lv_iload_n hx hb d_Mo_feed_92 rfl (lv_at hl 0 rfl) ?_
    refine W.widen (k := 0) (n := 0) (by decide) (by decide) ?_
    exact W.iret (v := 0) hx hb hr (fun t ht hW => ⟨⟨0, (), rfl, rfl, cB.of (hP.sub [] rfl) (hD.sub [] (by decide) rfl) (hK.sub [] rfl) ht hW⟩, hS.F ht⟩) hS.2.2 d_Mo_feed_93
  · skip
    refine lv_aload_n hx hb d_Mo_feed_21 rfl (lv_at hl 0 rfl) ?_
    refine va_get (D := (dC, dI)) (ci := 5) (v := .int 0) (C := R_Mo) (T := F_Mo) (N := 25) hx hb hts in_Mo hown hK hP 0 rfl rfl 11 (by decide) (hts _ w_604) (fun _ h9 => h9) rfl d_Mo_feed_22 ?_
    refine lv_bipush (v := 15) hx hb d_Mo_feed_25 (by decide) ?_
    refine lv_icmp_ge (tgt := 50) hx hb d_Mo_feed_27 (by decide) (fun h => absurd h (by decide)) (fun _ => ?_)
    refine lv_aload_n hx hb d_Mo_feed_30 rfl (lv_at hl 0 rfl) ?_
    refine va_get (D := (dC, dI)) (ci := 5) (v := .ref a5) (C := R_Mo) (T := F_Mo) (N := 25) hx hb hts in_Mo hown hK hP 0 rfl rfl 12 (by decide) (hts _ w_605) (fun _ h9 => h9) rfl d_Mo_feed_31 ?_
    refine lv_aload_n hx hb d_Mo_feed_34 rfl (lv_at hl 0 rfl) ?_
    refine va_get (D := (dC, dI)) (ci := 5) (v := .int 0) (C := R_Mo) (T := F_Mo) (N := 25) hx hb hts in_Mo hown hK hP 0 rfl rfl 11 (by decide) (hts _ w_604) (fun _ h9 => h9) rfl d_Mo_feed_35 ?_
    refine lv_iload_n hx hb d_Mo_feed_38 rfl (lv_at hl 1 rfl) ?_
    refine va_iast hx hb hK hP hD hS 1 0 rfl rfl (vp_in_iff.mpr (by decide)) d_Mo_feed_39 (fun H locs hP hD hS => ?_)
    have hP : va_P (dC, dI) cls [(h0, .inr (5, [.int 0, .ref a0, .int (-1), .int 0, .int 0, .ref a1, .ref a2, .ref a3, .int 0, .int 0, .ref a4, .int 0, .ref a5, .int 0, .int 0, .int 0, .int 0, .int 0, .int 0, .ref a6, .int 0, .ref a7, .int 0, .ref a8, .ref a9])), (a5, .inl (cA, 15, .inl (upd (fun _ => 0) (0 : Int32).toNatClampNeg x)))] H := hP
    have hD : va_D A [(h0, .inr (5, [.int 0, .ref a0, .int (-1), .int 0, .int 0, .ref a1, .ref a2, .ref a3, .int 0, .int 0, .ref a4, .int 0, .ref a5, .int 0, .int 0, .int 0, .int 0, .int 0, .int 0, .ref a6, .int 0, .ref a7, .int 0, .ref a8, .ref a9])), (a5, .inl (cA, 15, .inl (upd (fun _ => 0) (0 : Int32).toNatClampNeg x)))] := hD
    refine lv_aload_n hx hb d_Mo_feed_40 rfl (lv_at hl 0 rfl) ?_
    refine lv_dup hx hb d_Mo_feed_41 rfl ?_
    refine va_get (D := (dC, dI)) (ci := 5) (v := .int 0) (C := R_Mo) (T := F_Mo) (N := 25) hx hb hts in_Mo hown hK hP 0 rfl rfl 11 (by decide) (hts _ w_604) (fun _ h9 => h9) rfl d_Mo_feed_42 ?_
    refine lv_iconst (v := 1) hx hb d_Mo_feed_45 (by decide) ?_
    refine lv_iadd hx hb d_Mo_feed_46 ?_
    refine tv (x2 := 1) (by decide) ?_
    refine va_put (D := (dC, dI)) (ci := 5) (v := .int 1) (ty := .int) (C := R_Mo) (T := F_Mo) (N := 25) hx hb hts in_Mo t_Mo t_Mo_ok n_Mo hown hK hP hD hS 0 rfl rfl 11 (by decide) (hts _ w_604) (fun _ h9 => h9) rfl (by decide +kernel) (rfl) (rfl) (Nat.le_of_ble_eq_true rfl) d_Mo_feed_47 (fun H locs hP hD hS => ?_)
    have hP : va_P (dC, dI) cls [(h0, .inr (5, [.int 0, .ref a0, .int (-1), .int 0, .int 0, .ref a1, .ref a2, .ref a3, .int 0, .int 0, .ref a4, .int 1, .ref a5, .int 0, .int 0, .int 0, .int 0, .int 0, .int 0, .ref a6, .int 0, .ref a7, .int 0, .ref a8, .ref a9])), (a5, .inl (cA, 15, .inl (upd (fun _ => 0) (0 : Int32).toNatClampNeg x)))] H := hP
    have hD : va_D A [(h0, .inr (5, [.int 0, .ref a0, .int (-1), .int 0, .int 0, .ref a1, .ref a2, .ref a3, .int 0, .int 0, .ref a4, .int 1, .ref a5, .int 0, .int 0, .int 0, .int 0, .int 0, .int 0, .ref a6, .int 0, .ref a7, .int 0, .ref a8, .ref a9])), (a5, .inl (cA, 15, .inl (upd (fun _ => 0) (0 : Int32).toNatClampNeg x)))] := hD
    refine lv_iconst (v := 0) hx hb d_Mo_feed_50 (by decide) ?_
    refine W.widen (k := 0) (n := 0) (by decide) (by decide) ?_
    exact W.iret (v := 0) hx hb hr (fun t ht hW => ⟨⟨0, (), rfl, rfl, cB.of (hP.sub [] rfl) (hD.sub [] (by decide) rfl) (hK.sub [] rfl) ht hW⟩, hS.F ht⟩) hS.2.2 d_Mo_feed_51
set_option maxHeartbeats 4000000 in
set_option maxRecDepth 100000 in
theorem c_Mo_formatted (l : Launch) (dC : Nat → ClassId) (dI : Nat → Nat → Nat) (h0 a0 a1 a2 a3 a4 a5 a6 a7 a8 a9 : Nat) (cA : ClassId) (sz : Nat) : Met l y_Mo_formatted (Cond.code y_Mo_formatted b_Mo_formatted 1 (some .boolean) :: gw) ({ frames := 0, cells := 0, slots := 0, locals := 0 }) (cP (dC, dI) [.ref h0] sz [(h0, .inr (5, [.int 0, .ref a0, .int (-1), .int 0, .int 0, .ref a1, .ref a2, .ref a3, .int 0, .int 0, .ref a4, .int 0, .ref a5, .int 0, .int 0, .int 0, .int 0, .int 0, .int 0, .ref a6, .int 0, .ref a7, .int 0, .ref a8, .ref a9])), (a0, .inl (cA, 512, .inl (fun _ => 0)))] [(cA, .int)] xT) (va_Qi (fun (r : Int32) (u : Unit) => r = 0) (fun (u : Unit) t => cB (dC, dI) (va_A [(h0, .inr (5, [.int 0, .ref a0, .int (-1), .int 0, .int 0, .ref a1, .ref a2, .ref a3, .int 0, .int 0, .ref a4, .int 0, .ref a5, .int 0, .int 0, .int 0, .int 0, .int 0, .int 0, .ref a6, .int 0, .ref a7, .int 0, .ref a8, .ref a9])), (a0, .inl (cA, 512, .inl (fun _ => 0)))] sz) [(h0, .inr (5, [.int 0, .ref a0, .int (-1), .int 0, .int 0, .ref a1, .ref a2, .ref a3, .int 0, .int 0, .ref a4, .int 0, .ref a5, .int 0, .int 0, .int 0, .int 0, .int 0, .int 0, .ref a6, .int 0, .ref a7, .int 0, .ref a8, .ref a9])), (a0, .inl (cA, 512, .inl (fun _ => 0)))] [(cA, .int)] t) (va_A [(h0, .inr (5, [.int 0, .ref a0, .int (-1), .int 0, .int 0, .ref a1, .ref a2, .ref a3, .int 0, .int 0, .ref a4, .int 0, .ref a5, .int 0, .int 0, .int 0, .int 0, .int 0, .int 0, .ref a6, .int 0, .ref a7, .int 0, .ref a8, .ref a9])), (a0, .inl (cA, 512, .inl (fun _ => 0)))] sz)) 0 0 (va_A [(h0, .inr (5, [.int 0, .ref a0, .int (-1), .int 0, .int 0, .ref a1, .ref a2, .ref a3, .int 0, .int 0, .ref a4, .int 0, .ref a5, .int 0, .int 0, .int 0, .int 0, .int 0, .int 0, .ref a6, .int 0, .ref a7, .int 0, .ref a8, .ref a9])), (a0, .inl (cA, 512, .inl (fun _ => 0)))] sz) := by
  refine Met.ofW (cc := b_Mo_formatted) (maxL := 1) (ret := (some .boolean)) (by decide) rfl ?_
  intro p e s m args below meth c s₁ B hml hv
  obtain ⟨rfl, hsz, hP, hK, hD0, hkw, hX⟩ := hv
  have hx := B.exec
  have hb := B.bytes
  have hr := B.returns
  have hts := fun w hw => atoms_spec (ws := Cond.code y_Mo_formatted b_Mo_formatted 1 (some .boolean) :: gw) B.pre w (List.mem_cons_of_mem _ hw)
  have hown : s.vm.findClass "LineDiskModel" = some m.cls := findClass_of_methodNamed B.named
  have hlocks := B.notSynchronized
  have hin := (name_of_methodNamed B.named B.method).1
  subst hsz
  have hD := hD0.self (sz := s.heap.size)
  generalize hAe : va_A [(h0, .inr (5, [.int 0, .ref a0, .int (-1), .int 0, .int 0, .ref a1, .ref a2, .ref a3, .int 0, .int 0, .ref a4, .int 0, .ref a5, .int 0, .int 0, .int 0, .int 0, .int 0, .int 0, .ref a6, .int 0, .ref a7, .int 0, .ref a8, .ref a9])), (a0, .inl (cA, 512, .inl (fun _ => 0)))] s.heap.size = A at hD ⊢
  have hA : ∀ q : Nat, s.heap.size ≤ q → A q := fun q h => by rw [← hAe]; exact Or.inr h
  have hS : va_S A s.heap s.heap [] := va_S.rf
  have hl := lv_entry ([.ref h0]) (n := 1) (Nat.le_of_ble_eq_true rfl)
  rw [lg_entry_eq]
  generalize (lg_sl ([.ref h0]) ++ List.replicate (1 - (lg_sl ([.ref h0])).length) Slot.unset).toArray = ls at hl ⊢
  have hl : lv_has ls 1 [(0, .ref h0)] := hl
  have F : CallFix p m c b_Mo_formatted 1 s ([.ref h0]).toArray gw "LineDiskModel" := ⟨hx, hb, hml, hown, hts⟩
  refine lv_aload_n hx hb d_Mo_formatted_0 rfl (lv_at hl 0 rfl) ?_
  refine va_get (D := (dC, dI)) (ci := 5) (v := .ref a0) (C := R_Mo) (T := F_Mo) (N := 25) hx hb hts in_Mo hown hK hP 0 rfl rfl 1 (by decide) (hts _ w_594) (fun _ h9 => h9) rfl d_Mo_formatted_1 ?_
  refine lv_iconst (v := 0) hx hb d_Mo_formatted_4 (by decide) ?_
  refine va_iald hx hb hK hP 1 0 rfl rfl (vp_in_iff.mpr (by decide)) d_Mo_formatted_5 ?_
  refine tv (x2 := 0) (by exact rfl) ?_
  refine lv_sipush (v := 7077) hx hb d_Mo_formatted_6 (by decide) ?_
  refine lv_icmp_ne (tgt := 16) hx hb d_Mo_formatted_9 (by decide) (fun _ => ?_) (fun h => absurd h (by decide))
  refine lv_iconst (v := 0) hx hb d_Mo_formatted_16 (by decide) ?_
  refine W.widen (k := 0) (n := 0) (by decide) (by decide) ?_
  exact W.zret (v := 0) hx hb hr rfl (fun t ht hW => ⟨⟨0, (), rfl, rfl, cB.of (hP.sub [0, 1] rfl) (hD.sub [0, 1] (by decide) rfl) (hK.sub [0] rfl) ht hW⟩, hS.F ht⟩) hS.2.2 d_Mo_formatted_17
set_option maxHeartbeats 4000000 in
set_option maxRecDepth 100000 in
theorem c_Mo_sizeOf (l : Launch) (dC : Nat → ClassId) (dI : Nat → Nat → Nat) (h0 a0 a1 a2 a3 a4 a5 a6 a7 a8 a9 : Nat) (cA : ClassId) (x : Int32) (hin0 : vp_in (16 + 2 * x) 512) (sz : Nat) : Met l y_Mo_sizeOf (Cond.code y_Mo_sizeOf b_Mo_sizeOf 2 (some .int) :: gw) ({ frames := 0, cells := 0, slots := 0, locals := 0 }) (cP (dC, dI) [.ref h0, .int x] sz [(h0, .inr (5, [.int 0, .ref a0, .int (-1), .int 0, .int 0, .ref a1, .ref a2, .ref a3, .int 0, .int 0, .ref a4, .int 0, .ref a5, .int 0, .int 0, .int 0, .int 0, .int 0, .int 0, .ref a6, .int 0, .ref a7, .int 0, .ref a8, .ref a9])), (a0, .inl (cA, 512, .inl (fun _ => 0)))] [(cA, .int)] xT) (va_Qi (fun (r : Int32) (u : Unit) => r = 0) (fun (u : Unit) t => cB (dC, dI) (va_A [(h0, .inr (5, [.int 0, .ref a0, .int (-1), .int 0, .int 0, .ref a1, .ref a2, .ref a3, .int 0, .int 0, .ref a4, .int 0, .ref a5, .int 0, .int 0, .int 0, .int 0, .int 0, .int 0, .ref a6, .int 0, .ref a7, .int 0, .ref a8, .ref a9])), (a0, .inl (cA, 512, .inl (fun _ => 0)))] sz) [(h0, .inr (5, [.int 0, .ref a0, .int (-1), .int 0, .int 0, .ref a1, .ref a2, .ref a3, .int 0, .int 0, .ref a4, .int 0, .ref a5, .int 0, .int 0, .int 0, .int 0, .int 0, .int 0, .ref a6, .int 0, .ref a7, .int 0, .ref a8, .ref a9])), (a0, .inl (cA, 512, .inl (fun _ => 0)))] [(cA, .int)] t) (va_A [(h0, .inr (5, [.int 0, .ref a0, .int (-1), .int 0, .int 0, .ref a1, .ref a2, .ref a3, .int 0, .int 0, .ref a4, .int 0, .ref a5, .int 0, .int 0, .int 0, .int 0, .int 0, .int 0, .ref a6, .int 0, .ref a7, .int 0, .ref a8, .ref a9])), (a0, .inl (cA, 512, .inl (fun _ => 0)))] sz)) 0 0 (va_A [(h0, .inr (5, [.int 0, .ref a0, .int (-1), .int 0, .int 0, .ref a1, .ref a2, .ref a3, .int 0, .int 0, .ref a4, .int 0, .ref a5, .int 0, .int 0, .int 0, .int 0, .int 0, .int 0, .ref a6, .int 0, .ref a7, .int 0, .ref a8, .ref a9])), (a0, .inl (cA, 512, .inl (fun _ => 0)))] sz) := by
  refine Met.ofW (cc := b_Mo_sizeOf) (maxL := 2) (ret := (some .int)) (by decide) rfl ?_
  intro p e s m args below meth c s₁ B hml hv
  obtain ⟨rfl, hsz, hP, hK, hD0, hkw, hX⟩ := hv
  have hx := B.exec
  have hb := B.bytes
  have hr := B.returns
  have hts := fun w hw => atoms_spec (ws := Cond.code y_Mo_sizeOf b_Mo_sizeOf 2 (some .int) :: gw) B.pre w (List.mem_cons_of_mem _ hw)
  have hown : s.vm.findClass "LineDiskModel" = some m.cls := findClass_of_methodNamed B.named
  have hlocks := B.notSynchronized
  have hin := (name_of_methodNamed B.named B.method).1
  subst hsz
  have hD := hD0.self (sz := s.heap.size)
  generalize hAe : va_A [(h0, .inr (5, [.int 0, .ref a0, .int (-1), .int 0, .int 0, .ref a1, .ref a2, .ref a3, .int 0, .int 0, .ref a4, .int 0, .ref a5, .int 0, .int 0, .int 0, .int 0, .int 0, .int 0, .ref a6, .int 0, .ref a7, .int 0, .ref a8, .ref a9])), (a0, .inl (cA, 512, .inl (fun _ => 0)))] s.heap.size = A at hD ⊢
  have hA : ∀ q : Nat, s.heap.size ≤ q → A q := fun q h => by rw [← hAe]; exact Or.inr h
  have hS : va_S A s.heap s.heap [] := va_S.rf
  have hl := lv_entry ([.ref h0, .int x]) (n := 2) (Nat.le_of_ble_eq_true rfl)
  rw [lg_entry_eq]
  generalize (lg_sl ([.ref h0, .int x]) ++ List.replicate (2 - (lg_sl ([.ref h0, .int x])).length) Slot.unset).toArray = ls at hl ⊢
  have hl : lv_has ls 2 [(0, .ref h0), (1, .int x)] := hl
  have F : CallFix p m c b_Mo_sizeOf 2 s ([.ref h0, .int x]).toArray gw "LineDiskModel" := ⟨hx, hb, hml, hown, hts⟩
  refine lv_aload_n hx hb d_Mo_sizeOf_0 rfl (lv_at hl 0 rfl) ?_
  refine va_get (D := (dC, dI)) (ci := 5) (v := .ref a0) (C := R_Mo) (T := F_Mo) (N := 25) hx hb hts in_Mo hown hK hP 0 rfl rfl 1 (by decide) (hts _ w_594) (fun _ h9 => h9) rfl d_Mo_sizeOf_1 ?_
  refine lv_bipush (v := 16) hx hb d_Mo_sizeOf_4 (by decide) ?_
  refine lv_iconst (v := 2) hx hb d_Mo_sizeOf_6 (by decide) ?_
  refine lv_iload_n hx hb d_Mo_sizeOf_7 rfl (lv_at hl 1 rfl) ?_
  refine lv_imul hx hb d_Mo_sizeOf_8 ?_
  refine lv_iadd hx hb d_Mo_sizeOf_9 ?_
  refine va_iald hx hb hK hP 1 0 rfl rfl (hin0) d_Mo_sizeOf_10 ?_
  refine tv (x2 := 0) (by exact rfl) ?_
  refine W.widen (k := 0) (n := 0) (by decide) (by decide) ?_
  exact W.iret (v := 0) hx hb hr (fun t ht hW => ⟨⟨0, (), rfl, rfl, cB.of (hP.sub [0, 1] rfl) (hD.sub [0, 1] (by decide) rfl) (hK.sub [0] rfl) ht hW⟩, hS.F ht⟩) hS.2.2 d_Mo_sizeOf_11
set_option maxHeartbeats 4000000 in
set_option maxRecDepth 100000 in
theorem c_Mo_files (l : Launch) (dC : Nat → ClassId) (dI : Nat → Nat → Nat) (h0 a0 a1 a2 a3 a4 a5 a6 a7 a8 a9 : Nat) (cA : ClassId) (sz : Nat) : Met l y_Mo_files (Cond.code y_Mo_files b_Mo_files 3 (some .int) :: gw) ({ frames := 1, cells := 0, slots := 0, locals := 21 }) (cP (dC, dI) [.ref h0] sz [(h0, .inr (5, [.int 0, .ref a0, .int (-1), .int 0, .int 0, .ref a1, .ref a2, .ref a3, .int 0, .int 0, .ref a4, .int 0, .ref a5, .int 0, .int 0, .int 0, .int 0, .int 0, .int 0, .ref a6, .int 0, .ref a7, .int 0, .ref a8, .ref a9])), (a0, .inl (cA, 512, .inl (fun _ => 0)))] [(cA, .int)] xT) (va_Qi (fun (r : Int32) (u : Unit) => r = 8) (fun (u : Unit) t => cB (dC, dI) (va_A [(h0, .inr (5, [.int 0, .ref a0, .int (-1), .int 0, .int 0, .ref a1, .ref a2, .ref a3, .int 0, .int 0, .ref a4, .int 0, .ref a5, .int 0, .int 0, .int 0, .int 0, .int 0, .int 0, .ref a6, .int 0, .ref a7, .int 0, .ref a8, .ref a9])), (a0, .inl (cA, 512, .inl (fun _ => 0)))] sz) [] [] t) (va_A [(h0, .inr (5, [.int 0, .ref a0, .int (-1), .int 0, .int 0, .ref a1, .ref a2, .ref a3, .int 0, .int 0, .ref a4, .int 0, .ref a5, .int 0, .int 0, .int 0, .int 0, .int 0, .int 0, .ref a6, .int 0, .ref a7, .int 0, .ref a8, .ref a9])), (a0, .inl (cA, 512, .inl (fun _ => 0)))] sz)) 0 0 (va_A [(h0, .inr (5, [.int 0, .ref a0, .int (-1), .int 0, .int 0, .ref a1, .ref a2, .ref a3, .int 0, .int 0, .ref a4, .int 0, .ref a5, .int 0, .int 0, .int 0, .int 0, .int 0, .int 0, .ref a6, .int 0, .ref a7, .int 0, .ref a8, .ref a9])), (a0, .inl (cA, 512, .inl (fun _ => 0)))] sz) := by
  refine Met.ofW (cc := b_Mo_files) (maxL := 3) (ret := (some .int)) (by decide) rfl ?_
  intro p e s m args below meth c s₁ B hml hv
  obtain ⟨rfl, hsz, hP, hK, hD0, hkw, hX⟩ := hv
  have hx := B.exec
  have hb := B.bytes
  have hr := B.returns
  have hts := fun w hw => atoms_spec (ws := Cond.code y_Mo_files b_Mo_files 3 (some .int) :: gw) B.pre w (List.mem_cons_of_mem _ hw)
  have hown : s.vm.findClass "LineDiskModel" = some m.cls := findClass_of_methodNamed B.named
  have hlocks := B.notSynchronized
  have hin := (name_of_methodNamed B.named B.method).1
  subst hsz
  have hD := hD0.self (sz := s.heap.size)
  generalize hAe : va_A [(h0, .inr (5, [.int 0, .ref a0, .int (-1), .int 0, .int 0, .ref a1, .ref a2, .ref a3, .int 0, .int 0, .ref a4, .int 0, .ref a5, .int 0, .int 0, .int 0, .int 0, .int 0, .int 0, .ref a6, .int 0, .ref a7, .int 0, .ref a8, .ref a9])), (a0, .inl (cA, 512, .inl (fun _ => 0)))] s.heap.size = A at hD ⊢
  have hA : ∀ q : Nat, s.heap.size ≤ q → A q := fun q h => by rw [← hAe]; exact Or.inr h
  have hS : va_S A s.heap s.heap [] := va_S.rf
  have hl := lv_entry ([.ref h0]) (n := 3) (Nat.le_of_ble_eq_true rfl)
  rw [lg_entry_eq]
  generalize (lg_sl ([.ref h0]) ++ List.replicate (3 - (lg_sl ([.ref h0])).length) Slot.unset).toArray = ls at hl ⊢
  have hl : lv_has ls 3 [(0, .ref h0)] := hl
  have F : CallFix p m c b_Mo_files 3 s ([.ref h0]).toArray gw "LineDiskModel" := ⟨hx, hb, hml, hown, hts⟩
  refine lv_aload_n hx hb d_Mo_files_0 rfl (lv_at hl 0 rfl) ?_
  refine lv_iconst (v := 0) hx hb d_Mo_files_1 (by decide) ?_
  refine va_put (D := (dC, dI)) (ci := 5) (v := .int 0) (ty := .int) (C := R_Mo) (T := F_Mo) (N := 25) hx hb hts in_Mo t_Mo t_Mo_ok n_Mo hown hK hP hD hS 0 rfl rfl 0 (by decide) (hts _ w_593) (fun _ h9 => h9) rfl (by decide +kernel) (rfl) (rfl) (Nat.le_of_ble_eq_true rfl) d_Mo_files_2 (fun H locs hP hD hS => ?_)
  have hP : va_P (dC, dI) cls [(h0, .inr (5, [.int 0, .ref a0, .int (-1), .int 0, .int 0, .ref a1, .ref a2, .ref a3, .int 0, .int 0, .ref a4, .int 0, .ref a5, .int 0, .int 0, .int 0, .int 0, .int 0, .int 0, .ref a6, .int 0, .ref a7, .int 0, .ref a8, .ref a9])), (a0, .inl (cA, 512, .inl (fun _ => 0)))] H := hP
  have hD : va_D A [(h0, .inr (5, [.int 0, .ref a0, .int (-1), .int 0, .int 0, .ref a1, .ref a2, .ref a3, .int 0, .int 0, .ref a4, .int 0, .ref a5, .int 0, .int 0, .int 0, .int 0, .int 0, .int 0, .ref a6, .int 0, .ref a7, .int 0, .ref a8, .ref a9])), (a0, .inl (cA, 512, .inl (fun _ => 0)))] := hD
  refine lv_aload_n hx hb d_Mo_files_5 rfl (lv_at hl 0 rfl) ?_
  refine va_get (D := (dC, dI)) (ci := 5) (v := .int 0) (C := R_Mo) (T := F_Mo) (N := 25) hx hb hts in_Mo hown hK hP 0 rfl rfl 3 (by decide) (hts _ w_596) (fun _ h9 => h9) rfl d_Mo_files_6 ?_
  refine lv_if_eq (tgt := 15) hx hb d_Mo_files_9 (by decide) (fun _ => ?_) (fun h => absurd (by decide) h)
  refine lv_iconst (v := 0) hx hb d_Mo_files_15 (by decide) ?_
  refine lv_istore_n (i := 1) hx hb d_Mo_files_16 rfl hl (by decide) rfl (fun ls hl => ?_)
  have hl : lv_has ls 3 [(1, .int 0), (0, .ref h0)] := hl
  refine lv_iconst (v := 0) hx hb d_Mo_files_17 (by decide) ?_
  refine lv_istore_n (i := 2) hx hb d_Mo_files_18 rfl hl (by decide) rfl (fun ls hl => ?_)
  have hl : lv_has ls 3 [(2, .int 0), (1, .int 0), (0, .ref h0)] := hl
  refine lv_iload_n hx hb d_Mo_files_19 rfl (lv_at hl 0 rfl) ?_
  refine lv_bipush (v := 8) hx hb d_Mo_files_20 (by decide) ?_
  refine lv_icmp_ge (tgt := 47) hx hb d_Mo_files_22 (by decide) (fun h => absurd h (by decide)) (fun _ => ?_)
  refine lv_iload_n hx hb d_Mo_files_25 rfl (lv_at hl 1 rfl) ?_
  refine lv_aload_n hx hb d_Mo_files_26 rfl (lv_at hl 2 rfl) ?_
  refine lv_iload_n hx hb d_Mo_files_27 rfl (lv_at hl 0 rfl) ?_
  refine go_i (wr := []) (tr := []) (rV (C := "LineDiskModel") (ci := 5) (q0 := 0) (b := h0) (n := 1) (As := [.int 0]) (rest := [.int 0]) F hkw (c_Mo_sizeOf l dC dI h0 a0 a1 a2 a3 a4 a5 a6 a7 a8 a9 cA 0 (vp_in_iff.mpr (by decide)) H.size) xT_bl (fun _ _ _ => trivial) w_758 w_760 ws_50 w_6 w_761 rfl rfl (by decide +kernel) ⟨Nat.le_of_ble_eq_true rfl, Nat.le_of_ble_eq_true rfl⟩ (hP.sub (ws' := [(h0, .inr (5, [.int 0, .ref a0, .int (-1), .int 0, .int 0, .ref a1, .ref a2, .ref a3, .int 0, .int 0, .ref a4, .int 0, .ref a5, .int 0, .int 0, .int 0, .int 0, .int 0, .int 0, .ref a6, .int 0, .ref a7, .int 0, .ref a8, .ref a9])), (a0, .inl (cA, 512, .inl (fun _ => 0)))]) [0, 1] rfl) (hD.sub (ws' := [(h0, .inr (5, [.int 0, .ref a0, .int (-1), .int 0, .int 0, .ref a1, .ref a2, .ref a3, .int 0, .int 0, .ref a4, .int 0, .ref a5, .int 0, .int 0, .int 0, .int 0, .int 0, .int 0, .ref a6, .int 0, .ref a7, .int 0, .ref a8, .ref a9])), (a0, .inl (cA, 512, .inl (fun _ => 0)))]) [0, 1] (by decide) rfl) (hK.sub (tys' := [(cA, .int)]) [0] rfl) rfl rfl rfl rfl hl.1 rfl (Nat.le_of_ble_eq_true rfl) d_Mo_files_28 ⟨by decide, by decide⟩) hP hD hK hS hA [0, 1] [] [] rfl rfl (by decide) (by decide) rfl (fun r u H locs hw hP hD hK hS => ?_)
  have hP : va_P (dC, dI) cls [(h0, .inr (5, [.int 0, .ref a0, .int (-1), .int 0, .int 0, .ref a1, .ref a2, .ref a3, .int 0, .int 0, .ref a4, .int 0, .ref a5, .int 0, .int 0, .int 0, .int 0, .int 0, .int 0, .ref a6, .int 0, .ref a7, .int 0, .ref a8, .ref a9])), (a0, .inl (cA, 512, .inl (fun _ => 0)))] H := hP
  have hD : va_D A [(h0, .inr (5, [.int 0, .ref a0, .int (-1), .int 0, .int 0, .ref a1, .ref a2, .ref a3, .int 0, .int 0, .ref a4, .int 0, .ref a5, .int 0, .int 0, .int 0, .int 0, .int 0, .int 0, .ref a6, .int 0, .ref a7, .int 0, .ref a8, .ref a9])), (a0, .inl (cA, 512, .inl (fun _ => 0)))] := hD
  have hK : va_K (dC, dI) cls [(cA, .int)] s := hK
  refine W.widen (k := 0) (n := 0) (by omega) (by omega) ?_
  subst hw
  refine lv_if_eq (tgt := 38) hx hb d_Mo_files_31 (by decide) (fun _ => ?_) (fun h => absurd (by decide) h)
  refine lv_iconst (v := 0) hx hb d_Mo_files_38 (by decide) ?_
  refine lv_iadd hx hb d_Mo_files_39 ?_
  refine tv (x2 := 0) (by decide) ?_
  refine lv_istore_n (i := 1) hx hb d_Mo_files_40 rfl hl (by decide) rfl (fun ls hl => ?_)
  have hl : lv_has ls 3 [(1, .int 0), (2, .int 0), (0, .ref h0)] := hl
  refine lv_iinc (k := 1) (v := 1) hx hb d_Mo_files_41 hl rfl (by decide) (by decide) rfl (fun ls hl => ?_)
  have hl : lv_has ls 3 [(2, .int 1), (1, .int 0), (0, .ref h0)] := hl
  refine lv_goto (tgt := 19) hx hb d_Mo_files_44 (by decide) ?_
  refine lv_iload_n hx hb d_Mo_files_19 rfl (lv_at hl 0 rfl) ?_
  refine lv_bipush (v := 8) hx hb d_Mo_files_20 (by decide) ?_
  refine lv_icmp_ge (tgt := 47) hx hb d_Mo_files_22 (by decide) (fun h => absurd h (by decide)) (fun _ => ?_)
  refine lv_iload_n hx hb d_Mo_files_25 rfl (lv_at hl 1 rfl) ?_
  refine lv_aload_n hx hb d_Mo_files_26 rfl (lv_at hl 2 rfl) ?_
  refine lv_iload_n hx hb d_Mo_files_27 rfl (lv_at hl 0 rfl) ?_
  refine go_i (wr := []) (tr := []) (rV (C := "LineDiskModel") (ci := 5) (q0 := 0) (b := h0) (n := 1) (As := [.int 1]) (rest := [.int 0]) F hkw (c_Mo_sizeOf l dC dI h0 a0 a1 a2 a3 a4 a5 a6 a7 a8 a9 cA 1 (vp_in_iff.mpr (by decide)) H.size) xT_bl (fun _ _ _ => trivial) w_758 w_760 ws_50 w_6 w_761 rfl rfl (by decide +kernel) ⟨Nat.le_of_ble_eq_true rfl, Nat.le_of_ble_eq_true rfl⟩ (hP.sub (ws' := [(h0, .inr (5, [.int 0, .ref a0, .int (-1), .int 0, .int 0, .ref a1, .ref a2, .ref a3, .int 0, .int 0, .ref a4, .int 0, .ref a5, .int 0, .int 0, .int 0, .int 0, .int 0, .int 0, .ref a6, .int 0, .ref a7, .int 0, .ref a8, .ref a9])), (a0, .inl (cA, 512, .inl (fun _ => 0)))]) [0, 1] rfl) (hD.sub (ws' := [(h0, .inr (5, [.int 0, .ref a0, .int (-1), .int 0, .int 0, .ref a1, .ref a2, .ref a3, .int 0, .int 0, .ref a4, .int 0, .ref a5, .int 0, .int 0, .int 0, .int 0, .int 0, .int 0, .ref a6, .int 0, .ref a7, .int 0, .ref a8, .ref a9])), (a0, .inl (cA, 512, .inl (fun _ => 0)))]) [0, 1] (by decide) rfl) (hK.sub (tys' := [(cA, .int)]) [0] rfl) rfl rfl rfl rfl hl.1 rfl (Nat.le_of_ble_eq_true rfl) d_Mo_files_28 ⟨by decide, by decide⟩) hP hD hK hS hA [0, 1] [] [] rfl rfl (by decide) (by decide) rfl (fun r u H locs hw hP hD hK hS => ?_)
  have hP : va_P (dC, dI) cls [(h0, .inr (5, [.int 0, .ref a0, .int (-1), .int 0, .int 0, .ref a1, .ref a2, .ref a3, .int 0, .int 0, .ref a4, .int 0, .ref a5, .int 0, .int 0, .int 0, .int 0, .int 0, .int 0, .ref a6, .int 0, .ref a7, .int 0, .ref a8, .ref a9])), (a0, .inl (cA, 512, .inl (fun _ => 0)))] H := hP
  have hD : va_D A [(h0, .inr (5, [.int 0, .ref a0, .int (-1), .int 0, .int 0, .ref a1, .ref a2, .ref a3, .int 0, .int 0, .ref a4, .int 0, .ref a5, .int 0, .int 0, .int 0, .int 0, .int 0, .int 0, .ref a6, .int 0, .ref a7, .int 0, .ref a8, .ref a9])), (a0, .inl (cA, 512, .inl (fun _ => 0)))] := hD
  have hK : va_K (dC, dI) cls [(cA, .int)] s := hK
  refine W.widen (k := 0) (n := 0) (by omega) (by omega) ?_
  subst hw
  refine lv_if_eq (tgt := 38) hx hb d_Mo_files_31 (by decide) (fun _ => ?_) (fun h => absurd (by decide) h)
  refine lv_iconst (v := 0) hx hb d_Mo_files_38 (by decide) ?_
  refine lv_iadd hx hb d_Mo_files_39 ?_
  refine tv (x2 := 0) (by decide) ?_
  refine lv_istore_n (i := 1) hx hb d_Mo_files_40 rfl hl (by decide) rfl (fun ls hl => ?_)
  have hl : lv_has ls 3 [(1, .int 0), (2, .int 1), (0, .ref h0)] := hl
  refine lv_iinc (k := 1) (v := 2) hx hb d_Mo_files_41 hl rfl (by decide) (by decide) rfl (fun ls hl => ?_)
  have hl : lv_has ls 3 [(2, .int 2), (1, .int 0), (0, .ref h0)] := hl
  refine lv_goto (tgt := 19) hx hb d_Mo_files_44 (by decide) ?_
  refine lv_iload_n hx hb d_Mo_files_19 rfl (lv_at hl 0 rfl) ?_
  refine lv_bipush (v := 8) hx hb d_Mo_files_20 (by decide) ?_
  refine lv_icmp_ge (tgt := 47) hx hb d_Mo_files_22 (by decide) (fun h => absurd h (by decide)) (fun _ => ?_)
  refine lv_iload_n hx hb d_Mo_files_25 rfl (lv_at hl 1 rfl) ?_
  refine lv_aload_n hx hb d_Mo_files_26 rfl (lv_at hl 2 rfl) ?_
  refine lv_iload_n hx hb d_Mo_files_27 rfl (lv_at hl 0 rfl) ?_
  refine go_i (wr := []) (tr := []) (rV (C := "LineDiskModel") (ci := 5) (q0 := 0) (b := h0) (n := 1) (As := [.int 2]) (rest := [.int 0]) F hkw (c_Mo_sizeOf l dC dI h0 a0 a1 a2 a3 a4 a5 a6 a7 a8 a9 cA 2 (vp_in_iff.mpr (by decide)) H.size) xT_bl (fun _ _ _ => trivial) w_758 w_760 ws_50 w_6 w_761 rfl rfl (by decide +kernel) ⟨Nat.le_of_ble_eq_true rfl, Nat.le_of_ble_eq_true rfl⟩ (hP.sub (ws' := [(h0, .inr (5, [.int 0, .ref a0, .int (-1), .int 0, .int 0, .ref a1, .ref a2, .ref a3, .int 0, .int 0, .ref a4, .int 0, .ref a5, .int 0, .int 0, .int 0, .int 0, .int 0, .int 0, .ref a6, .int 0, .ref a7, .int 0, .ref a8, .ref a9])), (a0, .inl (cA, 512, .inl (fun _ => 0)))]) [0, 1] rfl) (hD.sub (ws' := [(h0, .inr (5, [.int 0, .ref a0, .int (-1), .int 0, .int 0, .ref a1, .ref a2, .ref a3, .int 0, .int 0, .ref a4, .int 0, .ref a5, .int 0, .int 0, .int 0, .int 0, .int 0, .int 0, .ref a6, .int 0, .ref a7, .int 0, .ref a8, .ref a9])), (a0, .inl (cA, 512, .inl (fun _ => 0)))]) [0, 1] (by decide) rfl) (hK.sub (tys' := [(cA, .int)]) [0] rfl) rfl rfl rfl rfl hl.1 rfl (Nat.le_of_ble_eq_true rfl) d_Mo_files_28 ⟨by decide, by decide⟩) hP hD hK hS hA [0, 1] [] [] rfl rfl (by decide) (by decide) rfl (fun r u H locs hw hP hD hK hS => ?_)
  have hP : va_P (dC, dI) cls [(h0, .inr (5, [.int 0, .ref a0, .int (-1), .int 0, .int 0, .ref a1, .ref a2, .ref a3, .int 0, .int 0, .ref a4, .int 0, .ref a5, .int 0, .int 0, .int 0, .int 0, .int 0, .int 0, .ref a6, .int 0, .ref a7, .int 0, .ref a8, .ref a9])), (a0, .inl (cA, 512, .inl (fun _ => 0)))] H := hP
  have hD : va_D A [(h0, .inr (5, [.int 0, .ref a0, .int (-1), .int 0, .int 0, .ref a1, .ref a2, .ref a3, .int 0, .int 0, .ref a4, .int 0, .ref a5, .int 0, .int 0, .int 0, .int 0, .int 0, .int 0, .ref a6, .int 0, .ref a7, .int 0, .ref a8, .ref a9])), (a0, .inl (cA, 512, .inl (fun _ => 0)))] := hD
  have hK : va_K (dC, dI) cls [(cA, .int)] s := hK
  refine W.widen (k := 0) (n := 0) (by omega) (by omega) ?_
  subst hw
  refine lv_if_eq (tgt := 38) hx hb d_Mo_files_31 (by decide) (fun _ => ?_) (fun h => absurd (by decide) h)
  refine lv_iconst (v := 0) hx hb d_Mo_files_38 (by decide) ?_
  refine lv_iadd hx hb d_Mo_files_39 ?_
  refine tv (x2 := 0) (by decide) ?_
  refine lv_istore_n (i := 1) hx hb d_Mo_files_40 rfl hl (by decide) rfl (fun ls hl => ?_)
  have hl : lv_has ls 3 [(1, .int 0), (2, .int 2), (0, .ref h0)] := hl
  refine lv_iinc (k := 1) (v := 3) hx hb d_Mo_files_41 hl rfl (by decide) (by decide) rfl (fun ls hl => ?_)
  have hl : lv_has ls 3 [(2, .int 3), (1, .int 0), (0, .ref h0)] := hl
  refine lv_goto (tgt := 19) hx hb d_Mo_files_44 (by decide) ?_
  refine lv_iload_n hx hb d_Mo_files_19 rfl (lv_at hl 0 rfl) ?_
  refine lv_bipush (v := 8) hx hb d_Mo_files_20 (by decide) ?_
  refine lv_icmp_ge (tgt := 47) hx hb d_Mo_files_22 (by decide) (fun h => absurd h (by decide)) (fun _ => ?_)
  refine lv_iload_n hx hb d_Mo_files_25 rfl (lv_at hl 1 rfl) ?_
  refine lv_aload_n hx hb d_Mo_files_26 rfl (lv_at hl 2 rfl) ?_
  refine lv_iload_n hx hb d_Mo_files_27 rfl (lv_at hl 0 rfl) ?_
  refine go_i (wr := []) (tr := []) (rV (C := "LineDiskModel") (ci := 5) (q0 := 0) (b := h0) (n := 1) (As := [.int 3]) (rest := [.int 0]) F hkw (c_Mo_sizeOf l dC dI h0 a0 a1 a2 a3 a4 a5 a6 a7 a8 a9 cA 3 (vp_in_iff.mpr (by decide)) H.size) xT_bl (fun _ _ _ => trivial) w_758 w_760 ws_50 w_6 w_761 rfl rfl (by decide +kernel) ⟨Nat.le_of_ble_eq_true rfl, Nat.le_of_ble_eq_true rfl⟩ (hP.sub (ws' := [(h0, .inr (5, [.int 0, .ref a0, .int (-1), .int 0, .int 0, .ref a1, .ref a2, .ref a3, .int 0, .int 0, .ref a4, .int 0, .ref a5, .int 0, .int 0, .int 0, .int 0, .int 0, .int 0, .ref a6, .int 0, .ref a7, .int 0, .ref a8, .ref a9])), (a0, .inl (cA, 512, .inl (fun _ => 0)))]) [0, 1] rfl) (hD.sub (ws' := [(h0, .inr (5, [.int 0, .ref a0, .int (-1), .int 0, .int 0, .ref a1, .ref a2, .ref a3, .int 0, .int 0, .ref a4, .int 0, .ref a5, .int 0, .int 0, .int 0, .int 0, .int 0, .int 0, .ref a6, .int 0, .ref a7, .int 0, .ref a8, .ref a9])), (a0, .inl (cA, 512, .inl (fun _ => 0)))]) [0, 1] (by decide) rfl) (hK.sub (tys' := [(cA, .int)]) [0] rfl) rfl rfl rfl rfl hl.1 rfl (Nat.le_of_ble_eq_true rfl) d_Mo_files_28 ⟨by decide, by decide⟩) hP hD hK hS hA [0, 1] [] [] rfl rfl (by decide) (by decide) rfl (fun r u H locs hw hP hD hK hS => ?_)
  have hP : va_P (dC, dI) cls [(h0, .inr (5, [.int 0, .ref a0, .int (-1), .int 0, .int 0, .ref a1, .ref a2, .ref a3, .int 0, .int 0, .ref a4, .int 0, .ref a5, .int 0, .int 0, .int 0, .int 0, .int 0, .int 0, .ref a6, .int 0, .ref a7, .int 0, .ref a8, .ref a9])), (a0, .inl (cA, 512, .inl (fun _ => 0)))] H := hP
  have hD : va_D A [(h0, .inr (5, [.int 0, .ref a0, .int (-1), .int 0, .int 0, .ref a1, .ref a2, .ref a3, .int 0, .int 0, .ref a4, .int 0, .ref a5, .int 0, .int 0, .int 0, .int 0, .int 0, .int 0, .ref a6, .int 0, .ref a7, .int 0, .ref a8, .ref a9])), (a0, .inl (cA, 512, .inl (fun _ => 0)))] := hD
  have hK : va_K (dC, dI) cls [(cA, .int)] s := hK
  refine W.widen (k := 0) (n := 0) (by omega) (by omega) ?_
  subst hw
  refine lv_if_eq (tgt := 38) hx hb d_Mo_files_31 (by decide) (fun _ => ?_) (fun h => absurd (by decide) h)
  refine lv_iconst (v := 0) hx hb d_Mo_files_38 (by decide) ?_
  refine lv_iadd hx hb d_Mo_files_39 ?_
  refine tv (x2 := 0) (by decide) ?_
  refine lv_istore_n (i := 1) hx hb d_Mo_files_40 rfl hl (by decide) rfl (fun ls hl => ?_)
  have hl : lv_has ls 3 [(1, .int 0), (2, .int 3), (0, .ref h0)] := hl
  refine lv_iinc (k := 1) (v := 4) hx hb d_Mo_files_41 hl rfl (by decide) (by decide) rfl (fun ls hl => ?_)
  have hl : lv_has ls 3 [(2, .int 4), (1, .int 0), (0, .ref h0)] := hl
  refine lv_goto (tgt := 19) hx hb d_Mo_files_44 (by decide) ?_
  refine lv_iload_n hx hb d_Mo_files_19 rfl (lv_at hl 0 rfl) ?_
  refine lv_bipush (v := 8) hx hb d_Mo_files_20 (by decide) ?_
  refine lv_icmp_ge (tgt := 47) hx hb d_Mo_files_22 (by decide) (fun h => absurd h (by decide)) (fun _ => ?_)
  refine lv_iload_n hx hb d_Mo_files_25 rfl (lv_at hl 1 rfl) ?_
  refine lv_aload_n hx hb d_Mo_files_26 rfl (lv_at hl 2 rfl) ?_
  refine lv_iload_n hx hb d_Mo_files_27 rfl (lv_at hl 0 rfl) ?_
  refine go_i (wr := []) (tr := []) (rV (C := "LineDiskModel") (ci := 5) (q0 := 0) (b := h0) (n := 1) (As := [.int 4]) (rest := [.int 0]) F hkw (c_Mo_sizeOf l dC dI h0 a0 a1 a2 a3 a4 a5 a6 a7 a8 a9 cA 4 (vp_in_iff.mpr (by decide)) H.size) xT_bl (fun _ _ _ => trivial) w_758 w_760 ws_50 w_6 w_761 rfl rfl (by decide +kernel) ⟨Nat.le_of_ble_eq_true rfl, Nat.le_of_ble_eq_true rfl⟩ (hP.sub (ws' := [(h0, .inr (5, [.int 0, .ref a0, .int (-1), .int 0, .int 0, .ref a1, .ref a2, .ref a3, .int 0, .int 0, .ref a4, .int 0, .ref a5, .int 0, .int 0, .int 0, .int 0, .int 0, .int 0, .ref a6, .int 0, .ref a7, .int 0, .ref a8, .ref a9])), (a0, .inl (cA, 512, .inl (fun _ => 0)))]) [0, 1] rfl) (hD.sub (ws' := [(h0, .inr (5, [.int 0, .ref a0, .int (-1), .int 0, .int 0, .ref a1, .ref a2, .ref a3, .int 0, .int 0, .ref a4, .int 0, .ref a5, .int 0, .int 0, .int 0, .int 0, .int 0, .int 0, .ref a6, .int 0, .ref a7, .int 0, .ref a8, .ref a9])), (a0, .inl (cA, 512, .inl (fun _ => 0)))]) [0, 1] (by decide) rfl) (hK.sub (tys' := [(cA, .int)]) [0] rfl) rfl rfl rfl rfl hl.1 rfl (Nat.le_of_ble_eq_true rfl) d_Mo_files_28 ⟨by decide, by decide⟩) hP hD hK hS hA [0, 1] [] [] rfl rfl (by decide) (by decide) rfl (fun r u H locs hw hP hD hK hS => ?_)
  have hP : va_P (dC, dI) cls [(h0, .inr (5, [.int 0, .ref a0, .int (-1), .int 0, .int 0, .ref a1, .ref a2, .ref a3, .int 0, .int 0, .ref a4, .int 0, .ref a5, .int 0, .int 0, .int 0, .int 0, .int 0, .int 0, .ref a6, .int 0, .ref a7, .int 0, .ref a8, .ref a9])), (a0, .inl (cA, 512, .inl (fun _ => 0)))] H := hP
  have hD : va_D A [(h0, .inr (5, [.int 0, .ref a0, .int (-1), .int 0, .int 0, .ref a1, .ref a2, .ref a3, .int 0, .int 0, .ref a4, .int 0, .ref a5, .int 0, .int 0, .int 0, .int 0, .int 0, .int 0, .ref a6, .int 0, .ref a7, .int 0, .ref a8, .ref a9])), (a0, .inl (cA, 512, .inl (fun _ => 0)))] := hD
  have hK : va_K (dC, dI) cls [(cA, .int)] s := hK
  refine W.widen (k := 0) (n := 0) (by omega) (by omega) ?_
  subst hw
  refine lv_if_eq (tgt := 38) hx hb d_Mo_files_31 (by decide) (fun _ => ?_) (fun h => absurd (by decide) h)
  refine lv_iconst (v := 0) hx hb d_Mo_files_38 (by decide) ?_
  refine lv_iadd hx hb d_Mo_files_39 ?_
  refine tv (x2 := 0) (by decide) ?_
  refine lv_istore_n (i := 1) hx hb d_Mo_files_40 rfl hl (by decide) rfl (fun ls hl => ?_)
  have hl : lv_has ls 3 [(1, .int 0), (2, .int 4), (0, .ref h0)] := hl
  refine lv_iinc (k := 1) (v := 5) hx hb d_Mo_files_41 hl rfl (by decide) (by decide) rfl (fun ls hl => ?_)
  have hl : lv_has ls 3 [(2, .int 5), (1, .int 0), (0, .ref h0)] := hl
  refine lv_goto (tgt := 19) hx hb d_Mo_files_44 (by decide) ?_
  refine lv_iload_n hx hb d_Mo_files_19 rfl (lv_at hl 0 rfl) ?_
  refine lv_bipush (v := 8) hx hb d_Mo_files_20 (by decide) ?_
  refine lv_icmp_ge (tgt := 47) hx hb d_Mo_files_22 (by decide) (fun h => absurd h (by decide)) (fun _ => ?_)
  refine lv_iload_n hx hb d_Mo_files_25 rfl (lv_at hl 1 rfl) ?_
  refine lv_aload_n hx hb d_Mo_files_26 rfl (lv_at hl 2 rfl) ?_
  refine lv_iload_n hx hb d_Mo_files_27 rfl (lv_at hl 0 rfl) ?_
  refine go_i (wr := []) (tr := []) (rV (C := "LineDiskModel") (ci := 5) (q0 := 0) (b := h0) (n := 1) (As := [.int 5]) (rest := [.int 0]) F hkw (c_Mo_sizeOf l dC dI h0 a0 a1 a2 a3 a4 a5 a6 a7 a8 a9 cA 5 (vp_in_iff.mpr (by decide)) H.size) xT_bl (fun _ _ _ => trivial) w_758 w_760 ws_50 w_6 w_761 rfl rfl (by decide +kernel) ⟨Nat.le_of_ble_eq_true rfl, Nat.le_of_ble_eq_true rfl⟩ (hP.sub (ws' := [(h0, .inr (5, [.int 0, .ref a0, .int (-1), .int 0, .int 0, .ref a1, .ref a2, .ref a3, .int 0, .int 0, .ref a4, .int 0, .ref a5, .int 0, .int 0, .int 0, .int 0, .int 0, .int 0, .ref a6, .int 0, .ref a7, .int 0, .ref a8, .ref a9])), (a0, .inl (cA, 512, .inl (fun _ => 0)))]) [0, 1] rfl) (hD.sub (ws' := [(h0, .inr (5, [.int 0, .ref a0, .int (-1), .int 0, .int 0, .ref a1, .ref a2, .ref a3, .int 0, .int 0, .ref a4, .int 0, .ref a5, .int 0, .int 0, .int 0, .int 0, .int 0, .int 0, .ref a6, .int 0, .ref a7, .int 0, .ref a8, .ref a9])), (a0, .inl (cA, 512, .inl (fun _ => 0)))]) [0, 1] (by decide) rfl) (hK.sub (tys' := [(cA, .int)]) [0] rfl) rfl rfl rfl rfl hl.1 rfl (Nat.le_of_ble_eq_true rfl) d_Mo_files_28 ⟨by decide, by decide⟩) hP hD hK hS hA [0, 1] [] [] rfl rfl (by decide) (by decide) rfl (fun r u H locs hw hP hD hK hS => ?_)
  have hP : va_P (dC, dI) cls [(h0, .inr (5, [.int 0, .ref a0, .int (-1), .int 0, .int 0, .ref a1, .ref a2, .ref a3, .int 0, .int 0, .ref a4, .int 0, .ref a5, .int 0, .int 0, .int 0, .int 0, .int 0, .int 0, .ref a6, .int 0, .ref a7, .int 0, .ref a8, .ref a9])), (a0, .inl (cA, 512, .inl (fun _ => 0)))] H := hP
  have hD : va_D A [(h0, .inr (5, [.int 0, .ref a0, .int (-1), .int 0, .int 0, .ref a1, .ref a2, .ref a3, .int 0, .int 0, .ref a4, .int 0, .ref a5, .int 0, .int 0, .int 0, .int 0, .int 0, .int 0, .ref a6, .int 0, .ref a7, .int 0, .ref a8, .ref a9])), (a0, .inl (cA, 512, .inl (fun _ => 0)))] := hD
  have hK : va_K (dC, dI) cls [(cA, .int)] s := hK
  refine W.widen (k := 0) (n := 0) (by omega) (by omega) ?_
  subst hw
  refine lv_if_eq (tgt := 38) hx hb d_Mo_files_31 (by decide) (fun _ => ?_) (fun h => absurd (by decide) h)
  refine lv_iconst (v := 0) hx hb d_Mo_files_38 (by decide) ?_
  refine lv_iadd hx hb d_Mo_files_39 ?_
  refine tv (x2 := 0) (by decide) ?_
  refine lv_istore_n (i := 1) hx hb d_Mo_files_40 rfl hl (by decide) rfl (fun ls hl => ?_)
  have hl : lv_has ls 3 [(1, .int 0), (2, .int 5), (0, .ref h0)] := hl
  refine lv_iinc (k := 1) (v := 6) hx hb d_Mo_files_41 hl rfl (by decide) (by decide) rfl (fun ls hl => ?_)
  have hl : lv_has ls 3 [(2, .int 6), (1, .int 0), (0, .ref h0)] := hl
  refine lv_goto (tgt := 19) hx hb d_Mo_files_44 (by decide) ?_
  refine lv_iload_n hx hb d_Mo_files_19 rfl (lv_at hl 0 rfl) ?_
  refine lv_bipush (v := 8) hx hb d_Mo_files_20 (by decide) ?_
  refine lv_icmp_ge (tgt := 47) hx hb d_Mo_files_22 (by decide) (fun h => absurd h (by decide)) (fun _ => ?_)
  refine lv_iload_n hx hb d_Mo_files_25 rfl (lv_at hl 1 rfl) ?_
  refine lv_aload_n hx hb d_Mo_files_26 rfl (lv_at hl 2 rfl) ?_
  refine lv_iload_n hx hb d_Mo_files_27 rfl (lv_at hl 0 rfl) ?_
  refine go_i (wr := []) (tr := []) (rV (C := "LineDiskModel") (ci := 5) (q0 := 0) (b := h0) (n := 1) (As := [.int 6]) (rest := [.int 0]) F hkw (c_Mo_sizeOf l dC dI h0 a0 a1 a2 a3 a4 a5 a6 a7 a8 a9 cA 6 (vp_in_iff.mpr (by decide)) H.size) xT_bl (fun _ _ _ => trivial) w_758 w_760 ws_50 w_6 w_761 rfl rfl (by decide +kernel) ⟨Nat.le_of_ble_eq_true rfl, Nat.le_of_ble_eq_true rfl⟩ (hP.sub (ws' := [(h0, .inr (5, [.int 0, .ref a0, .int (-1), .int 0, .int 0, .ref a1, .ref a2, .ref a3, .int 0, .int 0, .ref a4, .int 0, .ref a5, .int 0, .int 0, .int 0, .int 0, .int 0, .int 0, .ref a6, .int 0, .ref a7, .int 0, .ref a8, .ref a9])), (a0, .inl (cA, 512, .inl (fun _ => 0)))]) [0, 1] rfl) (hD.sub (ws' := [(h0, .inr (5, [.int 0, .ref a0, .int (-1), .int 0, .int 0, .ref a1, .ref a2, .ref a3, .int 0, .int 0, .ref a4, .int 0, .ref a5, .int 0, .int 0, .int 0, .int 0, .int 0, .int 0, .ref a6, .int 0, .ref a7, .int 0, .ref a8, .ref a9])), (a0, .inl (cA, 512, .inl (fun _ => 0)))]) [0, 1] (by decide) rfl) (hK.sub (tys' := [(cA, .int)]) [0] rfl) rfl rfl rfl rfl hl.1 rfl (Nat.le_of_ble_eq_true rfl) d_Mo_files_28 ⟨by decide, by decide⟩) hP hD hK hS hA [0, 1] [] [] rfl rfl (by decide) (by decide) rfl (fun r u H locs hw hP hD hK hS => ?_)
  have hP : va_P (dC, dI) cls [(h0, .inr (5, [.int 0, .ref a0, .int (-1), .int 0, .int 0, .ref a1, .ref a2, .ref a3, .int 0, .int 0, .ref a4, .int 0, .ref a5, .int 0, .int 0, .int 0, .int 0, .int 0, .int 0, .ref a6, .int 0, .ref a7, .int 0, .ref a8, .ref a9])), (a0, .inl (cA, 512, .inl (fun _ => 0)))] H := hP
  have hD : va_D A [(h0, .inr (5, [.int 0, .ref a0, .int (-1), .int 0, .int 0, .ref a1, .ref a2, .ref a3, .int 0, .int 0, .ref a4, .int 0, .ref a5, .int 0, .int 0, .int 0, .int 0, .int 0, .int 0, .ref a6, .int 0, .ref a7, .int 0, .ref a8, .ref a9])), (a0, .inl (cA, 512, .inl (fun _ => 0)))] := hD
  have hK : va_K (dC, dI) cls [(cA, .int)] s := hK
  refine W.widen (k := 0) (n := 0) (by omega) (by omega) ?_
  subst hw
  refine lv_if_eq (tgt := 38) hx hb d_Mo_files_31 (by decide) (fun _ => ?_) (fun h => absurd (by decide) h)
  refine lv_iconst (v := 0) hx hb d_Mo_files_38 (by decide) ?_
  refine lv_iadd hx hb d_Mo_files_39 ?_
  refine tv (x2 := 0) (by decide) ?_
  refine lv_istore_n (i := 1) hx hb d_Mo_files_40 rfl hl (by decide) rfl (fun ls hl => ?_)
  have hl : lv_has ls 3 [(1, .int 0), (2, .int 6), (0, .ref h0)] := hl
  refine lv_iinc (k := 1) (v := 7) hx hb d_Mo_files_41 hl rfl (by decide) (by decide) rfl (fun ls hl => ?_)
  have hl : lv_has ls 3 [(2, .int 7), (1, .int 0), (0, .ref h0)] := hl
  refine lv_goto (tgt := 19) hx hb d_Mo_files_44 (by decide) ?_
  refine lv_iload_n hx hb d_Mo_files_19 rfl (lv_at hl 0 rfl) ?_
  refine lv_bipush (v := 8) hx hb d_Mo_files_20 (by decide) ?_
  refine lv_icmp_ge (tgt := 47) hx hb d_Mo_files_22 (by decide) (fun h => absurd h (by decide)) (fun _ => ?_)
  refine lv_iload_n hx hb d_Mo_files_25 rfl (lv_at hl 1 rfl) ?_
  refine lv_aload_n hx hb d_Mo_files_26 rfl (lv_at hl 2 rfl) ?_
  refine lv_iload_n hx hb d_Mo_files_27 rfl (lv_at hl 0 rfl) ?_
  refine go_i (wr := []) (tr := []) (rV (C := "LineDiskModel") (ci := 5) (q0 := 0) (b := h0) (n := 1) (As := [.int 7]) (rest := [.int 0]) F hkw (c_Mo_sizeOf l dC dI h0 a0 a1 a2 a3 a4 a5 a6 a7 a8 a9 cA 7 (vp_in_iff.mpr (by decide)) H.size) xT_bl (fun _ _ _ => trivial) w_758 w_760 ws_50 w_6 w_761 rfl rfl (by decide +kernel) ⟨Nat.le_of_ble_eq_true rfl, Nat.le_of_ble_eq_true rfl⟩ (hP.sub (ws' := [(h0, .inr (5, [.int 0, .ref a0, .int (-1), .int 0, .int 0, .ref a1, .ref a2, .ref a3, .int 0, .int 0, .ref a4, .int 0, .ref a5, .int 0, .int 0, .int 0, .int 0, .int 0, .int 0, .ref a6, .int 0, .ref a7, .int 0, .ref a8, .ref a9])), (a0, .inl (cA, 512, .inl (fun _ => 0)))]) [0, 1] rfl) (hD.sub (ws' := [(h0, .inr (5, [.int 0, .ref a0, .int (-1), .int 0, .int 0, .ref a1, .ref a2, .ref a3, .int 0, .int 0, .ref a4, .int 0, .ref a5, .int 0, .int 0, .int 0, .int 0, .int 0, .int 0, .ref a6, .int 0, .ref a7, .int 0, .ref a8, .ref a9])), (a0, .inl (cA, 512, .inl (fun _ => 0)))]) [0, 1] (by decide) rfl) (hK.sub (tys' := [(cA, .int)]) [0] rfl) rfl rfl rfl rfl hl.1 rfl (Nat.le_of_ble_eq_true rfl) d_Mo_files_28 ⟨by decide, by decide⟩) hP hD hK hS hA [0, 1] [] [] rfl rfl (by decide) (by decide) rfl (fun r u H locs hw hP hD hK hS => ?_)
  have hP : va_P (dC, dI) cls [(h0, .inr (5, [.int 0, .ref a0, .int (-1), .int 0, .int 0, .ref a1, .ref a2, .ref a3, .int 0, .int 0, .ref a4, .int 0, .ref a5, .int 0, .int 0, .int 0, .int 0, .int 0, .int 0, .ref a6, .int 0, .ref a7, .int 0, .ref a8, .ref a9])), (a0, .inl (cA, 512, .inl (fun _ => 0)))] H := hP
  have hD : va_D A [(h0, .inr (5, [.int 0, .ref a0, .int (-1), .int 0, .int 0, .ref a1, .ref a2, .ref a3, .int 0, .int 0, .ref a4, .int 0, .ref a5, .int 0, .int 0, .int 0, .int 0, .int 0, .int 0, .ref a6, .int 0, .ref a7, .int 0, .ref a8, .ref a9])), (a0, .inl (cA, 512, .inl (fun _ => 0)))] := hD
  have hK : va_K (dC, dI) cls [(cA, .int)] s := hK
  refine W.widen (k := 0) (n := 0) (by omega) (by omega) ?_
  subst hw
  refine lv_if_eq (tgt := 38) hx hb d_Mo_files_31 (by decide) (fun _ => ?_) (fun h => absurd (by decide) h)
  refine lv_iconst (v := 0) hx hb d_Mo_files_38 (by decide) ?_
  refine lv_iadd hx hb d_Mo_files_39 ?_
  refine tv (x2 := 0) (by decide) ?_
  refine lv_istore_n (i := 1) hx hb d_Mo_files_40 rfl hl (by decide) rfl (fun ls hl => ?_)
  have hl : lv_has ls 3 [(1, .int 0), (2, .int 7), (0, .ref h0)] := hl
  refine lv_iinc (k := 1) (v := 8) hx hb d_Mo_files_41 hl rfl (by decide) (by decide) rfl (fun ls hl => ?_)
  have hl : lv_has ls 3 [(2, .int 8), (1, .int 0), (0, .ref h0)] := hl
  refine lv_goto (tgt := 19) hx hb d_Mo_files_44 (by decide) ?_
  refine lv_iload_n hx hb d_Mo_files_19 rfl (lv_at hl 0 rfl) ?_
  refine lv_bipush (v := 8) hx hb d_Mo_files_20 (by decide) ?_
  refine lv_icmp_ge (tgt := 47) hx hb d_Mo_files_22 (by decide) (fun _ => ?_) (fun h => absurd (by decide) h)
  refine lv_aload_n hx hb d_Mo_files_47 rfl (lv_at hl 2 rfl) ?_
  refine go_i (wr := []) (tr := []) (rV (C := "LineDiskModel") (ci := 5) (q0 := 0) (b := h0) (n := 0) (As := []) (rest := []) F hkw (c_Mo_formatted l dC dI h0 a0 a1 a2 a3 a4 a5 a6 a7 a8 a9 cA H.size) xT_bl (fun _ _ _ => trivial) w_689 w_691 ws_36 w_6 w_692 rfl rfl (by decide +kernel) ⟨Nat.le_of_ble_eq_true rfl, Nat.le_of_ble_eq_true rfl⟩ (hP.sub (ws' := [(h0, .inr (5, [.int 0, .ref a0, .int (-1), .int 0, .int 0, .ref a1, .ref a2, .ref a3, .int 0, .int 0, .ref a4, .int 0, .ref a5, .int 0, .int 0, .int 0, .int 0, .int 0, .int 0, .ref a6, .int 0, .ref a7, .int 0, .ref a8, .ref a9])), (a0, .inl (cA, 512, .inl (fun _ => 0)))]) [0, 1] rfl) (hD.sub (ws' := [(h0, .inr (5, [.int 0, .ref a0, .int (-1), .int 0, .int 0, .ref a1, .ref a2, .ref a3, .int 0, .int 0, .ref a4, .int 0, .ref a5, .int 0, .int 0, .int 0, .int 0, .int 0, .int 0, .ref a6, .int 0, .ref a7, .int 0, .ref a8, .ref a9])), (a0, .inl (cA, 512, .inl (fun _ => 0)))]) [0, 1] (by decide) rfl) (hK.sub (tys' := [(cA, .int)]) [0] rfl) rfl rfl rfl rfl hl.1 rfl (Nat.le_of_ble_eq_true rfl) d_Mo_files_48 ⟨by decide, by decide⟩) hP hD hK hS hA [0, 1] [] [] rfl rfl (by decide) (by decide) rfl (fun r u H locs hw hP hD hK hS => ?_)
  have hP : va_P (dC, dI) cls [(h0, .inr (5, [.int 0, .ref a0, .int (-1), .int 0, .int 0, .ref a1, .ref a2, .ref a3, .int 0, .int 0, .ref a4, .int 0, .ref a5, .int 0, .int 0, .int 0, .int 0, .int 0, .int 0, .ref a6, .int 0, .ref a7, .int 0, .ref a8, .ref a9])), (a0, .inl (cA, 512, .inl (fun _ => 0)))] H := hP
  have hD : va_D A [(h0, .inr (5, [.int 0, .ref a0, .int (-1), .int 0, .int 0, .ref a1, .ref a2, .ref a3, .int 0, .int 0, .ref a4, .int 0, .ref a5, .int 0, .int 0, .int 0, .int 0, .int 0, .int 0, .ref a6, .int 0, .ref a7, .int 0, .ref a8, .ref a9])), (a0, .inl (cA, 512, .inl (fun _ => 0)))] := hD
  have hK : va_K (dC, dI) cls [(cA, .int)] s := hK
  refine W.widen (k := 0) (n := 0) (by omega) (by omega) ?_
  subst hw
  refine lv_if_eq (tgt := 58) hx hb d_Mo_files_51 (by decide) (fun _ => ?_) (fun h => absurd (by decide) h)
  refine lv_bipush (v := 8) hx hb d_Mo_files_58 (by decide) ?_
  refine W.widen (k := 0) (n := 0) (by decide) (by decide) ?_
  exact W.iret (v := 8) hx hb hr (fun t ht hW => ⟨⟨8, (), rfl, rfl, cB.of (hP.sub [] rfl) (hD.sub [] (by decide) rfl) (hK.sub [] rfl) ht hW⟩, hS.F ht⟩) hS.2.2 d_Mo_files_60
set_option maxHeartbeats 4000000 in
set_option maxRecDepth 100000 in
theorem lp_Mo_nextLine {p : Program} {l : Launch} {e : Env} {R : Room} {s : State} {m : MethodId} {args : Array Value} {below : List Frame} {meth : Method} {c : Code} {cells slots : Nat} {Q : State → Prop} {A : Nat → Prop} {dC : Nat → ClassId} {dI : Nat → Nat → Nat} (hx : p.tables.exec = Jvm.exec) (hb : c.code = b_Mo_nextLine) (hts : ∀ w ∈ gw, w.before args s = true) (hown : s.vm.findClass "LineDiskModel" = some m.cls) (hkw : kw s) (h0 a0 a1 a2 a3 a4 a5 a6 a7 a8 a9 : Nat) (cL : ClassId) (f : Nat → Int32) (hF : ∀ i, i < 100 → f i = -1) (hK : va_K (dC, dI) cls [(cL, .int)] s)  (kk : ∀ (ls : Array Slot) (H : Heap) (locs : List Loc), lv_has ls 2 [(1, .int (nI 100)), (0, .ref h0)] → va_P (dC, dI) cls [(h0, .inr (5, [.int 0, .ref a0, .int (-1), .int 0, .int 0, .ref a1, .ref a2, .ref a3, .int 0, .int 0, .ref a4, .int 0, .ref a5, .int 0, .int 0, .int 0, .int 0, .int 0, .int 0, .ref a6, .int 0, .ref a7, .int 0, .ref a8, .ref a9])), (a1, .inl (cL, 100, .inl f))] H → va_D A [(h0, .inr (5, [.int 0, .ref a0, .int (-1), .int 0, .int 0, .ref a1, .ref a2, .ref a3, .int 0, .int 0, .ref a4, .int 0, .ref a5, .int 0, .int 0, .int 0, .int 0, .int 0, .int 0, .ref a6, .int 0, .ref a7, .int 0, .ref a8, .ref a9])), (a1, .inl (cL, 100, .inl f))] → va_S A s.heap H locs → (True) → W p l e R s m args below meth c H locs cells slots Q (F0 m 41 ls [])) : ∀ (j k : Nat), k + j = 100 → ∀ (ls : Array Slot) (H : Heap) (locs : List Loc), lv_has ls 2 [(1, .int (nI k)), (0, .ref h0)] → va_P (dC, dI) cls [(h0, .inr (5, [.int 0, .ref a0, .int (-1), .int 0, .int 0, .ref a1, .ref a2, .ref a3, .int 0, .int 0, .ref a4, .int 0, .ref a5, .int 0, .int 0, .int 0, .int 0, .int 0, .int 0, .ref a6, .int 0, .ref a7, .int 0, .ref a8, .ref a9])), (a1, .inl (cL, 100, .inl f))] H → va_D A [(h0, .inr (5, [.int 0, .ref a0, .int (-1), .int 0, .int 0, .ref a1, .ref a2, .ref a3, .int 0, .int 0, .ref a4, .int 0, .ref a5, .int 0, .int 0, .int 0, .int 0, .int 0, .int 0, .ref a6, .int 0, .ref a7, .int 0, .ref a8, .ref a9])), (a1, .inl (cL, 100, .inl f))] → va_S A s.heap H locs → (True) → W p l e R s m args below meth c H locs cells slots Q (F0 m 17 ls []) := by
  intro j
  induction j with
  | zero =>
    intro k hk ls H locs hl hP hD hS hf
    have hk : k = 100 := by omega
    subst hk
    refine lv_iload_n hx hb d_Mo_nextLine_17 rfl (lv_at hl 0 rfl) ?_
    refine lv_bipush (v := 100) hx hb d_Mo_nextLine_18 (by decide) ?_
    refine lv_icmp_ge (tgt := 41) hx hb d_Mo_nextLine_20 (by decide) (fun _ => ?_) (fun h => absurd (nI_le (a := 100) (b := 100) (Nat.le_refl _) (by decide)) h)
    exact kk ls H locs hl hP hD hS hf
  | succ j ih =>
    intro k hk ls H locs hl hP hD hS hf
    have hkN : k < 100 := by omega
    refine lv_iload_n hx hb d_Mo_nextLine_17 rfl (lv_at hl 0 rfl) ?_
    refine lv_bipush (v := 100) hx hb d_Mo_nextLine_18 (by decide) ?_
    refine lv_icmp_ge (tgt := 41) hx hb d_Mo_nextLine_20 (by decide) (fun h => absurd h (nI_ge hkN (by decide))) (fun _ => ?_)
    refine lv_aload_n hx hb d_Mo_nextLine_23 rfl (lv_at hl 1 rfl) ?_
    refine va_get (D := (dC, dI)) (ci := 5) (v := .ref a1) (C := R_Mo) (T := F_Mo) (N := 25) hx hb hts in_Mo hown hK hP 0 rfl rfl 5 (by decide) (hts _ w_598) (fun _ h9 => h9) rfl d_Mo_nextLine_24 ?_
    refine lv_iload_n hx hb d_Mo_nextLine_27 rfl (lv_at hl 0 rfl) ?_
    refine va_iald hx hb hK hP 1 0 rfl rfl (vp_in_nI hkN (by decide)) d_Mo_nextLine_28 ?_
    refine tv (x2 := (-1)) (by exact by rw [nI_clamp (by omega)]; exact hF k hkN) ?_
    refine lv_iconst (v := (-1)) hx hb d_Mo_nextLine_29 (by decide) ?_
    refine lv_icmp_eq (tgt := 35) hx hb d_Mo_nextLine_30 (by decide) (fun _ => ?_) (fun h => absurd (by decide) h)
    refine lv_iinc (k := 0) (v := nI (k + 1)) hx hb d_Mo_nextLine_35 hl rfl (by rw [lit1]; exact (nI_succ k).symm) (by decide) rfl (fun ls hl => ?_)
    have hl : lv_has ls 2 [(1, .int (nI (k + 1))), (0, .ref h0)] := hl
    refine lv_goto (tgt := 17) hx hb d_Mo_nextLine_38 (by decide) ?_
    exact ih (k + 1) (by omega) ls H locs (hl) hP hD hS (trivial)
set_option maxHeartbeats 4000000 in
set_option maxRecDepth 100000 in
theorem c_Mo_nextLine (l : Launch) (dC : Nat → ClassId) (dI : Nat → Nat → Nat) (h0 a0 a1 a2 a3 a4 a5 a6 a7 a8 a9 : Nat) (cL : ClassId) (f : Nat → Int32) (hF : ∀ i, i < 100 → f i = -1) (sz : Nat) : Met l y_Mo_nextLine (Cond.code y_Mo_nextLine b_Mo_nextLine 2 (some .int) :: gw) ({ frames := 0, cells := 0, slots := 0, locals := 0 }) (cP (dC, dI) [.ref h0] sz [(h0, .inr (5, [.int 0, .ref a0, .int (-1), .int 0, .int 0, .ref a1, .ref a2, .ref a3, .int 0, .int 0, .ref a4, .int 0, .ref a5, .int 0, .int 0, .int 0, .int 0, .int 0, .int 0, .ref a6, .int 0, .ref a7, .int 0, .ref a8, .ref a9])), (a1, .inl (cL, 100, .inl f))] [(cL, .int)] xT) (va_Qi (fun (r : Int32) (u : Unit) => r = -1) (fun (u : Unit) t => cB (dC, dI) (va_A [(h0, .inr (5, [.int 0, .ref a0, .int (-1), .int 0, .int 0, .ref a1, .ref a2, .ref a3, .int 0, .int 0, .ref a4, .int 0, .ref a5, .int 0, .int 0, .int 0, .int 0, .int 0, .int 0, .ref a6, .int 0, .ref a7, .int 0, .ref a8, .ref a9])), (a1, .inl (cL, 100, .inl f))] sz) [(h0, .inr (5, [.int 0, .ref a0, .int (-1), .int 0, .int 0, .ref a1, .ref a2, .ref a3, .int 0, .int 0, .ref a4, .int 0, .ref a5, .int 0, .int 0, .int 0, .int 0, .int 0, .int 0, .ref a6, .int 0, .ref a7, .int 0, .ref a8, .ref a9])), (a1, .inl (cL, 100, .inl f))] [(cL, .int)] t) (va_A [(h0, .inr (5, [.int 0, .ref a0, .int (-1), .int 0, .int 0, .ref a1, .ref a2, .ref a3, .int 0, .int 0, .ref a4, .int 0, .ref a5, .int 0, .int 0, .int 0, .int 0, .int 0, .int 0, .ref a6, .int 0, .ref a7, .int 0, .ref a8, .ref a9])), (a1, .inl (cL, 100, .inl f))] sz)) 0 0 (va_A [(h0, .inr (5, [.int 0, .ref a0, .int (-1), .int 0, .int 0, .ref a1, .ref a2, .ref a3, .int 0, .int 0, .ref a4, .int 0, .ref a5, .int 0, .int 0, .int 0, .int 0, .int 0, .int 0, .ref a6, .int 0, .ref a7, .int 0, .ref a8, .ref a9])), (a1, .inl (cL, 100, .inl f))] sz) := by
  refine Met.ofW (cc := b_Mo_nextLine) (maxL := 2) (ret := (some .int)) (by decide) rfl ?_
  intro p e s m args below meth c s₁ B hml hv
  obtain ⟨rfl, hsz, hP, hK, hD0, hkw, hX⟩ := hv
  have hx := B.exec
  have hb := B.bytes
  have hr := B.returns
  have hts := fun w hw => atoms_spec (ws := Cond.code y_Mo_nextLine b_Mo_nextLine 2 (some .int) :: gw) B.pre w (List.mem_cons_of_mem _ hw)
  have hown : s.vm.findClass "LineDiskModel" = some m.cls := findClass_of_methodNamed B.named
  have hlocks := B.notSynchronized
  have hin := (name_of_methodNamed B.named B.method).1
  subst hsz
  have hD := hD0.self (sz := s.heap.size)
  generalize hAe : va_A [(h0, .inr (5, [.int 0, .ref a0, .int (-1), .int 0, .int 0, .ref a1, .ref a2, .ref a3, .int 0, .int 0, .ref a4, .int 0, .ref a5, .int 0, .int 0, .int 0, .int 0, .int 0, .int 0, .ref a6, .int 0, .ref a7, .int 0, .ref a8, .ref a9])), (a1, .inl (cL, 100, .inl f))] s.heap.size = A at hD ⊢
  have hA : ∀ q : Nat, s.heap.size ≤ q → A q := fun q h => by rw [← hAe]; exact Or.inr h
  have hS : va_S A s.heap s.heap [] := va_S.rf
  have hl := lv_entry ([.ref h0]) (n := 2) (Nat.le_of_ble_eq_true rfl)
  rw [lg_entry_eq]
  generalize (lg_sl ([.ref h0]) ++ List.replicate (2 - (lg_sl ([.ref h0])).length) Slot.unset).toArray = ls at hl ⊢
  have hl : lv_has ls 2 [(0, .ref h0)] := hl
  have F : CallFix p m c b_Mo_nextLine 2 s ([.ref h0]).toArray gw "LineDiskModel" := ⟨hx, hb, hml, hown, hts⟩
  refine lv_aload_n hx hb d_Mo_nextLine_0 rfl (lv_at hl 0 rfl) ?_
  refine va_get (D := (dC, dI)) (ci := 5) (v := .int 0) (C := R_Mo) (T := F_Mo) (N := 25) hx hb hts in_Mo hown hK hP 0 rfl rfl 8 (by decide) (hts _ w_601) (fun _ h9 => h9) rfl d_Mo_nextLine_1 ?_
  refine lv_iconst (v := 1) hx hb d_Mo_nextLine_4 (by decide) ?_
  refine lv_icmp_ge (tgt := 12) hx hb d_Mo_nextLine_5 (by decide) (fun h => absurd h (by decide)) (fun _ => ?_)
  refine lv_iconst (v := 1) hx hb d_Mo_nextLine_8 (by decide) ?_
  refine lv_goto (tgt := 16) hx hb d_Mo_nextLine_9 (by decide) ?_
  refine lv_istore_n (i := 1) hx hb d_Mo_nextLine_16 rfl hl (by decide) rfl (fun ls hl => ?_)
  have hl : lv_has ls 2 [(1, .int 1), (0, .ref h0)] := hl
  refine lp_Mo_nextLine hx hb hts hown hkw h0 a0 a1 a2 a3 a4 a5 a6 a7 a8 a9 cL f hF hK (fun ls H locs hl hP hD hS _ => ?_) 99 1 (by decide) ls _ _ hl hP hD hS trivial
  refine lv_iconst (v := (-1)) hx hb d_Mo_nextLine_41 (by decide) ?_
  refine W.widen (k := 0) (n := 0) (by decide) (by decide) ?_
  exact W.iret (v := (-1)) hx hb hr (fun t ht hW => ⟨⟨(-1), (), rfl, rfl, cB.of (hP.sub [0, 1] rfl) (hD.sub [0, 1] (by decide) rfl) (hK.sub [0] rfl) ht hW⟩, hS.F ht⟩) hS.2.2 d_Mo_nextLine_42
set_option maxHeartbeats 4000000 in
set_option maxRecDepth 100000 in
theorem lp_Mo_lines {p : Program} {l : Launch} {e : Env} {R : Room} {s : State} {m : MethodId} {args : Array Value} {below : List Frame} {meth : Method} {c : Code} {cells slots : Nat} {Q : State → Prop} {A : Nat → Prop} {dC : Nat → ClassId} {dI : Nat → Nat → Nat} (hx : p.tables.exec = Jvm.exec) (hb : c.code = b_Mo_lines) (hts : ∀ w ∈ gw, w.before args s = true) (hown : s.vm.findClass "LineDiskModel" = some m.cls) (hkw : kw s) (h0 a0 a1 a2 a3 a4 a5 a6 a7 a8 a9 : Nat) (cL : ClassId) (f : Nat → Int32) (hF : ∀ i, i < 100 → f i = -1) (hK : va_K (dC, dI) cls [(cL, .int)] s)  (kk : ∀ (ls : Array Slot) (H : Heap) (locs : List Loc), lv_has ls 3 [(2, .int (nI 100)), (1, .int 0), (0, .ref h0)] → va_P (dC, dI) cls [(h0, .inr (5, [.int 0, .ref a0, .int (-1), .int 0, .int 0, .ref a1, .ref a2, .ref a3, .int 0, .int 0, .ref a4, .int 0, .ref a5, .int 0, .int 0, .int 0, .int 0, .int 0, .int 0, .ref a6, .int 0, .ref a7, .int 0, .ref a8, .ref a9])), (a1, .inl (cL, 100, .inl f))] H → va_D A [(h0, .inr (5, [.int 0, .ref a0, .int (-1), .int 0, .int 0, .ref a1, .ref a2, .ref a3, .int 0, .int 0, .ref a4, .int 0, .ref a5, .int 0, .int 0, .int 0, .int 0, .int 0, .int 0, .ref a6, .int 0, .ref a7, .int 0, .ref a8, .ref a9])), (a1, .inl (cL, 100, .inl f))] → va_S A s.heap H locs → (True) → W p l e R s m args below meth c H locs cells slots Q (F0 m 34 ls [])) : ∀ (j k : Nat), k + j = 100 → ∀ (ls : Array Slot) (H : Heap) (locs : List Loc), lv_has ls 3 [(2, .int (nI k)), (1, .int 0), (0, .ref h0)] → va_P (dC, dI) cls [(h0, .inr (5, [.int 0, .ref a0, .int (-1), .int 0, .int 0, .ref a1, .ref a2, .ref a3, .int 0, .int 0, .ref a4, .int 0, .ref a5, .int 0, .int 0, .int 0, .int 0, .int 0, .int 0, .ref a6, .int 0, .ref a7, .int 0, .ref a8, .ref a9])), (a1, .inl (cL, 100, .inl f))] H → va_D A [(h0, .inr (5, [.int 0, .ref a0, .int (-1), .int 0, .int 0, .ref a1, .ref a2, .ref a3, .int 0, .int 0, .ref a4, .int 0, .ref a5, .int 0, .int 0, .int 0, .int 0, .int 0, .int 0, .ref a6, .int 0, .ref a7, .int 0, .ref a8, .ref a9])), (a1, .inl (cL, 100, .inl f))] → va_S A s.heap H locs → (True) → W p l e R s m args below meth c H locs cells slots Q (F0 m 4 ls []) := by
  intro j
  induction j with
  | zero =>
    intro k hk ls H locs hl hP hD hS hf
    have hk : k = 100 := by omega
    subst hk
    refine lv_iload_n hx hb d_Mo_lines_4 rfl (lv_at hl 0 rfl) ?_
    refine lv_bipush (v := 100) hx hb d_Mo_lines_5 (by decide) ?_
    refine lv_icmp_ge (tgt := 34) hx hb d_Mo_lines_7 (by decide) (fun _ => ?_) (fun h => absurd (nI_le (a := 100) (b := 100) (Nat.le_refl _) (by decide)) h)
    exact kk ls H locs hl hP hD hS hf
  | succ j ih =>
    intro k hk ls H locs hl hP hD hS hf
    have hkN : k < 100 := by omega
    refine lv_iload_n hx hb d_Mo_lines_4 rfl (lv_at hl 0 rfl) ?_
    refine lv_bipush (v := 100) hx hb d_Mo_lines_5 (by decide) ?_
    refine lv_icmp_ge (tgt := 34) hx hb d_Mo_lines_7 (by decide) (fun h => absurd h (nI_ge hkN (by decide))) (fun _ => ?_)
    refine lv_iload_n hx hb d_Mo_lines_10 rfl (lv_at hl 1 rfl) ?_
    refine lv_aload_n hx hb d_Mo_lines_11 rfl (lv_at hl 2 rfl) ?_
    refine va_get (D := (dC, dI)) (ci := 5) (v := .ref a1) (C := R_Mo) (T := F_Mo) (N := 25) hx hb hts in_Mo hown hK hP 0 rfl rfl 5 (by decide) (hts _ w_598) (fun _ h9 => h9) rfl d_Mo_lines_12 ?_
    refine lv_iload_n hx hb d_Mo_lines_15 rfl (lv_at hl 0 rfl) ?_
    refine va_iald hx hb hK hP 1 0 rfl rfl (vp_in_nI hkN (by decide)) d_Mo_lines_16 ?_
    refine tv (x2 := (-1)) (by exact by rw [nI_clamp (by omega)]; exact hF k hkN) ?_
    refine lv_iconst (v := (-1)) hx hb d_Mo_lines_17 (by decide) ?_
    refine lv_icmp_eq (tgt := 25) hx hb d_Mo_lines_18 (by decide) (fun _ => ?_) (fun h => absurd (by decide) h)
    refine lv_iconst (v := 0) hx hb d_Mo_lines_25 (by decide) ?_
    refine lv_iadd hx hb d_Mo_lines_26 ?_
    refine tv (x2 := 0) (by decide) ?_
    refine lv_istore_n (i := 1) hx hb d_Mo_lines_27 rfl hl (by decide) rfl (fun ls hl => ?_)
    have hl : lv_has ls 3 [(1, .int 0), (2, .int (nI k)), (0, .ref h0)] := hl
    refine lv_iinc (k := 1) (v := nI (k + 1)) hx hb d_Mo_lines_28 hl rfl (by rw [lit1]; exact (nI_succ k).symm) (by decide) rfl (fun ls hl => ?_)
    have hl : lv_has ls 3 [(2, .int (nI (k + 1))), (1, .int 0), (0, .ref h0)] := hl
    refine lv_goto (tgt := 4) hx hb d_Mo_lines_31 (by decide) ?_
    exact ih (k + 1) (by omega) ls H locs (hl) hP hD hS (trivial)
set_option maxHeartbeats 4000000 in
set_option maxRecDepth 100000 in
theorem c_Mo_lines (l : Launch) (dC : Nat → ClassId) (dI : Nat → Nat → Nat) (h0 a0 a1 a2 a3 a4 a5 a6 a7 a8 a9 : Nat) (cL : ClassId) (f : Nat → Int32) (hF : ∀ i, i < 100 → f i = -1) (sz : Nat) : Met l y_Mo_lines (Cond.code y_Mo_lines b_Mo_lines 3 (some .int) :: gw) ({ frames := 0, cells := 0, slots := 0, locals := 0 }) (cP (dC, dI) [.ref h0] sz [(h0, .inr (5, [.int 0, .ref a0, .int (-1), .int 0, .int 0, .ref a1, .ref a2, .ref a3, .int 0, .int 0, .ref a4, .int 0, .ref a5, .int 0, .int 0, .int 0, .int 0, .int 0, .int 0, .ref a6, .int 0, .ref a7, .int 0, .ref a8, .ref a9])), (a1, .inl (cL, 100, .inl f))] [(cL, .int)] xT) (va_Qi (fun (r : Int32) (u : Unit) => r = 0) (fun (u : Unit) t => cB (dC, dI) (va_A [(h0, .inr (5, [.int 0, .ref a0, .int (-1), .int 0, .int 0, .ref a1, .ref a2, .ref a3, .int 0, .int 0, .ref a4, .int 0, .ref a5, .int 0, .int 0, .int 0, .int 0, .int 0, .int 0, .ref a6, .int 0, .ref a7, .int 0, .ref a8, .ref a9])), (a1, .inl (cL, 100, .inl f))] sz) [(h0, .inr (5, [.int 0, .ref a0, .int (-1), .int 0, .int 0, .ref a1, .ref a2, .ref a3, .int 0, .int 0, .ref a4, .int 0, .ref a5, .int 0, .int 0, .int 0, .int 0, .int 0, .int 0, .ref a6, .int 0, .ref a7, .int 0, .ref a8, .ref a9])), (a1, .inl (cL, 100, .inl f))] [(cL, .int)] t) (va_A [(h0, .inr (5, [.int 0, .ref a0, .int (-1), .int 0, .int 0, .ref a1, .ref a2, .ref a3, .int 0, .int 0, .ref a4, .int 0, .ref a5, .int 0, .int 0, .int 0, .int 0, .int 0, .int 0, .ref a6, .int 0, .ref a7, .int 0, .ref a8, .ref a9])), (a1, .inl (cL, 100, .inl f))] sz)) 0 0 (va_A [(h0, .inr (5, [.int 0, .ref a0, .int (-1), .int 0, .int 0, .ref a1, .ref a2, .ref a3, .int 0, .int 0, .ref a4, .int 0, .ref a5, .int 0, .int 0, .int 0, .int 0, .int 0, .int 0, .ref a6, .int 0, .ref a7, .int 0, .ref a8, .ref a9])), (a1, .inl (cL, 100, .inl f))] sz) := by
  refine Met.ofW (cc := b_Mo_lines) (maxL := 3) (ret := (some .int)) (by decide) rfl ?_
  intro p e s m args below meth c s₁ B hml hv
  obtain ⟨rfl, hsz, hP, hK, hD0, hkw, hX⟩ := hv
  have hx := B.exec
  have hb := B.bytes
  have hr := B.returns
  have hts := fun w hw => atoms_spec (ws := Cond.code y_Mo_lines b_Mo_lines 3 (some .int) :: gw) B.pre w (List.mem_cons_of_mem _ hw)
  have hown : s.vm.findClass "LineDiskModel" = some m.cls := findClass_of_methodNamed B.named
  have hlocks := B.notSynchronized
  have hin := (name_of_methodNamed B.named B.method).1
  subst hsz
  have hD := hD0.self (sz := s.heap.size)
  generalize hAe : va_A [(h0, .inr (5, [.int 0, .ref a0, .int (-1), .int 0, .int 0, .ref a1, .ref a2, .ref a3, .int 0, .int 0, .ref a4, .int 0, .ref a5, .int 0, .int 0, .int 0, .int 0, .int 0, .int 0, .ref a6, .int 0, .ref a7, .int 0, .ref a8, .ref a9])), (a1, .inl (cL, 100, .inl f))] s.heap.size = A at hD ⊢
  have hA : ∀ q : Nat, s.heap.size ≤ q → A q := fun q h => by rw [← hAe]; exact Or.inr h
  have hS : va_S A s.heap s.heap [] := va_S.rf
  have hl := lv_entry ([.ref h0]) (n := 3) (Nat.le_of_ble_eq_true rfl)
  rw [lg_entry_eq]
  generalize (lg_sl ([.ref h0]) ++ List.replicate (3 - (lg_sl ([.ref h0])).length) Slot.unset).toArray = ls at hl ⊢
  have hl : lv_has ls 3 [(0, .ref h0)] := hl
  have F : CallFix p m c b_Mo_lines 3 s ([.ref h0]).toArray gw "LineDiskModel" := ⟨hx, hb, hml, hown, hts⟩
  refine lv_iconst (v := 0) hx hb d_Mo_lines_0 (by decide) ?_
  refine lv_istore_n (i := 1) hx hb d_Mo_lines_1 rfl hl (by decide) rfl (fun ls hl => ?_)
  have hl : lv_has ls 3 [(1, .int 0), (0, .ref h0)] := hl
  refine lv_iconst (v := 1) hx hb d_Mo_lines_2 (by decide) ?_
  refine lv_istore_n (i := 2) hx hb d_Mo_lines_3 rfl hl (by decide) rfl (fun ls hl => ?_)
  have hl : lv_has ls 3 [(2, .int 1), (1, .int 0), (0, .ref h0)] := hl
  have hl : lv_has ls 3 [(2, .int (nI 1)), (1, .int 0), (0, .ref h0)] := lv_sub hl [0, 1, 2] rfl
  refine lp_Mo_lines hx hb hts hown hkw h0 a0 a1 a2 a3 a4 a5 a6 a7 a8 a9 cL f hF hK (fun ls H locs hl hP hD hS _ => ?_) 99 1 (by decide) ls _ _ hl hP hD hS trivial
  refine lv_iload_n hx hb d_Mo_lines_34 rfl (lv_at hl 1 rfl) ?_
  refine W.widen (k := 0) (n := 0) (by decide) (by decide) ?_
  exact W.iret (v := 0) hx hb hr (fun t ht hW => ⟨⟨0, (), rfl, rfl, cB.of (hP.sub [0, 1] rfl) (hD.sub [0, 1] (by decide) rfl) (hK.sub [0] rfl) ht hW⟩, hS.F ht⟩) hS.2.2 d_Mo_lines_35
