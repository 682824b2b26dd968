/-! the law's helpers -/
theorem va_P_kp {D : va_G} {cl : List vw_C} {a ci : Nat} {fs : List Value} {H H1 : Heap} (h : va_P D cl [(a, .inr (ci, fs))] H) (hk : ∀ q : Nat, q < H.size → H1[q]? = H[q]?) : va_P D cl [(a, .inr (ci, fs))] H1 := by
  refine h.kept (fun k q hq => ?_)
  match k, hq with
  | 0, hq =>
    cases hq
    obtain ⟨r, h1, cell, q1, _⟩ := h 0 _ rfl
    exact hk _ (Array.getElem?_eq_some_iff.mp q1).1
  | k + 1, hq => cases hq
set_option maxHeartbeats 4000000 in
set_option maxRecDepth 100000 in
theorem h_arm1 (l : Launch) (dC : Nat → ClassId) (dI : Nat → Nat → Nat) (hfl : l.flags = pinnedFlags ++ [noTraceFlag]) (a : LAd) (L : LSt) (lo : Nat) (x : Int32) (h1 : x < 0) (q : Nat) (sz : Nat) : Met l y_La_arm (Cond.codeWith y_La_arm b_La_arm 4 (some .int) [(0, 16, 19, 13)] :: gw) ({ frames := 7, cells := 1, slots := 6, locals := 121 }) (cP (dC, dI) [.ref a.o0, .int x, .ref lo] sz [(a.o0, .inr (0, [.ref a.s0, .ref a.j0, .ref a.h0, .ref a.m0, .ref a.kp, .int L.oc]))] [] (xE 112 "armed with 0 to 1000 writes" q)) (va_Qi (fun (r : Int32) (u : Unit) => r = 1) (fun (u : Unit) t => cB (dC, dI) (va_A [(a.o0, .inr (0, [.ref a.s0, .ref a.j0, .ref a.h0, .ref a.m0, .ref a.kp, .int L.oc]))] sz) [(a.o0, .inr (0, [.ref a.s0, .ref a.j0, .ref a.h0, .ref a.m0, .ref a.kp, .int L.oc]))] [] t) (va_A [(a.o0, .inr (0, [.ref a.s0, .ref a.j0, .ref a.h0, .ref a.m0, .ref a.kp, .int L.oc]))] sz)) 1 6 (va_A [(a.o0, .inr (0, [.ref a.s0, .ref a.j0, .ref a.h0, .ref a.m0, .ref a.kp, .int L.oc]))] sz) := by
  refine tw_ofW (hh := [(0, 16, 19, 13)]) (cc := b_La_arm) (maxL := 4) (ret := (some .int)) (by decide) rfl ?_
  intro p e s m args below meth c s₁ B hml htab0 hv
  obtain ⟨rfl, hsz, hP, hK, hD0, hkw, hX⟩ := hv
  have hx := B.exec
  have hb := B.bytes
  have hr := B.returns
  have hts := fun w hw => atoms_spec (ws := Cond.codeWith y_La_arm b_La_arm 4 (some .int) [(0, 16, 19, 13)] :: gw) B.pre w (List.mem_cons_of_mem _ hw)
  have hown : s.vm.findClass "LineDiskLaw" = some m.cls := findClass_of_methodNamed B.named
  have hlocks := B.notSynchronized
  have hin := (name_of_methodNamed B.named B.method).1
  subst hsz
  have hD := hD0.self (sz := s.heap.size)
  generalize hAe : va_A [(a.o0, .inr (0, [.ref a.s0, .ref a.j0, .ref a.h0, .ref a.m0, .ref a.kp, .int L.oc]))] s.heap.size = A at hD ⊢
  have hA : ∀ q : Nat, s.heap.size ≤ q → A q := fun q h => by rw [← hAe]; exact Or.inr h
  have hS : va_S A s.heap s.heap [] := va_S.rf
  have hl := lv_entry ([.ref a.o0, .int x, .ref lo]) (n := 4) (Nat.le_of_ble_eq_true rfl)
  rw [lg_entry_eq]
  generalize (lg_sl ([.ref a.o0, .int x, .ref lo]) ++ List.replicate (4 - (lg_sl ([.ref a.o0, .int x, .ref lo])).length) Slot.unset).toArray = ls at hl ⊢
  have hl : lv_has ls 4 [(0, .ref a.o0), (1, .int x), (2, .ref lo)] := hl
  have F : CallFix p m c b_La_arm 4 s ([.ref a.o0, .int x, .ref lo]).toArray gw "LineDiskLaw" := ⟨hx, hb, hml, hown, hts⟩
  refine lv_aload_n hx hb d_La_arm_0 rfl (lv_at hl 2 rfl) ?_
  refine lv_iconst (v := 0) hx hb d_La_arm_1 (by decide) ?_
  refine lv_aload_n hx hb d_La_arm_2 rfl (lv_at hl 0 rfl) ?_
  refine lv_iload_n hx hb d_La_arm_3 rfl (lv_at hl 1 rfl) ?_
  obtain ⟨xx, ht, hx1, hx2, hx3, hx4⟩ := tab1 htab0
  refine th_call (As := [.int x]) (rest := [.int 0, .ref lo]) (b := a.o0) (C := "LineDisk") (own := "LineDiskLaw") (name := "java/lang/IllegalArgumentException") (bytes := b_Ld_arm) (maxL := 2) (ret := (some .boolean)) hx hb hml hown (t_Ld_arm1 l hfl dC dI a L x h1 q s.heap.size) (cP.blind xE_bl) (by decide) (by decide) (pay_in hts (gi w_483)) (hts _ w_483) (hts _ w_480) (hts _ w_481) (hts _ w_482) (hts _ w_1) (by decide +kernel) (fun sig h => ?_) (va_recv (q0 := 0) hK hP (ci := 0) rfl rfl) (cP.pre (A := A) hP hD hK hkw (xE_of hX (fun _ _ => rfl))) hl.1 (Nat.le_of_ble_eq_true rfl) d_La_arm_4 (by decide) (by decide) ht (by simp [covers, hx1, hx2]) (by rw [hx4]; decide) (by rw [hx4]; exact hts _ w_479) (hkw.use v_486 rfl) rfl (fun ea H hz9 hk9 => ?_)
  · cases (show some sig = parseMethodDescriptor y_Ld_arm.desc from h.symm).trans (by decide +kernel : parseMethodDescriptor y_Ld_arm.desc = some ⟨[.int], (some .boolean)⟩)
    rfl
  rw [hx3]
  have hS : va_S A s.heap H [] := ⟨hz9, fun q h _ => hk9 q h, fun _ h => by cases h⟩
  have hP : va_P (dC, dI) cls [(a.o0, .inr (0, [.ref a.s0, .ref a.j0, .ref a.h0, .ref a.m0, .ref a.kp, .int L.oc]))] H := va_P_kp hP hk9
  refine W.widen (k := 1) (n := 6) (by decide) (by decide) ?_
  refine lv_astore_n (i := 3) hx hb d_La_arm_19 rfl hl (by decide) rfl (fun ls hl => ?_)
  have hl : lv_has ls 4 [(3, .ref ea), (0, .ref a.o0), (1, .int x), (2, .ref lo)] := hl
  refine lv_iconst (v := 1) hx hb d_La_arm_20 (by decide) ?_
  exact W.iret (v := 1) hx hb hr (fun t ht hW => ⟨⟨1, (), rfl, rfl, cB.of (hP.sub [0] rfl) (hD.sub [0] (by decide) rfl) (hK.sub [] rfl) ht hW⟩, hS.F ht⟩) hS.2.2 d_La_arm_21
set_option maxHeartbeats 4000000 in
set_option maxRecDepth 100000 in
theorem h_arm2 (l : Launch) (dC : Nat → ClassId) (dI : Nat → Nat → Nat) (hfl : l.flags = pinnedFlags ++ [noTraceFlag]) (a : LAd) (L : LSt) (lo : Nat) (x : Int32) (h1 : ¬ x < 0) (h2 : ¬ x ≤ 1000) (q : Nat) (sz : Nat) : Met l y_La_arm (Cond.codeWith y_La_arm b_La_arm 4 (some .int) [(0, 16, 19, 13)] :: gw) ({ frames := 7, cells := 1, slots := 6, locals := 121 }) (cP (dC, dI) [.ref a.o0, .int x, .ref lo] sz [(a.o0, .inr (0, [.ref a.s0, .ref a.j0, .ref a.h0, .ref a.m0, .ref a.kp, .int L.oc]))] [] (xE 112 "armed with 0 to 1000 writes" q)) (va_Qi (fun (r : Int32) (u : Unit) => r = 1) (fun (u : Unit) t => cB (dC, dI) (va_A [(a.o0, .inr (0, [.ref a.s0, .ref a.j0, .ref a.h0, .ref a.m0, .ref a.kp, .int L.oc]))] sz) [(a.o0, .inr (0, [.ref a.s0, .ref a.j0, .ref a.h0, .ref a.m0, .ref a.kp, .int L.oc]))] [] t) (va_A [(a.o0, .inr (0, [.ref a.s0, .ref a.j0, .ref a.h0, .ref a.m0, .ref a.kp, .int L.oc]))] sz)) 1 6 (va_A [(a.o0, .inr (0, [.ref a.s0, .ref a.j0, .ref a.h0, .ref a.m0, .ref a.kp, .int L.oc]))] sz) := by
  refine tw_ofW (hh := [(0, 16, 19, 13)]) (cc := b_La_arm) (maxL := 4) (ret := (some .int)) (by decide) rfl ?_
  intro p e s m args below meth c s₁ B hml htab0 hv
  obtain ⟨rfl, hsz, hP, hK, hD0, hkw, hX⟩ := hv
  have hx := B.exec
  have hb := B.bytes
  have hr := B.returns
  have hts := fun w hw => atoms_spec (ws := Cond.codeWith y_La_arm b_La_arm 4 (some .int) [(0, 16, 19, 13)] :: gw) B.pre w (List.mem_cons_of_mem _ hw)
  have hown : s.vm.findClass "LineDiskLaw" = some m.cls := findClass_of_methodNamed B.named
  have hlocks := B.notSynchronized
  have hin := (name_of_methodNamed B.named B.method).1
  subst hsz
  have hD := hD0.self (sz := s.heap.size)
  generalize hAe : va_A [(a.o0, .inr (0, [.ref a.s0, .ref a.j0, .ref a.h0, .ref a.m0, .ref a.kp, .int L.oc]))] s.heap.size = A at hD ⊢
  have hA : ∀ q : Nat, s.heap.size ≤ q → A q := fun q h => by rw [← hAe]; exact Or.inr h
  have hS : va_S A s.heap s.heap [] := va_S.rf
  have hl := lv_entry ([.ref a.o0, .int x, .ref lo]) (n := 4) (Nat.le_of_ble_eq_true rfl)
  rw [lg_entry_eq]
  generalize (lg_sl ([.ref a.o0, .int x, .ref lo]) ++ List.replicate (4 - (lg_sl ([.ref a.o0, .int x, .ref lo])).length) Slot.unset).toArray = ls at hl ⊢
  have hl : lv_has ls 4 [(0, .ref a.o0), (1, .int x), (2, .ref lo)] := hl
  have F : CallFix p m c b_La_arm 4 s ([.ref a.o0, .int x, .ref lo]).toArray gw "LineDiskLaw" := ⟨hx, hb, hml, hown, hts⟩
  refine lv_aload_n hx hb d_La_arm_0 rfl (lv_at hl 2 rfl) ?_
  refine lv_iconst (v := 0) hx hb d_La_arm_1 (by decide) ?_
  refine lv_aload_n hx hb d_La_arm_2 rfl (lv_at hl 0 rfl) ?_
  refine lv_iload_n hx hb d_La_arm_3 rfl (lv_at hl 1 rfl) ?_
  obtain ⟨xx, ht, hx1, hx2, hx3, hx4⟩ := tab1 htab0
  refine th_call (As := [.int x]) (rest := [.int 0, .ref lo]) (b := a.o0) (C := "LineDisk") (own := "LineDiskLaw") (name := "java/lang/IllegalArgumentException") (bytes := b_Ld_arm) (maxL := 2) (ret := (some .boolean)) hx hb hml hown (t_Ld_arm2 l hfl dC dI a L x h1 h2 q s.heap.size) (cP.blind xE_bl) (by decide) (by decide) (pay_in hts (gi w_483)) (hts _ w_483) (hts _ w_480) (hts _ w_481) (hts _ w_482) (hts _ w_1) (by decide +kernel) (fun sig h => ?_) (va_recv (q0 := 0) hK hP (ci := 0) rfl rfl) (cP.pre (A := A) hP hD hK hkw (xE_of hX (fun _ _ => rfl))) hl.1 (Nat.le_of_ble_eq_true rfl) d_La_arm_4 (by decide) (by decide) ht (by simp [covers, hx1, hx2]) (by rw [hx4]; decide) (by rw [hx4]; exact hts _ w_479) (hkw.use v_486 rfl) rfl (fun ea H hz9 hk9 => ?_)
  · cases (show some sig = parseMethodDescriptor y_Ld_arm.desc from h.symm).trans (by decide +kernel : parseMethodDescriptor y_Ld_arm.desc = some ⟨[.int], (some .boolean)⟩)
    rfl
  rw [hx3]
  have hS : va_S A s.heap H [] := ⟨hz9, fun q h _ => hk9 q h, fun _ h => by cases h⟩
  have hP : va_P (dC, dI) cls [(a.o0, .inr (0, [.ref a.s0, .ref a.j0, .ref a.h0, .ref a.m0, .ref a.kp, .int L.oc]))] H := va_P_kp hP hk9
  refine W.widen (k := 1) (n := 6) (by decide) (by decide) ?_
  refine lv_astore_n (i := 3) hx hb d_La_arm_19 rfl hl (by decide) rfl (fun ls hl => ?_)
  have hl : lv_has ls 4 [(3, .ref ea), (0, .ref a.o0), (1, .int x), (2, .ref lo)] := hl
  refine lv_iconst (v := 1) hx hb d_La_arm_20 (by decide) ?_
  exact W.iret (v := 1) hx hb hr (fun t ht hW => ⟨⟨1, (), rfl, rfl, cB.of (hP.sub [0] rfl) (hD.sub [0] (by decide) rfl) (hK.sub [] rfl) ht hW⟩, hS.F ht⟩) hS.2.2 d_La_arm_21
set_option maxHeartbeats 4000000 in
set_option maxRecDepth 100000 in
theorem h_out1 (l : Launch) (dC : Nat → ClassId) (dI : Nat → Nat → Nat) (hfl : l.flags = pinnedFlags ++ [noTraceFlag]) (a : LAd) (L : LSt) (lo : Nat) (x : Int32) (h1 : x < 0) (q : Nat) (sz : Nat) : Met l y_La_out (Cond.codeWith y_La_out b_La_out 4 (some .int) [(0, 9, 12, 19)] :: gw) ({ frames := 7, cells := 1, slots := 6, locals := 121 }) (cP (dC, dI) [.ref a.o0, .int x, .ref lo] sz [(a.o0, .inr (0, [.ref a.s0, .ref a.j0, .ref a.h0, .ref a.m0, .ref a.kp, .int L.oc]))] [] (xE 119 "no such number is kept" q)) (va_Qi (fun (r : Int32) (u : Unit) => r = 1) (fun (u : Unit) t => cB (dC, dI) (va_A [(a.o0, .inr (0, [.ref a.s0, .ref a.j0, .ref a.h0, .ref a.m0, .ref a.kp, .int L.oc]))] sz) [(a.o0, .inr (0, [.ref a.s0, .ref a.j0, .ref a.h0, .ref a.m0, .ref a.kp, .int L.oc]))] [] t) (va_A [(a.o0, .inr (0, [.ref a.s0, .ref a.j0, .ref a.h0, .ref a.m0, .ref a.kp, .int L.oc]))] sz)) 1 6 (va_A [(a.o0, .inr (0, [.ref a.s0, .ref a.j0, .ref a.h0, .ref a.m0, .ref a.kp, .int L.oc]))] sz) := by
  refine tw_ofW (hh := [(0, 9, 12, 19)]) (cc := b_La_out) (maxL := 4) (ret := (some .int)) (by decide) rfl ?_
  intro p e s m args below meth c s₁ B hml htab0 hv
  obtain ⟨rfl, hsz, hP, hK, hD0, hkw, hX⟩ := hv
  have hx := B.exec
  have hb := B.bytes
  have hr := B.returns
  have hts := fun w hw => atoms_spec (ws := Cond.codeWith y_La_out b_La_out 4 (some .int) [(0, 9, 12, 19)] :: gw) B.pre w (List.mem_cons_of_mem _ hw)
  have hown : s.vm.findClass "LineDiskLaw" = some m.cls := findClass_of_methodNamed B.named
  have hlocks := B.notSynchronized
  have hin := (name_of_methodNamed B.named B.method).1
  subst hsz
  have hD := hD0.self (sz := s.heap.size)
  generalize hAe : va_A [(a.o0, .inr (0, [.ref a.s0, .ref a.j0, .ref a.h0, .ref a.m0, .ref a.kp, .int L.oc]))] s.heap.size = A at hD ⊢
  have hA : ∀ q : Nat, s.heap.size ≤ q → A q := fun q h => by rw [← hAe]; exact Or.inr h
  have hS : va_S A s.heap s.heap [] := va_S.rf
  have hl := lv_entry ([.ref a.o0, .int x, .ref lo]) (n := 4) (Nat.le_of_ble_eq_true rfl)
  rw [lg_entry_eq]
  generalize (lg_sl ([.ref a.o0, .int x, .ref lo]) ++ List.replicate (4 - (lg_sl ([.ref a.o0, .int x, .ref lo])).length) Slot.unset).toArray = ls at hl ⊢
  have hl : lv_has ls 4 [(0, .ref a.o0), (1, .int x), (2, .ref lo)] := hl
  have F : CallFix p m c b_La_out 4 s ([.ref a.o0, .int x, .ref lo]).toArray gw "LineDiskLaw" := ⟨hx, hb, hml, hown, hts⟩
  refine lv_aload_n hx hb d_La_out_0 rfl (lv_at hl 2 rfl) ?_
  refine lv_iconst (v := 0) hx hb d_La_out_1 (by decide) ?_
  refine lv_aload_n hx hb d_La_out_2 rfl (lv_at hl 0 rfl) ?_
  refine lv_iload_n hx hb d_La_out_3 rfl (lv_at hl 1 rfl) ?_
  obtain ⟨xx, ht, hx1, hx2, hx3, hx4⟩ := tab1 htab0
  refine th_call (As := [.int x]) (rest := [.int 0, .ref lo]) (b := a.o0) (C := "LineDisk") (own := "LineDiskLaw") (name := "java/lang/IndexOutOfBoundsException") (bytes := b_Ld_out) (maxL := 2) (ret := (some .int)) hx hb hml hown (t_Ld_out1 l hfl dC dI a L x h1 q s.heap.size) (cP.blind xE_bl) (by decide) (by decide) (pay_in hts (gi w_558)) (hts _ w_558) (hts _ w_555) (hts _ w_556) (hts _ w_557) (hts _ w_1) (by decide +kernel) (fun sig h => ?_) (va_recv (q0 := 0) hK hP (ci := 0) rfl rfl) (cP.pre (A := A) hP hD hK hkw (xE_of hX (fun _ _ => rfl))) hl.1 (Nat.le_of_ble_eq_true rfl) d_La_out_4 (by decide) (by decide) ht (by simp [covers, hx1, hx2]) (by rw [hx4]; decide) (by rw [hx4]; exact hts _ w_554) (hkw.use v_561 rfl) rfl (fun ea H hz9 hk9 => ?_)
  · cases (show some sig = parseMethodDescriptor y_Ld_out.desc from h.symm).trans (by decide +kernel : parseMethodDescriptor y_Ld_out.desc = some ⟨[.int], (some .int)⟩)
    rfl
  rw [hx3]
  have hS : va_S A s.heap H [] := ⟨hz9, fun q h _ => hk9 q h, fun _ h => by cases h⟩
  have hP : va_P (dC, dI) cls [(a.o0, .inr (0, [.ref a.s0, .ref a.j0, .ref a.h0, .ref a.m0, .ref a.kp, .int L.oc]))] H := va_P_kp hP hk9
  refine W.widen (k := 1) (n := 6) (by decide) (by decide) ?_
  refine lv_astore_n (i := 3) hx hb d_La_out_12 rfl hl (by decide) rfl (fun ls hl => ?_)
  have hl : lv_has ls 4 [(3, .ref ea), (0, .ref a.o0), (1, .int x), (2, .ref lo)] := hl
  refine lv_iconst (v := 1) hx hb d_La_out_13 (by decide) ?_
  exact W.iret (v := 1) hx hb hr (fun t ht hW => ⟨⟨1, (), rfl, rfl, cB.of (hP.sub [0] rfl) (hD.sub [0] (by decide) rfl) (hK.sub [] rfl) ht hW⟩, hS.F ht⟩) hS.2.2 d_La_out_14
set_option maxHeartbeats 4000000 in
set_option maxRecDepth 100000 in
theorem h_out2 (l : Launch) (dC : Nat → ClassId) (dI : Nat → Nat → Nat) (hfl : l.flags = pinnedFlags ++ [noTraceFlag]) (a : LAd) (L : LSt) (lo : Nat) (x : Int32) (h1 : ¬ x < 0) (h2 : L.oc ≤ x) (q : Nat) (sz : Nat) : Met l y_La_out (Cond.codeWith y_La_out b_La_out 4 (some .int) [(0, 9, 12, 19)] :: gw) ({ frames := 7, cells := 1, slots := 6, locals := 121 }) (cP (dC, dI) [.ref a.o0, .int x, .ref lo] sz [(a.o0, .inr (0, [.ref a.s0, .ref a.j0, .ref a.h0, .ref a.m0, .ref a.kp, .int L.oc]))] [] (xE 119 "no such number is kept" q)) (va_Qi (fun (r : Int32) (u : Unit) => r = 1) (fun (u : Unit) t => cB (dC, dI) (va_A [(a.o0, .inr (0, [.ref a.s0, .ref a.j0, .ref a.h0, .ref a.m0, .ref a.kp, .int L.oc]))] sz) [(a.o0, .inr (0, [.ref a.s0, .ref a.j0, .ref a.h0, .ref a.m0, .ref a.kp, .int L.oc]))] [] t) (va_A [(a.o0, .inr (0, [.ref a.s0, .ref a.j0, .ref a.h0, .ref a.m0, .ref a.kp, .int L.oc]))] sz)) 1 6 (va_A [(a.o0, .inr (0, [.ref a.s0, .ref a.j0, .ref a.h0, .ref a.m0, .ref a.kp, .int L.oc]))] sz) := by
  refine tw_ofW (hh := [(0, 9, 12, 19)]) (cc := b_La_out) (maxL := 4) (ret := (some .int)) (by decide) rfl ?_
  intro p e s m args below meth c s₁ B hml htab0 hv
  obtain ⟨rfl, hsz, hP, hK, hD0, hkw, hX⟩ := hv
  have hx := B.exec
  have hb := B.bytes
  have hr := B.returns
  have hts := fun w hw => atoms_spec (ws := Cond.codeWith y_La_out b_La_out 4 (some .int) [(0, 9, 12, 19)] :: gw) B.pre w (List.mem_cons_of_mem _ hw)
  have hown : s.vm.findClass "LineDiskLaw" = some m.cls := findClass_of_methodNamed B.named
  have hlocks := B.notSynchronized
  have hin := (name_of_methodNamed B.named B.method).1
  subst hsz
  have hD := hD0.self (sz := s.heap.size)
  generalize hAe : va_A [(a.o0, .inr (0, [.ref a.s0, .ref a.j0, .ref a.h0, .ref a.m0, .ref a.kp, .int L.oc]))] s.heap.size = A at hD ⊢
  have hA : ∀ q : Nat, s.heap.size ≤ q → A q := fun q h => by rw [← hAe]; exact Or.inr h
  have hS : va_S A s.heap s.heap [] := va_S.rf
  have hl := lv_entry ([.ref a.o0, .int x, .ref lo]) (n := 4) (Nat.le_of_ble_eq_true rfl)
  rw [lg_entry_eq]
  generalize (lg_sl ([.ref a.o0, .int x, .ref lo]) ++ List.replicate (4 - (lg_sl ([.ref a.o0, .int x, .ref lo])).length) Slot.unset).toArray = ls at hl ⊢
  have hl : lv_has ls 4 [(0, .ref a.o0), (1, .int x), (2, .ref lo)] := hl
  have F : CallFix p m c b_La_out 4 s ([.ref a.o0, .int x, .ref lo]).toArray gw "LineDiskLaw" := ⟨hx, hb, hml, hown, hts⟩
  refine lv_aload_n hx hb d_La_out_0 rfl (lv_at hl 2 rfl) ?_
  refine lv_iconst (v := 0) hx hb d_La_out_1 (by decide) ?_
  refine lv_aload_n hx hb d_La_out_2 rfl (lv_at hl 0 rfl) ?_
  refine lv_iload_n hx hb d_La_out_3 rfl (lv_at hl 1 rfl) ?_
  obtain ⟨xx, ht, hx1, hx2, hx3, hx4⟩ := tab1 htab0
  refine th_call (As := [.int x]) (rest := [.int 0, .ref lo]) (b := a.o0) (C := "LineDisk") (own := "LineDiskLaw") (name := "java/lang/IndexOutOfBoundsException") (bytes := b_Ld_out) (maxL := 2) (ret := (some .int)) hx hb hml hown (t_Ld_out2 l hfl dC dI a L x h1 h2 q s.heap.size) (cP.blind xE_bl) (by decide) (by decide) (pay_in hts (gi w_558)) (hts _ w_558) (hts _ w_555) (hts _ w_556) (hts _ w_557) (hts _ w_1) (by decide +kernel) (fun sig h => ?_) (va_recv (q0 := 0) hK hP (ci := 0) rfl rfl) (cP.pre (A := A) hP hD hK hkw (xE_of hX (fun _ _ => rfl))) hl.1 (Nat.le_of_ble_eq_true rfl) d_La_out_4 (by decide) (by decide) ht (by simp [covers, hx1, hx2]) (by rw [hx4]; decide) (by rw [hx4]; exact hts _ w_554) (hkw.use v_561 rfl) rfl (fun ea H hz9 hk9 => ?_)
  · cases (show some sig = parseMethodDescriptor y_Ld_out.desc from h.symm).trans (by decide +kernel : parseMethodDescriptor y_Ld_out.desc = some ⟨[.int], (some .int)⟩)
    rfl
  rw [hx3]
  have hS : va_S A s.heap H [] := ⟨hz9, fun q h _ => hk9 q h, fun _ h => by cases h⟩
  have hP : va_P (dC, dI) cls [(a.o0, .inr (0, [.ref a.s0, .ref a.j0, .ref a.h0, .ref a.m0, .ref a.kp, .int L.oc]))] H := va_P_kp hP hk9
  refine W.widen (k := 1) (n := 6) (by decide) (by decide) ?_
  refine lv_astore_n (i := 3) hx hb d_La_out_12 rfl hl (by decide) rfl (fun ls hl => ?_)
  have hl : lv_has ls 4 [(3, .ref ea), (0, .ref a.o0), (1, .int x), (2, .ref lo)] := hl
  refine lv_iconst (v := 1) hx hb d_La_out_13 (by decide) ?_
  exact W.iret (v := 1) hx hb hr (fun t ht hW => ⟨⟨1, (), rfl, rfl, cB.of (hP.sub [0] rfl) (hD.sub [0] (by decide) rfl) (hK.sub [] rfl) ht hW⟩, hS.F ht⟩) hS.2.2 d_La_out_14
set_option maxHeartbeats 4000000 in
set_option maxRecDepth 100000 in
theorem h_out3 (l : Launch) (dC : Nat → ClassId) (dI : Nat → Nat → Nat) (hfl : l.flags = pinnedFlags ++ [noTraceFlag]) (a : LAd) (L : LSt) (lo : Nat) (x : Int32) (h1 : ¬ x < 0) (h2 : ¬ L.oc ≤ x) (h3 : ¬ x < 60) (q : Nat) (sz : Nat) : Met l y_La_out (Cond.codeWith y_La_out b_La_out 4 (some .int) [(0, 9, 12, 19)] :: gw) ({ frames := 7, cells := 1, slots := 6, locals := 121 }) (cP (dC, dI) [.ref a.o0, .int x, .ref lo] sz [(a.o0, .inr (0, [.ref a.s0, .ref a.j0, .ref a.h0, .ref a.m0, .ref a.kp, .int L.oc]))] [] (xE 119 "no such number is kept" q)) (va_Qi (fun (r : Int32) (u : Unit) => r = 1) (fun (u : Unit) t => cB (dC, dI) (va_A [(a.o0, .inr (0, [.ref a.s0, .ref a.j0, .ref a.h0, .ref a.m0, .ref a.kp, .int L.oc]))] sz) [(a.o0, .inr (0, [.ref a.s0, .ref a.j0, .ref a.h0, .ref a.m0, .ref a.kp, .int L.oc]))] [] t) (va_A [(a.o0, .inr (0, [.ref a.s0, .ref a.j0, .ref a.h0, .ref a.m0, .ref a.kp, .int L.oc]))] sz)) 1 6 (va_A [(a.o0, .inr (0, [.ref a.s0, .ref a.j0, .ref a.h0, .ref a.m0, .ref a.kp, .int L.oc]))] sz) := by
  refine tw_ofW (hh := [(0, 9, 12, 19)]) (cc := b_La_out) (maxL := 4) (ret := (some .int)) (by decide) rfl ?_
  intro p e s m args below meth c s₁ B hml htab0 hv
  obtain ⟨rfl, hsz, hP, hK, hD0, hkw, hX⟩ := hv
  have hx := B.exec
  have hb := B.bytes
  have hr := B.returns
  have hts := fun w hw => atoms_spec (ws := Cond.codeWith y_La_out b_La_out 4 (some .int) [(0, 9, 12, 19)] :: gw) B.pre w (List.mem_cons_of_mem _ hw)
  have hown : s.vm.findClass "LineDiskLaw" = some m.cls := findClass_of_methodNamed B.named
  have hlocks := B.notSynchronized
  have hin := (name_of_methodNamed B.named B.method).1
  subst hsz
  have hD := hD0.self (sz := s.heap.size)
  generalize hAe : va_A [(a.o0, .inr (0, [.ref a.s0, .ref a.j0, .ref a.h0, .ref a.m0, .ref a.kp, .int L.oc]))] s.heap.size = A at hD ⊢
  have hA : ∀ q : Nat, s.heap.size ≤ q → A q := fun q h => by rw [← hAe]; exact Or.inr h
  have hS : va_S A s.heap s.heap [] := va_S.rf
  have hl := lv_entry ([.ref a.o0, .int x, .ref lo]) (n := 4) (Nat.le_of_ble_eq_true rfl)
  rw [lg_entry_eq]
  generalize (lg_sl ([.ref a.o0, .int x, .ref lo]) ++ List.replicate (4 - (lg_sl ([.ref a.o0, .int x, .ref lo])).length) Slot.unset).toArray = ls at hl ⊢
  have hl : lv_has ls 4 [(0, .ref a.o0), (1, .int x), (2, .ref lo)] := hl
  have F : CallFix p m c b_La_out 4 s ([.ref a.o0, .int x, .ref lo]).toArray gw "LineDiskLaw" := ⟨hx, hb, hml, hown, hts⟩
  refine lv_aload_n hx hb d_La_out_0 rfl (lv_at hl 2 rfl) ?_
  refine lv_iconst (v := 0) hx hb d_La_out_1 (by decide) ?_
  refine lv_aload_n hx hb d_La_out_2 rfl (lv_at hl 0 rfl) ?_
  refine lv_iload_n hx hb d_La_out_3 rfl (lv_at hl 1 rfl) ?_
  obtain ⟨xx, ht, hx1, hx2, hx3, hx4⟩ := tab1 htab0
  refine th_call (As := [.int x]) (rest := [.int 0, .ref lo]) (b := a.o0) (C := "LineDisk") (own := "LineDiskLaw") (name := "java/lang/IndexOutOfBoundsException") (bytes := b_Ld_out) (maxL := 2) (ret := (some .int)) hx hb hml hown (t_Ld_out3 l hfl dC dI a L x h1 h2 h3 q s.heap.size) (cP.blind xE_bl) (by decide) (by decide) (pay_in hts (gi w_558)) (hts _ w_558) (hts _ w_555) (hts _ w_556) (hts _ w_557) (hts _ w_1) (by decide +kernel) (fun sig h => ?_) (va_recv (q0 := 0) hK hP (ci := 0) rfl rfl) (cP.pre (A := A) hP hD hK hkw (xE_of hX (fun _ _ => rfl))) hl.1 (Nat.le_of_ble_eq_true rfl) d_La_out_4 (by decide) (by decide) ht (by simp [covers, hx1, hx2]) (by rw [hx4]; decide) (by rw [hx4]; exact hts _ w_554) (hkw.use v_561 rfl) rfl (fun ea H hz9 hk9 => ?_)
  · cases (show some sig = parseMethodDescriptor y_Ld_out.desc from h.symm).trans (by decide +kernel : parseMethodDescriptor y_Ld_out.desc = some ⟨[.int], (some .int)⟩)
    rfl
  rw [hx3]
  have hS : va_S A s.heap H [] := ⟨hz9, fun q h _ => hk9 q h, fun _ h => by cases h⟩
  have hP : va_P (dC, dI) cls [(a.o0, .inr (0, [.ref a.s0, .ref a.j0, .ref a.h0, .ref a.m0, .ref a.kp, .int L.oc]))] H := va_P_kp hP hk9
  refine W.widen (k := 1) (n := 6) (by decide) (by decide) ?_
  refine lv_astore_n (i := 3) hx hb d_La_out_12 rfl hl (by decide) rfl (fun ls hl => ?_)
  have hl : lv_has ls 4 [(3, .ref ea), (0, .ref a.o0), (1, .int x), (2, .ref lo)] := hl
  refine lv_iconst (v := 1) hx hb d_La_out_13 (by decide) ?_
  exact W.iret (v := 1) hx hb hr (fun t ht hW => ⟨⟨1, (), rfl, rfl, cB.of (hP.sub [0] rfl) (hD.sub [0] (by decide) rfl) (hK.sub [] rfl) ht hW⟩, hS.F ht⟩) hS.2.2 d_La_out_14
set_option maxHeartbeats 4000000 in
set_option maxRecDepth 100000 in
theorem h_disk1 (l : Launch) (dC : Nat → ClassId) (dI : Nat → Nat → Nat) (hfl : l.flags = pinnedFlags ++ [noTraceFlag]) (a : LAd) (L : LSt) (lo : Nat) (x : Int32) (h1 : x < 0) (q : Nat) (sz : Nat) : Met l y_La_disk (Cond.codeWith y_La_disk b_La_disk 4 (some .int) [(0, 9, 12, 19)] :: gw) ({ frames := 7, cells := 1, slots := 6, locals := 121 }) (cP (dC, dI) [.ref a.o0, .int x, .ref lo] sz [(a.o0, .inr (0, [.ref a.s0, .ref a.j0, .ref a.h0, .ref a.m0, .ref a.kp, .int L.oc]))] [] (xE 122 "no such cell" q)) (va_Qi (fun (r : Int32) (u : Unit) => r = 1) (fun (u : Unit) t => cB (dC, dI) (va_A [(a.o0, .inr (0, [.ref a.s0, .ref a.j0, .ref a.h0, .ref a.m0, .ref a.kp, .int L.oc]))] sz) [(a.o0, .inr (0, [.ref a.s0, .ref a.j0, .ref a.h0, .ref a.m0, .ref a.kp, .int L.oc]))] [] t) (va_A [(a.o0, .inr (0, [.ref a.s0, .ref a.j0, .ref a.h0, .ref a.m0, .ref a.kp, .int L.oc]))] sz)) 1 6 (va_A [(a.o0, .inr (0, [.ref a.s0, .ref a.j0, .ref a.h0, .ref a.m0, .ref a.kp, .int L.oc]))] sz) := by
  refine tw_ofW (hh := [(0, 9, 12, 19)]) (cc := b_La_disk) (maxL := 4) (ret := (some .int)) (by decide) rfl ?_
  intro p e s m args below meth c s₁ B hml htab0 hv
  obtain ⟨rfl, hsz, hP, hK, hD0, hkw, hX⟩ := hv
  have hx := B.exec
  have hb := B.bytes
  have hr := B.returns
  have hts := fun w hw => atoms_spec (ws := Cond.codeWith y_La_disk b_La_disk 4 (some .int) [(0, 9, 12, 19)] :: gw) B.pre w (List.mem_cons_of_mem _ hw)
  have hown : s.vm.findClass "LineDiskLaw" = some m.cls := findClass_of_methodNamed B.named
  have hlocks := B.notSynchronized
  have hin := (name_of_methodNamed B.named B.method).1
  subst hsz
  have hD := hD0.self (sz := s.heap.size)
  generalize hAe : va_A [(a.o0, .inr (0, [.ref a.s0, .ref a.j0, .ref a.h0, .ref a.m0, .ref a.kp, .int L.oc]))] s.heap.size = A at hD ⊢
  have hA : ∀ q : Nat, s.heap.size ≤ q → A q := fun q h => by rw [← hAe]; exact Or.inr h
  have hS : va_S A s.heap s.heap [] := va_S.rf
  have hl := lv_entry ([.ref a.o0, .int x, .ref lo]) (n := 4) (Nat.le_of_ble_eq_true rfl)
  rw [lg_entry_eq]
  generalize (lg_sl ([.ref a.o0, .int x, .ref lo]) ++ List.replicate (4 - (lg_sl ([.ref a.o0, .int x, .ref lo])).length) Slot.unset).toArray = ls at hl ⊢
  have hl : lv_has ls 4 [(0, .ref a.o0), (1, .int x), (2, .ref lo)] := hl
  have F : CallFix p m c b_La_disk 4 s ([.ref a.o0, .int x, .ref lo]).toArray gw "LineDiskLaw" := ⟨hx, hb, hml, hown, hts⟩
  refine lv_aload_n hx hb d_La_disk_0 rfl (lv_at hl 2 rfl) ?_
  refine lv_iconst (v := 0) hx hb d_La_disk_1 (by decide) ?_
  refine lv_aload_n hx hb d_La_disk_2 rfl (lv_at hl 0 rfl) ?_
  refine lv_iload_n hx hb d_La_disk_3 rfl (lv_at hl 1 rfl) ?_
  obtain ⟨xx, ht, hx1, hx2, hx3, hx4⟩ := tab1 htab0
  refine th_call (As := [.int x]) (rest := [.int 0, .ref lo]) (b := a.o0) (C := "LineDisk") (own := "LineDiskLaw") (name := "java/lang/IndexOutOfBoundsException") (bytes := b_Ld_disk) (maxL := 2) (ret := (some .int)) hx hb hml hown (t_Ld_disk1 l hfl dC dI a L x h1 q s.heap.size) (cP.blind xE_bl) (by decide) (by decide) (pay_in hts (gi w_581)) (hts _ w_581) (hts _ w_578) (hts _ w_579) (hts _ w_580) (hts _ w_1) (by decide +kernel) (fun sig h => ?_) (va_recv (q0 := 0) hK hP (ci := 0) rfl rfl) (cP.pre (A := A) hP hD hK hkw (xE_of hX (fun _ _ => rfl))) hl.1 (Nat.le_of_ble_eq_true rfl) d_La_disk_4 (by decide) (by decide) ht (by simp [covers, hx1, hx2]) (by rw [hx4]; decide) (by rw [hx4]; exact hts _ w_554) (hkw.use v_561 rfl) rfl (fun ea H hz9 hk9 => ?_)
  · cases (show some sig = parseMethodDescriptor y_Ld_disk.desc from h.symm).trans (by decide +kernel : parseMethodDescriptor y_Ld_disk.desc = some ⟨[.int], (some .int)⟩)
    rfl
  rw [hx3]
  have hS : va_S A s.heap H [] := ⟨hz9, fun q h _ => hk9 q h, fun _ h => by cases h⟩
  have hP : va_P (dC, dI) cls [(a.o0, .inr (0, [.ref a.s0, .ref a.j0, .ref a.h0, .ref a.m0, .ref a.kp, .int L.oc]))] H := va_P_kp hP hk9
  refine W.widen (k := 1) (n := 6) (by decide) (by decide) ?_
  refine lv_astore_n (i := 3) hx hb d_La_disk_12 rfl hl (by decide) rfl (fun ls hl => ?_)
  have hl : lv_has ls 4 [(3, .ref ea), (0, .ref a.o0), (1, .int x), (2, .ref lo)] := hl
  refine lv_iconst (v := 1) hx hb d_La_disk_13 (by decide) ?_
  exact W.iret (v := 1) hx hb hr (fun t ht hW => ⟨⟨1, (), rfl, rfl, cB.of (hP.sub [0] rfl) (hD.sub [0] (by decide) rfl) (hK.sub [] rfl) ht hW⟩, hS.F ht⟩) hS.2.2 d_La_disk_14
set_option maxHeartbeats 4000000 in
set_option maxRecDepth 100000 in
theorem h_disk2 (l : Launch) (dC : Nat → ClassId) (dI : Nat → Nat → Nat) (hfl : l.flags = pinnedFlags ++ [noTraceFlag]) (a : LAd) (L : LSt) (lo : Nat) (x : Int32) (h1 : ¬ x < 0) (h2 : ¬ x < 512) (q : Nat) (sz : Nat) : Met l y_La_disk (Cond.codeWith y_La_disk b_La_disk 4 (some .int) [(0, 9, 12, 19)] :: gw) ({ frames := 7, cells := 1, slots := 6, locals := 121 }) (cP (dC, dI) [.ref a.o0, .int x, .ref lo] sz [(a.o0, .inr (0, [.ref a.s0, .ref a.j0, .ref a.h0, .ref a.m0, .ref a.kp, .int L.oc]))] [] (xE 122 "no such cell" q)) (va_Qi (fun (r : Int32) (u : Unit) => r = 1) (fun (u : Unit) t => cB (dC, dI) (va_A [(a.o0, .inr (0, [.ref a.s0, .ref a.j0, .ref a.h0, .ref a.m0, .ref a.kp, .int L.oc]))] sz) [(a.o0, .inr (0, [.ref a.s0, .ref a.j0, .ref a.h0, .ref a.m0, .ref a.kp, .int L.oc]))] [] t) (va_A [(a.o0, .inr (0, [.ref a.s0, .ref a.j0, .ref a.h0, .ref a.m0, .ref a.kp, .int L.oc]))] sz)) 1 6 (va_A [(a.o0, .inr (0, [.ref a.s0, .ref a.j0, .ref a.h0, .ref a.m0, .ref a.kp, .int L.oc]))] sz) := by
  refine tw_ofW (hh := [(0, 9, 12, 19)]) (cc := b_La_disk) (maxL := 4) (ret := (some .int)) (by decide) rfl ?_
  intro p e s m args below meth c s₁ B hml htab0 hv
  obtain ⟨rfl, hsz, hP, hK, hD0, hkw, hX⟩ := hv
  have hx := B.exec
  have hb := B.bytes
  have hr := B.returns
  have hts := fun w hw => atoms_spec (ws := Cond.codeWith y_La_disk b_La_disk 4 (some .int) [(0, 9, 12, 19)] :: gw) B.pre w (List.mem_cons_of_mem _ hw)
  have hown : s.vm.findClass "LineDiskLaw" = some m.cls := findClass_of_methodNamed B.named
  have hlocks := B.notSynchronized
  have hin := (name_of_methodNamed B.named B.method).1
  subst hsz
  have hD := hD0.self (sz := s.heap.size)
  generalize hAe : va_A [(a.o0, .inr (0, [.ref a.s0, .ref a.j0, .ref a.h0, .ref a.m0, .ref a.kp, .int L.oc]))] s.heap.size = A at hD ⊢
  have hA : ∀ q : Nat, s.heap.size ≤ q → A q := fun q h => by rw [← hAe]; exact Or.inr h
  have hS : va_S A s.heap s.heap [] := va_S.rf
  have hl := lv_entry ([.ref a.o0, .int x, .ref lo]) (n := 4) (Nat.le_of_ble_eq_true rfl)
  rw [lg_entry_eq]
  generalize (lg_sl ([.ref a.o0, .int x, .ref lo]) ++ List.replicate (4 - (lg_sl ([.ref a.o0, .int x, .ref lo])).length) Slot.unset).toArray = ls at hl ⊢
  have hl : lv_has ls 4 [(0, .ref a.o0), (1, .int x), (2, .ref lo)] := hl
  have F : CallFix p m c b_La_disk 4 s ([.ref a.o0, .int x, .ref lo]).toArray gw "LineDiskLaw" := ⟨hx, hb, hml, hown, hts⟩
  refine lv_aload_n hx hb d_La_disk_0 rfl (lv_at hl 2 rfl) ?_
  refine lv_iconst (v := 0) hx hb d_La_disk_1 (by decide) ?_
  refine lv_aload_n hx hb d_La_disk_2 rfl (lv_at hl 0 rfl) ?_
  refine lv_iload_n hx hb d_La_disk_3 rfl (lv_at hl 1 rfl) ?_
  obtain ⟨xx, ht, hx1, hx2, hx3, hx4⟩ := tab1 htab0
  refine th_call (As := [.int x]) (rest := [.int 0, .ref lo]) (b := a.o0) (C := "LineDisk") (own := "LineDiskLaw") (name := "java/lang/IndexOutOfBoundsException") (bytes := b_Ld_disk) (maxL := 2) (ret := (some .int)) hx hb hml hown (t_Ld_disk2 l hfl dC dI a L x h1 h2 q s.heap.size) (cP.blind xE_bl) (by decide) (by decide) (pay_in hts (gi w_581)) (hts _ w_581) (hts _ w_578) (hts _ w_579) (hts _ w_580) (hts _ w_1) (by decide +kernel) (fun sig h => ?_) (va_recv (q0 := 0) hK hP (ci := 0) rfl rfl) (cP.pre (A := A) hP hD hK hkw (xE_of hX (fun _ _ => rfl))) hl.1 (Nat.le_of_ble_eq_true rfl) d_La_disk_4 (by decide) (by decide) ht (by simp [covers, hx1, hx2]) (by rw [hx4]; decide) (by rw [hx4]; exact hts _ w_554) (hkw.use v_561 rfl) rfl (fun ea H hz9 hk9 => ?_)
  · cases (show some sig = parseMethodDescriptor y_Ld_disk.desc from h.symm).trans (by decide +kernel : parseMethodDescriptor y_Ld_disk.desc = some ⟨[.int], (some .int)⟩)
    rfl
  rw [hx3]
  have hS : va_S A s.heap H [] := ⟨hz9, fun q h _ => hk9 q h, fun _ h => by cases h⟩
  have hP : va_P (dC, dI) cls [(a.o0, .inr (0, [.ref a.s0, .ref a.j0, .ref a.h0, .ref a.m0, .ref a.kp, .int L.oc]))] H := va_P_kp hP hk9
  refine W.widen (k := 1) (n := 6) (by decide) (by decide) ?_
  refine lv_astore_n (i := 3) hx hb d_La_disk_12 rfl hl (by decide) rfl (fun ls hl => ?_)
  have hl : lv_has ls 4 [(3, .ref ea), (0, .ref a.o0), (1, .int x), (2, .ref lo)] := hl
  refine lv_iconst (v := 1) hx hb d_La_disk_13 (by decide) ?_
  exact W.iret (v := 1) hx hb hr (fun t ht hW => ⟨⟨1, (), rfl, rfl, cB.of (hP.sub [0] rfl) (hD.sub [0] (by decide) rfl) (hK.sub [] rfl) ht hW⟩, hS.F ht⟩) hS.2.2 d_La_disk_14
