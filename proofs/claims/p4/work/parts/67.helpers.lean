/-! the law's helpers -/
theorem va_P_kp {D : va_G} {cl : List vw_C} {a ci : Nat} {fs : List Value} {H H1 : Heap} (h : va_P D cl [(a, .inr (ci, fs))] H) (hk : ∀ q : Nat, q < H.size → H1[q]? = H[q]?) : va_P D cl [(a, .inr (ci, fs))] H1 := by
  refine h.kept (fun k q hq => ?_)
  match k, hq with
  | 0, hq =>
    cases hq
    obtain ⟨r, h1, cell, q1, _⟩ := h 0 _ rfl
    exact hk _ (Array.getElem?_eq_some_iff.mp q1).1
  | k + 1, hq => cases hq
set_option maxHeartbeats 4000000 in
set_option maxRecDepth 100000 in
theorem h_arm1 (l : Launch) (dC : Nat → ClassId) (dI : Nat → Nat → Nat) (hfl : l.flags = pinnedFlags ++ [noTraceFlag]) (a : LAd) (L : LSt) (lo : Nat) (x : Int32) (h1 : x < 0) (q : Nat) (sz : Nat) : Met l y_La_arm (Cond.codeWith y_La_arm b_La_arm 4 (some .int) [(0, 16, 19, 13)] :: gw) ({ frames := 7, cells := 1, slots := 6, locals := 121 }) (cP (dC, dI) [.ref a.o0, .int x, .ref lo] sz [(a.o0, .inr (0, [.ref a.s0, .ref a.j0, .ref a.h0, .ref a.m0, .ref a.kp, .int L.oc]))] [] (xE 112 "armed with 0 to 1000 writes" q)) (va_Qi (fun (r : Int32) (u : Unit) => r = 1) (fun (u : Unit) t => cB (dC, dI) (va_A [(a.o0, .inr (0, [.ref a.s0, .ref a.j0, .ref a.h0, .ref a.m0, .ref a.kp, .int L.oc]))] sz) [(a.o0, .inr (0, [.ref a.s0, .ref a.j0, .ref a.h0, .ref a.m0, .ref a.kp, .int L.oc]))] [] t) (va_A [(a.o0, .inr (0, [.ref a.s0, .ref a.j0, .ref a.h0, .ref a.m0, .ref a.kp, .int L.oc]))] sz)) 1 6 (va_A [(a.o0, .inr (0, [.ref a.s0, .ref a.j0, .ref a.h0, .ref a.m0, .ref a.kp, .int L.oc]))] sz) := by
  refine tw_ofW (hh := [(0, 16, 19, 13)]) (cc := b_La_arm) (maxL := 4) (ret := (some .int)) (by decide) rfl ?_
  intro p e s m args below meth c s₁ B hml htab0 hv
  obtain ⟨rfl, hsz, hP, hK, hD0, hkw, hX⟩ := hv
  have hx := B.exec
  have hb := B.bytes
  have hr := B.returns
  have hts := fun w hw => atoms_spec (ws := Cond.codeWith y_La_arm b_La_arm 4 (some .int) [(0, 16, 19, 13)] :: gw) B.pre w (List.mem_cons_of_mem _ hw)
  have hown : s.vm.findClass "LineDiskLaw" = some m.cls := findClass_of_methodNamed B.named
  have hlocks := B.notSynchronized
  have hin := (name_of_methodNamed B.named B.method).1
  subst hsz
  have hD := hD0.self (sz := s.heap.size)
  generalize hAe : va_A [(a.o0, .inr (0, [.ref a.s0, .ref a.j0, .ref a.h0, .ref a.m0, .ref a.kp, .int L.oc]))] s.heap.size = A at hD ⊢
  have hA : ∀ q : Nat, s.heap.size ≤ q → A q := fun q h => by rw [← hAe]; exact Or.inr h
  have hS : va_S A s.heap s.heap [] := va_S.rf
  have hl := lv_entry ([.ref a.o0, .int x, .ref lo]) (n := 4) (Nat.le_of_ble_eq_true rfl)
  rw [lg_entry_eq]
  generalize (lg_sl ([.ref a.o0, .int x, .ref lo]) ++ List.replicate (4 - (lg_sl ([.ref a.o0, .int x, .ref lo])).length) Slot.unset).toArray = ls at hl ⊢
  have hl : lv_has ls 4 [(0, .ref a.o0), (1, .int x), (2, .ref lo)] := hl
  have F : CallFix p m c b_La_arm 4 s ([.ref a.o0, .int x, .ref lo]).toArray gw "LineDiskLaw" := ⟨hx, hb, hml, hown, hts⟩
  refine lv_aload_n hx hb d_La_arm_0 rfl (lv_at hl 2 rfl) ?_
  refine lv_iconst (v := 0) hx hb d_La_arm_1 (by decide) ?_
  refine lv_aload_n hx hb d_La_arm_2 rfl (lv_at hl 0 rfl) ?_
  refine lv_iload_n hx hb d_La_arm_3 rfl (lv_at hl 1 rfl) ?_
  obtain ⟨xx, ht, hx1, hx2, hx3, hx4⟩ := tab1 htab0
  refine th_call (As := [.int x]) (rest := [.int 0, .ref lo]) (b := a.o0) (C := "LineDisk") (own := "LineDiskLaw") (name := "java/lang/IllegalArgumentException") (bytes := b_Ld_arm) (maxL := 2) (ret := (some .boolean)) hx hb hml hown (t_Ld_arm1 l hfl dC dI a L x h1 q s.heap.size) (cP.blind xE_bl) (by decide) (by decide) (pay_in hts (gi w_483)) (hts _ w_483) (hts _ w_480) (hts _ w_481) (hts _ w_482) (hts _ w_1) (by decide +kernel) (fun sig h => ?_) (va_recv (q0 := 0) hK hP (ci := 0) rfl rfl) (cP.pre (A := A) hP hD hK hkw (xE_of hX (fun _ _ => rfl))) hl.1 (Nat.le_of_ble_eq_true rfl) d_La_arm_4 (by decide) (by decide) ht (by simp [covers, hx1, hx2]) (by rw [hx4]; decide) (by rw [hx4]; exact hts _ w_479) (hkw.use v_486 rfl) rfl (fun ea H hz9 hk9 => ?_)
  · cases (show some sig = parseMethodDescriptor y_Ld_arm.desc from h.symm).trans (by decide +kernel : parseMethodDescriptor y_Ld_arm.desc = some ⟨[.int], (some .boolean)⟩)
    rfl
  rw [hx3]
  have hS : va_S A s.heap H [] := ⟨hz9, fun q h _ => hk9 q h, fun _ h => by cases h⟩
  have hP : va_P (dC, dI) cls [(a.o0, .inr (0, [.ref a.s0, .ref a.j0, .ref a.h0, .ref a.m0, .ref a.kp, .int L.oc]))] H := va_P_kp hP hk9
  refine W.widen (k := 1) (n := 6) (by decide) (by decide) ?_
  refine lv_astore_n (i := 3) hx hb d_La_arm_19 rfl hl (by decide) rfl (fun ls hl => ?_)
  have hl : lv_has ls 4 [(3, .ref ea), (0, .ref a.o0), (1, .int x), (2, .ref lo)] := hl
  refine lv_iconst (v := 1) hx hb d_La_arm_20 (by decide) ?_
  exact W.iret (v := 1) hx hb hr (fun t ht hW => ⟨⟨1, (), rfl, rfl, cB.of (hP.sub [0] rfl) (hD.sub [0] (by decide) rfl) (hK.sub [] rfl) ht hW⟩, hS.F ht⟩) hS.2.2 d_La_arm_21
set_option maxHeartbeats 4000000 in
set_option maxRecDepth 100000 in
theorem h_arm2 (l : Launch) (dC : Nat → ClassId) (dI : Nat → Nat → Nat) (hfl : l.flags = pinnedFlags ++ [noTraceFlag]) (a : LAd) (L : LSt) (lo : Nat) (x : Int32) (h1 : ¬ x < 0) (h2 : ¬ x ≤ 1000) (q : Nat) (sz : Nat) : Met l y_La_arm (Cond.codeWith y_La_arm b_La_arm 4 (some .int) [(0, 16, 19, 13)] :: gw) ({ frames := 7, cells := 1, slots := 6, locals := 121 }) (cP (dC, dI) [.ref a.o0, .int x, .ref lo] sz [(a.o0, .inr (0, [.ref a.s0, .ref a.j0, .ref a.h0, .ref a.m0, .ref a.kp, .int L.oc]))] [] (xE 112 "armed with 0 to 1000 writes" q)) (va_Qi (fun (r : Int32) (u : Unit) => r = 1) (fun (u : Unit) t => cB (dC, dI) (va_A [(a.o0, .inr (0, [.ref a.s0, .ref a.j0, .ref a.h0, .ref a.m0, .ref a.kp, .int L.oc]))] sz) [(a.o0, .inr (0, [.ref a.s0, .ref a.j0, .ref a.h0, .ref a.m0, .ref a.kp, .int L.oc]))] [] t) (va_A [(a.o0, .inr (0, [.ref a.s0, .ref a.j0, .ref a.h0, .ref a.m0, .ref a.kp, .int L.oc]))] sz)) 1 6 (va_A [(a.o0, .inr (0, [.ref a.s0, .ref a.j0, .ref a.h0, .ref a.m0, .ref a.kp, .int L.oc]))] sz) := by
  refine tw_ofW (hh := [(0, 16, 19, 13)]) (cc := b_La_arm) (maxL := 4) (ret := (some .int)) (by decide) rfl ?_
  intro p e s m args below meth c s₁ B hml htab0 hv
  obtain ⟨rfl, hsz, hP, hK, hD0, hkw, hX⟩ := hv
  have hx := B.exec
  have hb := B.bytes
  have hr := B.returns
  have hts := fun w hw => atoms_spec (ws := Cond.codeWith y_La_arm b_La_arm 4 (some .int) [(0, 16, 19, 13)] :: gw) B.pre w (List.mem_cons_of_mem _ hw)
  have hown : s.vm.findClass "LineDiskLaw" = some m.cls := findClass_of_methodNamed B.named
  have hlocks := B.notSynchronized
  have hin := (name_of_methodNamed B.named B.method).1
  subst hsz
  have hD := hD0.self (sz := s.heap.size)
  generalize hAe : va_A [(a.o0, .inr (0, [.ref a.s0, .ref a.j0, .ref a.h0, .ref a.m0, .ref a.kp, .int L.oc]))] s.heap.size = A at hD ⊢
  have hA : ∀ q : Nat, s.heap.size ≤ q → A q := fun q h => by rw [← hAe]; exact Or.inr h
  have hS : va_S A s.heap s.heap [] := va_S.rf
  have hl := lv_entry ([.ref a.o0, .int x, .ref lo]) (n := 4) (Nat.le_of_ble_eq_true rfl)
  rw [lg_entry_eq]
  generalize (lg_sl ([.ref a.o0, .int x, .ref lo]) ++ List.replicate (4 - (lg_sl ([.ref a.o0, .int x, .ref lo])).length) Slot.unset).toArray = ls at hl ⊢
  have hl : lv_has ls 4 [(0, .ref a.o0), (1, .int x), (2, .ref lo)] := hl
  have F : CallFix p m c b_La_arm 4 s ([.ref a.o0, .int x, .ref lo]).toArray gw "LineDiskLaw" := ⟨hx, hb, hml, hown, hts⟩
  refine lv_aload_n hx hb d_La_arm_0 rfl (lv_at hl 2 rfl) ?_
  refine lv_iconst (v := 0) hx hb d_La_arm_1 (by decide) ?_
  refine lv_aload_n hx hb d_La_arm_2 rfl (lv_at hl 0 rfl) ?_
  refine lv_iload_n hx hb d_La_arm_3 rfl (lv_at hl 1 rfl) ?_
  obtain ⟨xx, ht, hx1, hx2, hx3, hx4⟩ := tab1 htab0
  refine th_call (As := [.int x]) (rest := [.int 0, .ref lo]) (b := a.o0) (C := "LineDisk") (own := "LineDiskLaw") (name := "java/lang/IllegalArgumentException") (bytes := b_Ld_arm) (maxL := 2) (ret := (some .boolean)) hx hb hml hown (t_Ld_arm2 l hfl dC dI a L x h1 h2 q s.heap.size) (cP.blind xE_bl) (by decide) (by decide) (pay_in hts (gi w_483)) (hts _ w_483) (hts _ w_480) (hts _ w_481) (hts _ w_482) (hts _ w_1) (by decide +kernel) (fun sig h => ?_) (va_recv (q0 := 0) hK hP (ci := 0) rfl rfl) (cP.pre (A := A) hP hD hK hkw (xE_of hX (fun _ _ => rfl))) hl.1 (Nat.le_of_ble_eq_true rfl) d_La_arm_4 (by decide) (by decide) ht (by simp [covers, hx1, hx2]) (by rw [hx4]; decide) (by rw [hx4]; exact hts _ w_479) (hkw.use v_486 rfl) rfl (fun ea H hz9 hk9 => ?_)
  · cases (show some sig = parseMethodDescriptor y_Ld_arm.desc from h.symm).trans (by decide +kernel : parseMethodDescriptor y_Ld_arm.desc = some ⟨[.int], (some .boolean)⟩)
    rfl
  rw [hx3]
  have hS : va_S A s.heap H [] := ⟨hz9, fun q h _ => hk9 q h, fun _ h => by cases h⟩
  have hP : va_P (dC, dI) cls [(a.o0, .inr (0, [.ref a.s0, .ref a.j0, .ref a.h0, .ref a.m0, .ref a.kp, .int L.oc]))] H := va_P_kp hP hk9
  refine W.widen (k := 1) (n := 6) (by decide) (by decide) ?_
  refine lv_astore_n (i := 3) hx hb d_La_arm_19 rfl hl (by decide) rfl (fun ls hl => ?_)
  have hl : lv_has ls 4 [(3, .ref ea), (0, .ref a.o0), (1, .int x), (2, .ref lo)] := hl
  refine lv_iconst (v := 1) hx hb d_La_arm_20 (by decide) ?_
  exact W.iret (v := 1) hx hb hr (fun t ht hW => ⟨⟨1, (), rfl, rfl, cB.of (hP.sub [0] rfl) (hD.sub [0] (by decide) rfl) (hK.sub [] rfl) ht hW⟩, hS.F ht⟩) hS.2.2 d_La_arm_21
set_option maxHeartbeats 4000000 in
set_option maxRecDepth 100000 in
theorem h_arm9 (l : Launch) (dC : Nat → ClassId) (dI : Nat → Nat → Nat) (a : LAd) (L : LSt) (lo : Nat) (cO : ClassId) (g : Nat → Int64) (x : Int32) (h1 : ¬ x < 0) (h2 : ¬ 1000 < x) (sz : Nat) : Met l y_La_arm (Cond.codeWith y_La_arm b_La_arm 4 (some .int) [(0, 16, 19, 13)] :: gw) ({ frames := 3, cells := 0, slots := 0, locals := 82 }) (cP (dC, dI) [.ref a.o0, .int x, .ref lo] sz [(a.o0, .inr (0, [.ref a.s0, .ref a.j0, .ref a.h0, .ref a.m0, .ref a.kp, .int L.oc])), (a.s0, .inr (1, [.ref a.c0, .int L.ar, .int L.de, .int L.wr])), (a.c0, .inl (a.cA, 512, .inl L.g)), (a.j0, .inr (2, [.ref a.jr, .ref a.jh, .int (nI L.jt)])), (a.jr, .inl (a.cR, 96, .inl L.ro)), (a.jh, .inl (a.cH, 16, .inl L.hd)), (a.h0, .inr (3, [.ref a.w0, .ref a.w1, .ref a.w2, .ref a.w3, .ref a.w4, .ref a.w5, .int (nI L.wn), .int L.nx, .int (nI L.wc)])), (a.w0, .inl (a.cN, 10, .inl L.nu)), (a.w1, .inl (a.cL, 10, .inl L.le)), (a.w2, .inl (a.cX, 120, .inl L.te)), (a.w3, .inl (a.cU, 12, .inl L.un)), (a.w4, .inl (a.cV, 8, .inl L.va)), (a.w5, .inl (a.cT, 15, .inl L.ty)), (a.m0, .inr (4, [.ref a.sx, .ref a.sv, .int (nI L.en), .int (nI L.at1), .int L.go, .int L.kd, .int L.vr, .int L.fi, .int L.lf, .int L.sg, .int L.rt, .int L.tg])), (a.sx, .inl (a.cS, 12, .inl L.tx)), (a.sv, .inl (a.cW, 8, .inl L.tv)), (a.kp, .inl (a.cK, 60, .inl L.kf)), (lo, .inl (cO, 1, .inr (.inl g)))] [(a.cA, .int), (a.cR, .int), (a.cH, .int), (a.cN, .int), (a.cL, .int), (a.cX, .int), (a.cU, .int), (a.cV, .int), (a.cT, .int), (a.cS, .int), (a.cW, .int), (a.cK, .int), (cO, .long)] xT) (va_Qi (fun (r : Int32) (u : Unit) => r = 0) (fun (u : Unit) t => cB (dC, dI) (va_A [(a.o0, .inr (0, [.ref a.s0, .ref a.j0, .ref a.h0, .ref a.m0, .ref a.kp, .int L.oc])), (a.s0, .inr (1, [.ref a.c0, .int L.ar, .int L.de, .int L.wr])), (a.c0, .inl (a.cA, 512, .inl L.g)), (a.j0, .inr (2, [.ref a.jr, .ref a.jh, .int (nI L.jt)])), (a.jr, .inl (a.cR, 96, .inl L.ro)), (a.jh, .inl (a.cH, 16, .inl L.hd)), (a.h0, .inr (3, [.ref a.w0, .ref a.w1, .ref a.w2, .ref a.w3, .ref a.w4, .ref a.w5, .int (nI L.wn), .int L.nx, .int (nI L.wc)])), (a.w0, .inl (a.cN, 10, .inl L.nu)), (a.w1, .inl (a.cL, 10, .inl L.le)), (a.w2, .inl (a.cX, 120, .inl L.te)), (a.w3, .inl (a.cU, 12, .inl L.un)), (a.w4, .inl (a.cV, 8, .inl L.va)), (a.w5, .inl (a.cT, 15, .inl L.ty)), (a.m0, .inr (4, [.ref a.sx, .ref a.sv, .int (nI L.en), .int (nI L.at1), .int L.go, .int L.kd, .int L.vr, .int L.fi, .int L.lf, .int L.sg, .int L.rt, .int L.tg])), (a.sx, .inl (a.cS, 12, .inl L.tx)), (a.sv, .inl (a.cW, 8, .inl L.tv)), (a.kp, .inl (a.cK, 60, .inl L.kf)), (lo, .inl (cO, 1, .inr (.inl g)))] sz) [(a.o0, .inr (0, [.ref a.s0, .ref a.j0, .ref a.h0, .ref a.m0, .ref a.kp, .int ((amF L x).oc)])), (a.s0, .inr (1, [.ref a.c0, .int ((amF L x).ar), .int ((amF L x).de), .int ((amF L x).wr)])), (a.c0, .inl (a.cA, 512, .inl ((amF L x).g))), (a.j0, .inr (2, [.ref a.jr, .ref a.jh, .int (nI ((amF L x).jt))])), (a.jr, .inl (a.cR, 96, .inl ((amF L x).ro))), (a.jh, .inl (a.cH, 16, .inl ((amF L x).hd))), (a.h0, .inr (3, [.ref a.w0, .ref a.w1, .ref a.w2, .ref a.w3, .ref a.w4, .ref a.w5, .int (nI ((amF L x).wn)), .int ((amF L x).nx), .int (nI ((amF L x).wc))])), (a.w0, .inl (a.cN, 10, .inl ((amF L x).nu))), (a.w1, .inl (a.cL, 10, .inl ((amF L x).le))), (a.w2, .inl (a.cX, 120, .inl ((amF L x).te))), (a.w3, .inl (a.cU, 12, .inl ((amF L x).un))), (a.w4, .inl (a.cV, 8, .inl ((amF L x).va))), (a.w5, .inl (a.cT, 15, .inl ((amF L x).ty))), (a.m0, .inr (4, [.ref a.sx, .ref a.sv, .int (nI ((amF L x).en)), .int (nI ((amF L x).at1)), .int ((amF L x).go), .int ((amF L x).kd), .int ((amF L x).vr), .int ((amF L x).fi), .int ((amF L x).lf), .int ((amF L x).sg), .int ((amF L x).rt), .int ((amF L x).tg)])), (a.sx, .inl (a.cS, 12, .inl ((amF L x).tx))), (a.sv, .inl (a.cW, 8, .inl ((amF L x).tv))), (a.kp, .inl (a.cK, 60, .inl ((amF L x).kf))), (lo, .inl (cO, 1, .inr (.inl (vp_updL g (0 : Int32).toNatClampNeg 1))))] [(a.cA, .int), (a.cR, .int), (a.cH, .int), (a.cN, .int), (a.cL, .int), (a.cX, .int), (a.cU, .int), (a.cV, .int), (a.cT, .int), (a.cS, .int), (a.cW, .int), (a.cK, .int), (cO, .long)] t) (va_A [(a.o0, .inr (0, [.ref a.s0, .ref a.j0, .ref a.h0, .ref a.m0, .ref a.kp, .int L.oc])), (a.s0, .inr (1, [.ref a.c0, .int L.ar, .int L.de, .int L.wr])), (a.c0, .inl (a.cA, 512, .inl L.g)), (a.j0, .inr (2, [.ref a.jr, .ref a.jh, .int (nI L.jt)])), (a.jr, .inl (a.cR, 96, .inl L.ro)), (a.jh, .inl (a.cH, 16, .inl L.hd)), (a.h0, .inr (3, [.ref a.w0, .ref a.w1, .ref a.w2, .ref a.w3, .ref a.w4, .ref a.w5, .int (nI L.wn), .int L.nx, .int (nI L.wc)])), (a.w0, .inl (a.cN, 10, .inl L.nu)), (a.w1, .inl (a.cL, 10, .inl L.le)), (a.w2, .inl (a.cX, 120, .inl L.te)), (a.w3, .inl (a.cU, 12, .inl L.un)), (a.w4, .inl (a.cV, 8, .inl L.va)), (a.w5, .inl (a.cT, 15, .inl L.ty)), (a.m0, .inr (4, [.ref a.sx, .ref a.sv, .int (nI L.en), .int (nI L.at1), .int L.go, .int L.kd, .int L.vr, .int L.fi, .int L.lf, .int L.sg, .int L.rt, .int L.tg])), (a.sx, .inl (a.cS, 12, .inl L.tx)), (a.sv, .inl (a.cW, 8, .inl L.tv)), (a.kp, .inl (a.cK, 60, .inl L.kf)), (lo, .inl (cO, 1, .inr (.inl g)))] sz)) 0 0 (va_A [(a.o0, .inr (0, [.ref a.s0, .ref a.j0, .ref a.h0, .ref a.m0, .ref a.kp, .int L.oc])), (a.s0, .inr (1, [.ref a.c0, .int L.ar, .int L.de, .int L.wr])), (a.c0, .inl (a.cA, 512, .inl L.g)), (a.j0, .inr (2, [.ref a.jr, .ref a.jh, .int (nI L.jt)])), (a.jr, .inl (a.cR, 96, .inl L.ro)), (a.jh, .inl (a.cH, 16, .inl L.hd)), (a.h0, .inr (3, [.ref a.w0, .ref a.w1, .ref a.w2, .ref a.w3, .ref a.w4, .ref a.w5, .int (nI L.wn), .int L.nx, .int (nI L.wc)])), (a.w0, .inl (a.cN, 10, .inl L.nu)), (a.w1, .inl (a.cL, 10, .inl L.le)), (a.w2, .inl (a.cX, 120, .inl L.te)), (a.w3, .inl (a.cU, 12, .inl L.un)), (a.w4, .inl (a.cV, 8, .inl L.va)), (a.w5, .inl (a.cT, 15, .inl L.ty)), (a.m0, .inr (4, [.ref a.sx, .ref a.sv, .int (nI L.en), .int (nI L.at1), .int L.go, .int L.kd, .int L.vr, .int L.fi, .int L.lf, .int L.sg, .int L.rt, .int L.tg])), (a.sx, .inl (a.cS, 12, .inl L.tx)), (a.sv, .inl (a.cW, 8, .inl L.tv)), (a.kp, .inl (a.cK, 60, .inl L.kf)), (lo, .inl (cO, 1, .inr (.inl g)))] sz) := by
  refine tw_ofW (hh := [(0, 16, 19, 13)]) (cc := b_La_arm) (maxL := 4) (ret := (some .int)) (by decide) rfl ?_
  intro p e s m args below meth c s₁ B hml htab0 hv
  obtain ⟨rfl, hsz, hP, hK, hD0, hkw, hX⟩ := hv
  have hx := B.exec
  have hb := B.bytes
  have hr := B.returns
  have hts := fun w hw => atoms_spec (ws := Cond.codeWith y_La_arm b_La_arm 4 (some .int) [(0, 16, 19, 13)] :: gw) B.pre w (List.mem_cons_of_mem _ hw)
  have hown : s.vm.findClass "LineDiskLaw" = some m.cls := findClass_of_methodNamed B.named
  have hlocks := B.notSynchronized
  have hin := (name_of_methodNamed B.named B.method).1
  subst hsz
  have hD := hD0.self (sz := s.heap.size)
  generalize hAe : va_A [(a.o0, .inr (0, [.ref a.s0, .ref a.j0, .ref a.h0, .ref a.m0, .ref a.kp, .int L.oc])), (a.s0, .inr (1, [.ref a.c0, .int L.ar, .int L.de, .int L.wr])), (a.c0, .inl (a.cA, 512, .inl L.g)), (a.j0, .inr (2, [.ref a.jr, .ref a.jh, .int (nI L.jt)])), (a.jr, .inl (a.cR, 96, .inl L.ro)), (a.jh, .inl (a.cH, 16, .inl L.hd)), (a.h0, .inr (3, [.ref a.w0, .ref a.w1, .ref a.w2, .ref a.w3, .ref a.w4, .ref a.w5, .int (nI L.wn), .int L.nx, .int (nI L.wc)])), (a.w0, .inl (a.cN, 10, .inl L.nu)), (a.w1, .inl (a.cL, 10, .inl L.le)), (a.w2, .inl (a.cX, 120, .inl L.te)), (a.w3, .inl (a.cU, 12, .inl L.un)), (a.w4, .inl (a.cV, 8, .inl L.va)), (a.w5, .inl (a.cT, 15, .inl L.ty)), (a.m0, .inr (4, [.ref a.sx, .ref a.sv, .int (nI L.en), .int (nI L.at1), .int L.go, .int L.kd, .int L.vr, .int L.fi, .int L.lf, .int L.sg, .int L.rt, .int L.tg])), (a.sx, .inl (a.cS, 12, .inl L.tx)), (a.sv, .inl (a.cW, 8, .inl L.tv)), (a.kp, .inl (a.cK, 60, .inl L.kf)), (lo, .inl (cO, 1, .inr (.inl g)))] s.heap.size = A at hD ⊢
  have hA : ∀ q : Nat, s.heap.size ≤ q → A q := fun q h => by rw [← hAe]; exact Or.inr h
  have hS : va_S A s.heap s.heap [] := va_S.rf
  have hl := lv_entry ([.ref a.o0, .int x, .ref lo]) (n := 4) (Nat.le_of_ble_eq_true rfl)
  rw [lg_entry_eq]
  generalize (lg_sl ([.ref a.o0, .int x, .ref lo]) ++ List.replicate (4 - (lg_sl ([.ref a.o0, .int x, .ref lo])).length) Slot.unset).toArray = ls at hl ⊢
  have hl : lv_has ls 4 [(0, .ref a.o0), (1, .int x), (2, .ref lo)] := hl
  have F : CallFix p m c b_La_arm 4 s ([.ref a.o0, .int x, .ref lo]).toArray gw "LineDiskLaw" := ⟨hx, hb, hml, hown, hts⟩
  refine lv_aload_n hx hb d_La_arm_0 rfl (lv_at hl 2 rfl) ?_
  refine lv_iconst (v := 0) hx hb d_La_arm_1 (by decide) ?_
  refine lv_aload_n hx hb d_La_arm_2 rfl (lv_at hl 0 rfl) ?_
  refine lv_iload_n hx hb d_La_arm_3 rfl (lv_at hl 1 rfl) ?_
  refine go_i (wr := [(lo, .inl (cO, 1, .inr (.inl g)))]) (tr := [(cO, .long)]) (rV (C := "LineDisk") (ci := 0) (q0 := 0) (b := a.o0) (n := 1) (As := [.int x]) (rest := [.int 0, .ref lo]) F hkw (g_Ld_arm l dC dI a L x h1 h2 s.heap.size) xT_bl (fun _ _ _ => trivial) w_480 w_481 w_482 w_1 w_483 rfl rfl (by decide +kernel) ⟨Nat.le_of_ble_eq_true rfl, Nat.le_of_ble_eq_true rfl⟩ (hP.sub (ws' := [(a.o0, .inr (0, [.ref a.s0, .ref a.j0, .ref a.h0, .ref a.m0, .ref a.kp, .int L.oc])), (a.s0, .inr (1, [.ref a.c0, .int L.ar, .int L.de, .int L.wr])), (a.c0, .inl (a.cA, 512, .inl L.g)), (a.j0, .inr (2, [.ref a.jr, .ref a.jh, .int (nI L.jt)])), (a.jr, .inl (a.cR, 96, .inl L.ro)), (a.jh, .inl (a.cH, 16, .inl L.hd)), (a.h0, .inr (3, [.ref a.w0, .ref a.w1, .ref a.w2, .ref a.w3, .ref a.w4, .ref a.w5, .int (nI L.wn), .int L.nx, .int (nI L.wc)])), (a.w0, .inl (a.cN, 10, .inl L.nu)), (a.w1, .inl (a.cL, 10, .inl L.le)), (a.w2, .inl (a.cX, 120, .inl L.te)), (a.w3, .inl (a.cU, 12, .inl L.un)), (a.w4, .inl (a.cV, 8, .inl L.va)), (a.w5, .inl (a.cT, 15, .inl L.ty)), (a.m0, .inr (4, [.ref a.sx, .ref a.sv, .int (nI L.en), .int (nI L.at1), .int L.go, .int L.kd, .int L.vr, .int L.fi, .int L.lf, .int L.sg, .int L.rt, .int L.tg])), (a.sx, .inl (a.cS, 12, .inl L.tx)), (a.sv, .inl (a.cW, 8, .inl L.tv)), (a.kp, .inl (a.cK, 60, .inl L.kf))]) [0, 1, 2, 3, 4, 5, 6, 7, 8, 9, 10, 11, 12, 13, 14, 15, 16] rfl) (hD.sub (ws' := [(a.o0, .inr (0, [.ref a.s0, .ref a.j0, .ref a.h0, .ref a.m0, .ref a.kp, .int L.oc])), (a.s0, .inr (1, [.ref a.c0, .int L.ar, .int L.de, .int L.wr])), (a.c0, .inl (a.cA, 512, .inl L.g)), (a.j0, .inr (2, [.ref a.jr, .ref a.jh, .int (nI L.jt)])), (a.jr, .inl (a.cR, 96, .inl L.ro)), (a.jh, .inl (a.cH, 16, .inl L.hd)), (a.h0, .inr (3, [.ref a.w0, .ref a.w1, .ref a.w2, .ref a.w3, .ref a.w4, .ref a.w5, .int (nI L.wn), .int L.nx, .int (nI L.wc)])), (a.w0, .inl (a.cN, 10, .inl L.nu)), (a.w1, .inl (a.cL, 10, .inl L.le)), (a.w2, .inl (a.cX, 120, .inl L.te)), (a.w3, .inl (a.cU, 12, .inl L.un)), (a.w4, .inl (a.cV, 8, .inl L.va)), (a.w5, .inl (a.cT, 15, .inl L.ty)), (a.m0, .inr (4, [.ref a.sx, .ref a.sv, .int (nI L.en), .int (nI L.at1), .int L.go, .int L.kd, .int L.vr, .int L.fi, .int L.lf, .int L.sg, .int L.rt, .int L.tg])), (a.sx, .inl (a.cS, 12, .inl L.tx)), (a.sv, .inl (a.cW, 8, .inl L.tv)), (a.kp, .inl (a.cK, 60, .inl L.kf))]) [0, 1, 2, 3, 4, 5, 6, 7, 8, 9, 10, 11, 12, 13, 14, 15, 16] (by decide) rfl) (hK.sub (tys' := [(a.cA, .int), (a.cR, .int), (a.cH, .int), (a.cN, .int), (a.cL, .int), (a.cX, .int), (a.cU, .int), (a.cV, .int), (a.cT, .int), (a.cS, .int), (a.cW, .int), (a.cK, .int)]) [0, 1, 2, 3, 4, 5, 6, 7, 8, 9, 10, 11] rfl) rfl rfl rfl rfl hl.1 rfl (Nat.le_of_ble_eq_true rfl) d_La_arm_4 ⟨by decide, by decide⟩) hP hD hK hS hA [0, 1, 2, 3, 4, 5, 6, 7, 8, 9, 10, 11, 12, 13, 14, 15, 16] [17] [12] rfl rfl (by decide) (by decide) rfl (fun ro uo H locs po hP hD hK hS => ?_)
  have hP : va_P (dC, dI) cls [(lo, .inl (cO, 1, .inr (.inl g))), (a.o0, .inr (0, [.ref a.s0, .ref a.j0, .ref a.h0, .ref a.m0, .ref a.kp, .int uo.oc])), (a.s0, .inr (1, [.ref a.c0, .int uo.ar, .int uo.de, .int uo.wr])), (a.c0, .inl (a.cA, 512, .inl uo.g)), (a.j0, .inr (2, [.ref a.jr, .ref a.jh, .int (nI uo.jt)])), (a.jr, .inl (a.cR, 96, .inl uo.ro)), (a.jh, .inl (a.cH, 16, .inl uo.hd)), (a.h0, .inr (3, [.ref a.w0, .ref a.w1, .ref a.w2, .ref a.w3, .ref a.w4, .ref a.w5, .int (nI uo.wn), .int uo.nx, .int (nI uo.wc)])), (a.w0, .inl (a.cN, 10, .inl uo.nu)), (a.w1, .inl (a.cL, 10, .inl uo.le)), (a.w2, .inl (a.cX, 120, .inl uo.te)), (a.w3, .inl (a.cU, 12, .inl uo.un)), (a.w4, .inl (a.cV, 8, .inl uo.va)), (a.w5, .inl (a.cT, 15, .inl uo.ty)), (a.m0, .inr (4, [.ref a.sx, .ref a.sv, .int (nI uo.en), .int (nI uo.at1), .int uo.go, .int uo.kd, .int uo.vr, .int uo.fi, .int uo.lf, .int uo.sg, .int uo.rt, .int uo.tg])), (a.sx, .inl (a.cS, 12, .inl uo.tx)), (a.sv, .inl (a.cW, 8, .inl uo.tv)), (a.kp, .inl (a.cK, 60, .inl uo.kf))] H := hP
  have hD : va_D A [(lo, .inl (cO, 1, .inr (.inl g))), (a.o0, .inr (0, [.ref a.s0, .ref a.j0, .ref a.h0, .ref a.m0, .ref a.kp, .int uo.oc])), (a.s0, .inr (1, [.ref a.c0, .int uo.ar, .int uo.de, .int uo.wr])), (a.c0, .inl (a.cA, 512, .inl uo.g)), (a.j0, .inr (2, [.ref a.jr, .ref a.jh, .int (nI uo.jt)])), (a.jr, .inl (a.cR, 96, .inl uo.ro)), (a.jh, .inl (a.cH, 16, .inl uo.hd)), (a.h0, .inr (3, [.ref a.w0, .ref a.w1, .ref a.w2, .ref a.w3, .ref a.w4, .ref a.w5, .int (nI uo.wn), .int uo.nx, .int (nI uo.wc)])), (a.w0, .inl (a.cN, 10, .inl uo.nu)), (a.w1, .inl (a.cL, 10, .inl uo.le)), (a.w2, .inl (a.cX, 120, .inl uo.te)), (a.w3, .inl (a.cU, 12, .inl uo.un)), (a.w4, .inl (a.cV, 8, .inl uo.va)), (a.w5, .inl (a.cT, 15, .inl uo.ty)), (a.m0, .inr (4, [.ref a.sx, .ref a.sv, .int (nI uo.en), .int (nI uo.at1), .int uo.go, .int uo.kd, .int uo.vr, .int uo.fi, .int uo.lf, .int uo.sg, .int uo.rt, .int uo.tg])), (a.sx, .inl (a.cS, 12, .inl uo.tx)), (a.sv, .inl (a.cW, 8, .inl uo.tv)), (a.kp, .inl (a.cK, 60, .inl uo.kf))] := hD
  have hK : va_K (dC, dI) cls [(cO, .long), (a.cA, .int), (a.cR, .int), (a.cH, .int), (a.cN, .int), (a.cL, .int), (a.cX, .int), (a.cU, .int), (a.cV, .int), (a.cT, .int), (a.cS, .int), (a.cW, .int), (a.cK, .int)] s := hK
  refine W.widen (k := 0) (n := 0) (by omega) (by omega) ?_
  obtain ⟨e1, e2⟩ := po
  subst e1
  rw [e2] at hP hD
  have hP : va_P (dC, dI) cls [(lo, .inl (cO, 1, .inr (.inl g))), (a.o0, .inr (0, [.ref a.s0, .ref a.j0, .ref a.h0, .ref a.m0, .ref a.kp, .int ((amF L x).oc)])), (a.s0, .inr (1, [.ref a.c0, .int ((amF L x).ar), .int ((amF L x).de), .int ((amF L x).wr)])), (a.c0, .inl (a.cA, 512, .inl ((amF L x).g))), (a.j0, .inr (2, [.ref a.jr, .ref a.jh, .int (nI ((amF L x).jt))])), (a.jr, .inl (a.cR, 96, .inl ((amF L x).ro))), (a.jh, .inl (a.cH, 16, .inl ((amF L x).hd))), (a.h0, .inr (3, [.ref a.w0, .ref a.w1, .ref a.w2, .ref a.w3, .ref a.w4, .ref a.w5, .int (nI ((amF L x).wn)), .int ((amF L x).nx), .int (nI ((amF L x).wc))])), (a.w0, .inl (a.cN, 10, .inl ((amF L x).nu))), (a.w1, .inl (a.cL, 10, .inl ((amF L x).le))), (a.w2, .inl (a.cX, 120, .inl ((amF L x).te))), (a.w3, .inl (a.cU, 12, .inl ((amF L x).un))), (a.w4, .inl (a.cV, 8, .inl ((amF L x).va))), (a.w5, .inl (a.cT, 15, .inl ((amF L x).ty))), (a.m0, .inr (4, [.ref a.sx, .ref a.sv, .int (nI ((amF L x).en)), .int (nI ((amF L x).at1)), .int ((amF L x).go), .int ((amF L x).kd), .int ((amF L x).vr), .int ((amF L x).fi), .int ((amF L x).lf), .int ((amF L x).sg), .int ((amF L x).rt), .int ((amF L x).tg)])), (a.sx, .inl (a.cS, 12, .inl ((amF L x).tx))), (a.sv, .inl (a.cW, 8, .inl ((amF L x).tv))), (a.kp, .inl (a.cK, 60, .inl ((amF L x).kf)))] H := hP
  have hD : va_D A [(lo, .inl (cO, 1, .inr (.inl g))), (a.o0, .inr (0, [.ref a.s0, .ref a.j0, .ref a.h0, .ref a.m0, .ref a.kp, .int ((amF L x).oc)])), (a.s0, .inr (1, [.ref a.c0, .int ((amF L x).ar), .int ((amF L x).de), .int ((amF L x).wr)])), (a.c0, .inl (a.cA, 512, .inl ((amF L x).g))), (a.j0, .inr (2, [.ref a.jr, .ref a.jh, .int (nI ((amF L x).jt))])), (a.jr, .inl (a.cR, 96, .inl ((amF L x).ro))), (a.jh, .inl (a.cH, 16, .inl ((amF L x).hd))), (a.h0, .inr (3, [.ref a.w0, .ref a.w1, .ref a.w2, .ref a.w3, .ref a.w4, .ref a.w5, .int (nI ((amF L x).wn)), .int ((amF L x).nx), .int (nI ((amF L x).wc))])), (a.w0, .inl (a.cN, 10, .inl ((amF L x).nu))), (a.w1, .inl (a.cL, 10, .inl ((amF L x).le))), (a.w2, .inl (a.cX, 120, .inl ((amF L x).te))), (a.w3, .inl (a.cU, 12, .inl ((amF L x).un))), (a.w4, .inl (a.cV, 8, .inl ((amF L x).va))), (a.w5, .inl (a.cT, 15, .inl ((amF L x).ty))), (a.m0, .inr (4, [.ref a.sx, .ref a.sv, .int (nI ((amF L x).en)), .int (nI ((amF L x).at1)), .int ((amF L x).go), .int ((amF L x).kd), .int ((amF L x).vr), .int ((amF L x).fi), .int ((amF L x).lf), .int ((amF L x).sg), .int ((amF L x).rt), .int ((amF L x).tg)])), (a.sx, .inl (a.cS, 12, .inl ((amF L x).tx))), (a.sv, .inl (a.cW, 8, .inl ((amF L x).tv))), (a.kp, .inl (a.cK, 60, .inl ((amF L x).kf)))] := hD
  refine lv_if_eq (tgt := 14) hx hb d_La_arm_7 (by decide) (fun h => absurd h (by decide)) (fun _ => ?_)
  refine lv_lconst (v := 1) hx hb d_La_arm_10 (by decide) ?_
  refine lv_goto (tgt := 15) hx hb d_La_arm_11 (by decide) ?_
  refine va_last hx hb hK hP hD hS 0 0 rfl rfl (vp_in_iff.mpr (by decide)) d_La_arm_15 (fun H locs hP hD hS => ?_)
  have hP : va_P (dC, dI) cls [(lo, .inl (cO, 1, .inr (.inl (vp_updL g (0 : Int32).toNatClampNeg 1)))), (a.o0, .inr (0, [.ref a.s0, .ref a.j0, .ref a.h0, .ref a.m0, .ref a.kp, .int ((amF L x).oc)])), (a.s0, .inr (1, [.ref a.c0, .int ((amF L x).ar), .int ((amF L x).de), .int ((amF L x).wr)])), (a.c0, .inl (a.cA, 512, .inl ((amF L x).g))), (a.j0, .inr (2, [.ref a.jr, .ref a.jh, .int (nI ((amF L x).jt))])), (a.jr, .inl (a.cR, 96, .inl ((amF L x).ro))), (a.jh, .inl (a.cH, 16, .inl ((amF L x).hd))), (a.h0, .inr (3, [.ref a.w0, .ref a.w1, .ref a.w2, .ref a.w3, .ref a.w4, .ref a.w5, .int (nI ((amF L x).wn)), .int ((amF L x).nx), .int (nI ((amF L x).wc))])), (a.w0, .inl (a.cN, 10, .inl ((amF L x).nu))), (a.w1, .inl (a.cL, 10, .inl ((amF L x).le))), (a.w2, .inl (a.cX, 120, .inl ((amF L x).te))), (a.w3, .inl (a.cU, 12, .inl ((amF L x).un))), (a.w4, .inl (a.cV, 8, .inl ((amF L x).va))), (a.w5, .inl (a.cT, 15, .inl ((amF L x).ty))), (a.m0, .inr (4, [.ref a.sx, .ref a.sv, .int (nI ((amF L x).en)), .int (nI ((amF L x).at1)), .int ((amF L x).go), .int ((amF L x).kd), .int ((amF L x).vr), .int ((amF L x).fi), .int ((amF L x).lf), .int ((amF L x).sg), .int ((amF L x).rt), .int ((amF L x).tg)])), (a.sx, .inl (a.cS, 12, .inl ((amF L x).tx))), (a.sv, .inl (a.cW, 8, .inl ((amF L x).tv))), (a.kp, .inl (a.cK, 60, .inl ((amF L x).kf)))] H := hP
  have hD : va_D A [(lo, .inl (cO, 1, .inr (.inl (vp_updL g (0 : Int32).toNatClampNeg 1)))), (a.o0, .inr (0, [.ref a.s0, .ref a.j0, .ref a.h0, .ref a.m0, .ref a.kp, .int ((amF L x).oc)])), (a.s0, .inr (1, [.ref a.c0, .int ((amF L x).ar), .int ((amF L x).de), .int ((amF L x).wr)])), (a.c0, .inl (a.cA, 512, .inl ((amF L x).g))), (a.j0, .inr (2, [.ref a.jr, .ref a.jh, .int (nI ((amF L x).jt))])), (a.jr, .inl (a.cR, 96, .inl ((amF L x).ro))), (a.jh, .inl (a.cH, 16, .inl ((amF L x).hd))), (a.h0, .inr (3, [.ref a.w0, .ref a.w1, .ref a.w2, .ref a.w3, .ref a.w4, .ref a.w5, .int (nI ((amF L x).wn)), .int ((amF L x).nx), .int (nI ((amF L x).wc))])), (a.w0, .inl (a.cN, 10, .inl ((amF L x).nu))), (a.w1, .inl (a.cL, 10, .inl ((amF L x).le))), (a.w2, .inl (a.cX, 120, .inl ((amF L x).te))), (a.w3, .inl (a.cU, 12, .inl ((amF L x).un))), (a.w4, .inl (a.cV, 8, .inl ((amF L x).va))), (a.w5, .inl (a.cT, 15, .inl ((amF L x).ty))), (a.m0, .inr (4, [.ref a.sx, .ref a.sv, .int (nI ((amF L x).en)), .int (nI ((amF L x).at1)), .int ((amF L x).go), .int ((amF L x).kd), .int ((amF L x).vr), .int ((amF L x).fi), .int ((amF L x).lf), .int ((amF L x).sg), .int ((amF L x).rt), .int ((amF L x).tg)])), (a.sx, .inl (a.cS, 12, .inl ((amF L x).tx))), (a.sv, .inl (a.cW, 8, .inl ((amF L x).tv))), (a.kp, .inl (a.cK, 60, .inl ((amF L x).kf)))] := hD
  refine lv_goto (tgt := 22) hx hb d_La_arm_16 (by decide) ?_
  refine lv_iconst (v := 0) hx hb d_La_arm_22 (by decide) ?_
  refine W.widen (k := 0) (n := 0) (by decide) (by decide) ?_
  exact W.iret (v := 0) hx hb hr (fun t ht hW => ⟨⟨0, (), rfl, rfl, cB.of (hP.sub [1, 2, 3, 4, 5, 6, 7, 8, 9, 10, 11, 12, 13, 14, 15, 16, 17, 0] rfl) (hD.sub [1, 2, 3, 4, 5, 6, 7, 8, 9, 10, 11, 12, 13, 14, 15, 16, 17, 0] (by decide) rfl) (hK.sub [1, 2, 3, 4, 5, 6, 7, 8, 9, 10, 11, 12, 0] rfl) ht hW⟩, hS.F ht⟩) hS.2.2 d_La_arm_23
set_option maxHeartbeats 4000000 in
set_option maxRecDepth 100000 in
theorem h_out1 (l : Launch) (dC : Nat → ClassId) (dI : Nat → Nat → Nat) (hfl : l.flags = pinnedFlags ++ [noTraceFlag]) (a : LAd) (L : LSt) (lo : Nat) (x : Int32) (h1 : x < 0) (q : Nat) (sz : Nat) : Met l y_La_out (Cond.codeWith y_La_out b_La_out 4 (some .int) [(0, 9, 12, 19)] :: gw) ({ frames := 7, cells := 1, slots := 6, locals := 121 }) (cP (dC, dI) [.ref a.o0, .int x, .ref lo] sz [(a.o0, .inr (0, [.ref a.s0, .ref a.j0, .ref a.h0, .ref a.m0, .ref a.kp, .int L.oc]))] [] (xE 119 "no such number is kept" q)) (va_Qi (fun (r : Int32) (u : Unit) => r = 1) (fun (u : Unit) t => cB (dC, dI) (va_A [(a.o0, .inr (0, [.ref a.s0, .ref a.j0, .ref a.h0, .ref a.m0, .ref a.kp, .int L.oc]))] sz) [(a.o0, .inr (0, [.ref a.s0, .ref a.j0, .ref a.h0, .ref a.m0, .ref a.kp, .int L.oc]))] [] t) (va_A [(a.o0, .inr (0, [.ref a.s0, .ref a.j0, .ref a.h0, .ref a.m0, .ref a.kp, .int L.oc]))] sz)) 1 6 (va_A [(a.o0, .inr (0, [.ref a.s0, .ref a.j0, .ref a.h0, .ref a.m0, .ref a.kp, .int L.oc]))] sz) := by
  refine tw_ofW (hh := [(0, 9, 12, 19)]) (cc := b_La_out) (maxL := 4) (ret := (some .int)) (by decide) rfl ?_
  intro p e s m args below meth c s₁ B hml htab0 hv
  obtain ⟨rfl, hsz, hP, hK, hD0, hkw, hX⟩ := hv
  have hx := B.exec
  have hb := B.bytes
  have hr := B.returns
  have hts := fun w hw => atoms_spec (ws := Cond.codeWith y_La_out b_La_out 4 (some .int) [(0, 9, 12, 19)] :: gw) B.pre w (List.mem_cons_of_mem _ hw)
  have hown : s.vm.findClass "LineDiskLaw" = some m.cls := findClass_of_methodNamed B.named
  have hlocks := B.notSynchronized
  have hin := (name_of_methodNamed B.named B.method).1
  subst hsz
  have hD := hD0.self (sz := s.heap.size)
  generalize hAe : va_A [(a.o0, .inr (0, [.ref a.s0, .ref a.j0, .ref a.h0, .ref a.m0, .ref a.kp, .int L.oc]))] s.heap.size = A at hD ⊢
  have hA : ∀ q : Nat, s.heap.size ≤ q → A q := fun q h => by rw [← hAe]; exact Or.inr h
  have hS : va_S A s.heap s.heap [] := va_S.rf
  have hl := lv_entry ([.ref a.o0, .int x, .ref lo]) (n := 4) (Nat.le_of_ble_eq_true rfl)
  rw [lg_entry_eq]
  generalize (lg_sl ([.ref a.o0, .int x, .ref lo]) ++ List.replicate (4 - (lg_sl ([.ref a.o0, .int x, .ref lo])).length) Slot.unset).toArray = ls at hl ⊢
  have hl : lv_has ls 4 [(0, .ref a.o0), (1, .int x), (2, .ref lo)] := hl
  have F : CallFix p m c b_La_out 4 s ([.ref a.o0, .int x, .ref lo]).toArray gw "LineDiskLaw" := ⟨hx, hb, hml, hown, hts⟩
  refine lv_aload_n hx hb d_La_out_0 rfl (lv_at hl 2 rfl) ?_
  refine lv_iconst (v := 0) hx hb d_La_out_1 (by decide) ?_
  refine lv_aload_n hx hb d_La_out_2 rfl (lv_at hl 0 rfl) ?_
  refine lv_iload_n hx hb d_La_out_3 rfl (lv_at hl 1 rfl) ?_
  obtain ⟨xx, ht, hx1, hx2, hx3, hx4⟩ := tab1 htab0
  refine th_call (As := [.int x]) (rest := [.int 0, .ref lo]) (b := a.o0) (C := "LineDisk") (own := "LineDiskLaw") (name := "java/lang/IndexOutOfBoundsException") (bytes := b_Ld_out) (maxL := 2) (ret := (some .int)) hx hb hml hown (t_Ld_out1 l hfl dC dI a L x h1 q s.heap.size) (cP.blind xE_bl) (by decide) (by decide) (pay_in hts (gi w_558)) (hts _ w_558) (hts _ w_555) (hts _ w_556) (hts _ w_557) (hts _ w_1) (by decide +kernel) (fun sig h => ?_) (va_recv (q0 := 0) hK hP (ci := 0) rfl rfl) (cP.pre (A := A) hP hD hK hkw (xE_of hX (fun _ _ => rfl))) hl.1 (Nat.le_of_ble_eq_true rfl) d_La_out_4 (by decide) (by decide) ht (by simp [covers, hx1, hx2]) (by rw [hx4]; decide) (by rw [hx4]; exact hts _ w_554) (hkw.use v_561 rfl) rfl (fun ea H hz9 hk9 => ?_)
  · cases (show some sig = parseMethodDescriptor y_Ld_out.desc from h.symm).trans (by decide +kernel : parseMethodDescriptor y_Ld_out.desc = some ⟨[.int], (some .int)⟩)
    rfl
  rw [hx3]
  have hS : va_S A s.heap H [] := ⟨hz9, fun q h _ => hk9 q h, fun _ h => by cases h⟩
  have hP : va_P (dC, dI) cls [(a.o0, .inr (0, [.ref a.s0, .ref a.j0, .ref a.h0, .ref a.m0, .ref a.kp, .int L.oc]))] H := va_P_kp hP hk9
  refine W.widen (k := 1) (n := 6) (by decide) (by decide) ?_
  refine lv_astore_n (i := 3) hx hb d_La_out_12 rfl hl (by decide) rfl (fun ls hl => ?_)
  have hl : lv_has ls 4 [(3, .ref ea), (0, .ref a.o0), (1, .int x), (2, .ref lo)] := hl
  refine lv_iconst (v := 1) hx hb d_La_out_13 (by decide) ?_
  exact W.iret (v := 1) hx hb hr (fun t ht hW => ⟨⟨1, (), rfl, rfl, cB.of (hP.sub [0] rfl) (hD.sub [0] (by decide) rfl) (hK.sub [] rfl) ht hW⟩, hS.F ht⟩) hS.2.2 d_La_out_14
set_option maxHeartbeats 4000000 in
set_option maxRecDepth 100000 in
theorem h_out2 (l : Launch) (dC : Nat → ClassId) (dI : Nat → Nat → Nat) (hfl : l.flags = pinnedFlags ++ [noTraceFlag]) (a : LAd) (L : LSt) (lo : Nat) (x : Int32) (h1 : ¬ x < 0) (h2 : L.oc ≤ x) (q : Nat) (sz : Nat) : Met l y_La_out (Cond.codeWith y_La_out b_La_out 4 (some .int) [(0, 9, 12, 19)] :: gw) ({ frames := 7, cells := 1, slots := 6, locals := 121 }) (cP (dC, dI) [.ref a.o0, .int x, .ref lo] sz [(a.o0, .inr (0, [.ref a.s0, .ref a.j0, .ref a.h0, .ref a.m0, .ref a.kp, .int L.oc]))] [] (xE 119 "no such number is kept" q)) (va_Qi (fun (r : Int32) (u : Unit) => r = 1) (fun (u : Unit) t => cB (dC, dI) (va_A [(a.o0, .inr (0, [.ref a.s0, .ref a.j0, .ref a.h0, .ref a.m0, .ref a.kp, .int L.oc]))] sz) [(a.o0, .inr (0, [.ref a.s0, .ref a.j0, .ref a.h0, .ref a.m0, .ref a.kp, .int L.oc]))] [] t) (va_A [(a.o0, .inr (0, [.ref a.s0, .ref a.j0, .ref a.h0, .ref a.m0, .ref a.kp, .int L.oc]))] sz)) 1 6 (va_A [(a.o0, .inr (0, [.ref a.s0, .ref a.j0, .ref a.h0, .ref a.m0, .ref a.kp, .int L.oc]))] sz) := by
  refine tw_ofW (hh := [(0, 9, 12, 19)]) (cc := b_La_out) (maxL := 4) (ret := (some .int)) (by decide) rfl ?_
  intro p e s m args below meth c s₁ B hml htab0 hv
  obtain ⟨rfl, hsz, hP, hK, hD0, hkw, hX⟩ := hv
  have hx := B.exec
  have hb := B.bytes
  have hr := B.returns
  have hts := fun w hw => atoms_spec (ws := Cond.codeWith y_La_out b_La_out 4 (some .int) [(0, 9, 12, 19)] :: gw) B.pre w (List.mem_cons_of_mem _ hw)
  have hown : s.vm.findClass "LineDiskLaw" = some m.cls := findClass_of_methodNamed B.named
  have hlocks := B.notSynchronized
  have hin := (name_of_methodNamed B.named B.method).1
  subst hsz
  have hD := hD0.self (sz := s.heap.size)
  generalize hAe : va_A [(a.o0, .inr (0, [.ref a.s0, .ref a.j0, .ref a.h0, .ref a.m0, .ref a.kp, .int L.oc]))] s.heap.size = A at hD ⊢
  have hA : ∀ q : Nat, s.heap.size ≤ q → A q := fun q h => by rw [← hAe]; exact Or.inr h
  have hS : va_S A s.heap s.heap [] := va_S.rf
  have hl := lv_entry ([.ref a.o0, .int x, .ref lo]) (n := 4) (Nat.le_of_ble_eq_true rfl)
  rw [lg_entry_eq]
  generalize (lg_sl ([.ref a.o0, .int x, .ref lo]) ++ List.replicate (4 - (lg_sl ([.ref a.o0, .int x, .ref lo])).length) Slot.unset).toArray = ls at hl ⊢
  have hl : lv_has ls 4 [(0, .ref a.o0), (1, .int x), (2, .ref lo)] := hl
  have F : CallFix p m c b_La_out 4 s ([.ref a.o0, .int x, .ref lo]).toArray gw "LineDiskLaw" := ⟨hx, hb, hml, hown, hts⟩
  refine lv_aload_n hx hb d_La_out_0 rfl (lv_at hl 2 rfl) ?_
  refine lv_iconst (v := 0) hx hb d_La_out_1 (by decide) ?_
  refine lv_aload_n hx hb d_La_out_2 rfl (lv_at hl 0 rfl) ?_
  refine lv_iload_n hx hb d_La_out_3 rfl (lv_at hl 1 rfl) ?_
  obtain ⟨xx, ht, hx1, hx2, hx3, hx4⟩ := tab1 htab0
  refine th_call (As := [.int x]) (rest := [.int 0, .ref lo]) (b := a.o0) (C := "LineDisk") (own := "LineDiskLaw") (name := "java/lang/IndexOutOfBoundsException") (bytes := b_Ld_out) (maxL := 2) (ret := (some .int)) hx hb hml hown (t_Ld_out2 l hfl dC dI a L x h1 h2 q s.heap.size) (cP.blind xE_bl) (by decide) (by decide) (pay_in hts (gi w_558)) (hts _ w_558) (hts _ w_555) (hts _ w_556) (hts _ w_557) (hts _ w_1) (by decide +kernel) (fun sig h => ?_) (va_recv (q0 := 0) hK hP (ci := 0) rfl rfl) (cP.pre (A := A) hP hD hK hkw (xE_of hX (fun _ _ => rfl))) hl.1 (Nat.le_of_ble_eq_true rfl) d_La_out_4 (by decide) (by decide) ht (by simp [covers, hx1, hx2]) (by rw [hx4]; decide) (by rw [hx4]; exact hts _ w_554) (hkw.use v_561 rfl) rfl (fun ea H hz9 hk9 => ?_)
  · cases (show some sig = parseMethodDescriptor y_Ld_out.desc from h.symm).trans (by decide +kernel : parseMethodDescriptor y_Ld_out.desc = some ⟨[.int], (some .int)⟩)
    rfl
  rw [hx3]
  have hS : va_S A s.heap H [] := ⟨hz9, fun q h _ => hk9 q h, fun _ h => by cases h⟩
  have hP : va_P (dC, dI) cls [(a.o0, .inr (0, [.ref a.s0, .ref a.j0, .ref a.h0, .ref a.m0, .ref a.kp, .int L.oc]))] H := va_P_kp hP hk9
  refine W.widen (k := 1) (n := 6) (by decide) (by decide) ?_
  refine lv_astore_n (i := 3) hx hb d_La_out_12 rfl hl (by decide) rfl (fun ls hl => ?_)
  have hl : lv_has ls 4 [(3, .ref ea), (0, .ref a.o0), (1, .int x), (2, .ref lo)] := hl
  refine lv_iconst (v := 1) hx hb d_La_out_13 (by decide) ?_
  exact W.iret (v := 1) hx hb hr (fun t ht hW => ⟨⟨1, (), rfl, rfl, cB.of (hP.sub [0] rfl) (hD.sub [0] (by decide) rfl) (hK.sub [] rfl) ht hW⟩, hS.F ht⟩) hS.2.2 d_La_out_14
set_option maxHeartbeats 4000000 in
set_option maxRecDepth 100000 in
theorem h_out3 (l : Launch) (dC : Nat → ClassId) (dI : Nat → Nat → Nat) (hfl : l.flags = pinnedFlags ++ [noTraceFlag]) (a : LAd) (L : LSt) (lo : Nat) (x : Int32) (h1 : ¬ x < 0) (h2 : ¬ L.oc ≤ x) (h3 : ¬ x < 60) (q : Nat) (sz : Nat) : Met l y_La_out (Cond.codeWith y_La_out b_La_out 4 (some .int) [(0, 9, 12, 19)] :: gw) ({ frames := 7, cells := 1, slots := 6, locals := 121 }) (cP (dC, dI) [.ref a.o0, .int x, .ref lo] sz [(a.o0, .inr (0, [.ref a.s0, .ref a.j0, .ref a.h0, .ref a.m0, .ref a.kp, .int L.oc]))] [] (xE 119 "no such number is kept" q)) (va_Qi (fun (r : Int32) (u : Unit) => r = 1) (fun (u : Unit) t => cB (dC, dI) (va_A [(a.o0, .inr (0, [.ref a.s0, .ref a.j0, .ref a.h0, .ref a.m0, .ref a.kp, .int L.oc]))] sz) [(a.o0, .inr (0, [.ref a.s0, .ref a.j0, .ref a.h0, .ref a.m0, .ref a.kp, .int L.oc]))] [] t) (va_A [(a.o0, .inr (0, [.ref a.s0, .ref a.j0, .ref a.h0, .ref a.m0, .ref a.kp, .int L.oc]))] sz)) 1 6 (va_A [(a.o0, .inr (0, [.ref a.s0, .ref a.j0, .ref a.h0, .ref a.m0, .ref a.kp, .int L.oc]))] sz) := by
  refine tw_ofW (hh := [(0, 9, 12, 19)]) (cc := b_La_out) (maxL := 4) (ret := (some .int)) (by decide) rfl ?_
  intro p e s m args below meth c s₁ B hml htab0 hv
  obtain ⟨rfl, hsz, hP, hK, hD0, hkw, hX⟩ := hv
  have hx := B.exec
  have hb := B.bytes
  have hr := B.returns
  have hts := fun w hw => atoms_spec (ws := Cond.codeWith y_La_out b_La_out 4 (some .int) [(0, 9, 12, 19)] :: gw) B.pre w (List.mem_cons_of_mem _ hw)
  have hown : s.vm.findClass "LineDiskLaw" = some m.cls := findClass_of_methodNamed B.named
  have hlocks := B.notSynchronized
  have hin := (name_of_methodNamed B.named B.method).1
  subst hsz
  have hD := hD0.self (sz := s.heap.size)
  generalize hAe : va_A [(a.o0, .inr (0, [.ref a.s0, .ref a.j0, .ref a.h0, .ref a.m0, .ref a.kp, .int L.oc]))] s.heap.size = A at hD ⊢
  have hA : ∀ q : Nat, s.heap.size ≤ q → A q := fun q h => by rw [← hAe]; exact Or.inr h
  have hS : va_S A s.heap s.heap [] := va_S.rf
  have hl := lv_entry ([.ref a.o0, .int x, .ref lo]) (n := 4) (Nat.le_of_ble_eq_true rfl)
  rw [lg_entry_eq]
  generalize (lg_sl ([.ref a.o0, .int x, .ref lo]) ++ List.replicate (4 - (lg_sl ([.ref a.o0, .int x, .ref lo])).length) Slot.unset).toArray = ls at hl ⊢
  have hl : lv_has ls 4 [(0, .ref a.o0), (1, .int x), (2, .ref lo)] := hl
  have F : CallFix p m c b_La_out 4 s ([.ref a.o0, .int x, .ref lo]).toArray gw "LineDiskLaw" := ⟨hx, hb, hml, hown, hts⟩
  refine lv_aload_n hx hb d_La_out_0 rfl (lv_at hl 2 rfl) ?_
  refine lv_iconst (v := 0) hx hb d_La_out_1 (by decide) ?_
  refine lv_aload_n hx hb d_La_out_2 rfl (lv_at hl 0 rfl) ?_
  refine lv_iload_n hx hb d_La_out_3 rfl (lv_at hl 1 rfl) ?_
  obtain ⟨xx, ht, hx1, hx2, hx3, hx4⟩ := tab1 htab0
  refine th_call (As := [.int x]) (rest := [.int 0, .ref lo]) (b := a.o0) (C := "LineDisk") (own := "LineDiskLaw") (name := "java/lang/IndexOutOfBoundsException") (bytes := b_Ld_out) (maxL := 2) (ret := (some .int)) hx hb hml hown (t_Ld_out3 l hfl dC dI a L x h1 h2 h3 q s.heap.size) (cP.blind xE_bl) (by decide) (by decide) (pay_in hts (gi w_558)) (hts _ w_558) (hts _ w_555) (hts _ w_556) (hts _ w_557) (hts _ w_1) (by decide +kernel) (fun sig h => ?_) (va_recv (q0 := 0) hK hP (ci := 0) rfl rfl) (cP.pre (A := A) hP hD hK hkw (xE_of hX (fun _ _ => rfl))) hl.1 (Nat.le_of_ble_eq_true rfl) d_La_out_4 (by decide) (by decide) ht (by simp [covers, hx1, hx2]) (by rw [hx4]; decide) (by rw [hx4]; exact hts _ w_554) (hkw.use v_561 rfl) rfl (fun ea H hz9 hk9 => ?_)
  · cases (show some sig = parseMethodDescriptor y_Ld_out.desc from h.symm).trans (by decide +kernel : parseMethodDescriptor y_Ld_out.desc = some ⟨[.int], (some .int)⟩)
    rfl
  rw [hx3]
  have hS : va_S A s.heap H [] := ⟨hz9, fun q h _ => hk9 q h, fun _ h => by cases h⟩
  have hP : va_P (dC, dI) cls [(a.o0, .inr (0, [.ref a.s0, .ref a.j0, .ref a.h0, .ref a.m0, .ref a.kp, .int L.oc]))] H := va_P_kp hP hk9
  refine W.widen (k := 1) (n := 6) (by decide) (by decide) ?_
  refine lv_astore_n (i := 3) hx hb d_La_out_12 rfl hl (by decide) rfl (fun ls hl => ?_)
  have hl : lv_has ls 4 [(3, .ref ea), (0, .ref a.o0), (1, .int x), (2, .ref lo)] := hl
  refine lv_iconst (v := 1) hx hb d_La_out_13 (by decide) ?_
  exact W.iret (v := 1) hx hb hr (fun t ht hW => ⟨⟨1, (), rfl, rfl, cB.of (hP.sub [0] rfl) (hD.sub [0] (by decide) rfl) (hK.sub [] rfl) ht hW⟩, hS.F ht⟩) hS.2.2 d_La_out_14
set_option maxHeartbeats 4000000 in
set_option maxRecDepth 100000 in
theorem h_out9 (l : Launch) (dC : Nat → ClassId) (dI : Nat → Nat → Nat) (a : LAd) (L : LSt) (lo : Nat) (cO : ClassId) (g : Nat → Int64) (x : Int32) (h1 : ¬ x < 0) (h2 : ¬ L.oc ≤ x) (h3 : ¬ 60 ≤ x) (sz : Nat) : Met l y_La_out (Cond.codeWith y_La_out b_La_out 4 (some .int) [(0, 9, 12, 19)] :: gw) ({ frames := 3, cells := 0, slots := 0, locals := 82 }) (cP (dC, dI) [.ref a.o0, .int x, .ref lo] sz [(a.o0, .inr (0, [.ref a.s0, .ref a.j0, .ref a.h0, .ref a.m0, .ref a.kp, .int L.oc])), (a.s0, .inr (1, [.ref a.c0, .int L.ar, .int L.de, .int L.wr])), (a.c0, .inl (a.cA, 512, .inl L.g)), (a.j0, .inr (2, [.ref a.jr, .ref a.jh, .int (nI L.jt)])), (a.jr, .inl (a.cR, 96, .inl L.ro)), (a.jh, .inl (a.cH, 16, .inl L.hd)), (a.h0, .inr (3, [.ref a.w0, .ref a.w1, .ref a.w2, .ref a.w3, .ref a.w4, .ref a.w5, .int (nI L.wn), .int L.nx, .int (nI L.wc)])), (a.w0, .inl (a.cN, 10, .inl L.nu)), (a.w1, .inl (a.cL, 10, .inl L.le)), (a.w2, .inl (a.cX, 120, .inl L.te)), (a.w3, .inl (a.cU, 12, .inl L.un)), (a.w4, .inl (a.cV, 8, .inl L.va)), (a.w5, .inl (a.cT, 15, .inl L.ty)), (a.m0, .inr (4, [.ref a.sx, .ref a.sv, .int (nI L.en), .int (nI L.at1), .int L.go, .int L.kd, .int L.vr, .int L.fi, .int L.lf, .int L.sg, .int L.rt, .int L.tg])), (a.sx, .inl (a.cS, 12, .inl L.tx)), (a.sv, .inl (a.cW, 8, .inl L.tv)), (a.kp, .inl (a.cK, 60, .inl L.kf)), (lo, .inl (cO, 1, .inr (.inl g)))] [(a.cA, .int), (a.cR, .int), (a.cH, .int), (a.cN, .int), (a.cL, .int), (a.cX, .int), (a.cU, .int), (a.cV, .int), (a.cT, .int), (a.cS, .int), (a.cW, .int), (a.cK, .int), (cO, .long)] xT) (va_Qi (fun (r : Int32) (u : Unit) => r = 0) (fun (u : Unit) t => cB (dC, dI) (va_A [(a.o0, .inr (0, [.ref a.s0, .ref a.j0, .ref a.h0, .ref a.m0, .ref a.kp, .int L.oc])), (a.s0, .inr (1, [.ref a.c0, .int L.ar, .int L.de, .int L.wr])), (a.c0, .inl (a.cA, 512, .inl L.g)), (a.j0, .inr (2, [.ref a.jr, .ref a.jh, .int (nI L.jt)])), (a.jr, .inl (a.cR, 96, .inl L.ro)), (a.jh, .inl (a.cH, 16, .inl L.hd)), (a.h0, .inr (3, [.ref a.w0, .ref a.w1, .ref a.w2, .ref a.w3, .ref a.w4, .ref a.w5, .int (nI L.wn), .int L.nx, .int (nI L.wc)])), (a.w0, .inl (a.cN, 10, .inl L.nu)), (a.w1, .inl (a.cL, 10, .inl L.le)), (a.w2, .inl (a.cX, 120, .inl L.te)), (a.w3, .inl (a.cU, 12, .inl L.un)), (a.w4, .inl (a.cV, 8, .inl L.va)), (a.w5, .inl (a.cT, 15, .inl L.ty)), (a.m0, .inr (4, [.ref a.sx, .ref a.sv, .int (nI L.en), .int (nI L.at1), .int L.go, .int L.kd, .int L.vr, .int L.fi, .int L.lf, .int L.sg, .int L.rt, .int L.tg])), (a.sx, .inl (a.cS, 12, .inl L.tx)), (a.sv, .inl (a.cW, 8, .inl L.tv)), (a.kp, .inl (a.cK, 60, .inl L.kf)), (lo, .inl (cO, 1, .inr (.inl g)))] sz) [(a.o0, .inr (0, [.ref a.s0, .ref a.j0, .ref a.h0, .ref a.m0, .ref a.kp, .int L.oc])), (a.s0, .inr (1, [.ref a.c0, .int L.ar, .int L.de, .int L.wr])), (a.c0, .inl (a.cA, 512, .inl L.g)), (a.j0, .inr (2, [.ref a.jr, .ref a.jh, .int (nI L.jt)])), (a.jr, .inl (a.cR, 96, .inl L.ro)), (a.jh, .inl (a.cH, 16, .inl L.hd)), (a.h0, .inr (3, [.ref a.w0, .ref a.w1, .ref a.w2, .ref a.w3, .ref a.w4, .ref a.w5, .int (nI L.wn), .int L.nx, .int (nI L.wc)])), (a.w0, .inl (a.cN, 10, .inl L.nu)), (a.w1, .inl (a.cL, 10, .inl L.le)), (a.w2, .inl (a.cX, 120, .inl L.te)), (a.w3, .inl (a.cU, 12, .inl L.un)), (a.w4, .inl (a.cV, 8, .inl L.va)), (a.w5, .inl (a.cT, 15, .inl L.ty)), (a.m0, .inr (4, [.ref a.sx, .ref a.sv, .int (nI L.en), .int (nI L.at1), .int L.go, .int L.kd, .int L.vr, .int L.fi, .int L.lf, .int L.sg, .int L.rt, .int L.tg])), (a.sx, .inl (a.cS, 12, .inl L.tx)), (a.sv, .inl (a.cW, 8, .inl L.tv)), (a.kp, .inl (a.cK, 60, .inl L.kf)), (lo, .inl (cO, 1, .inr (.inl (vp_updL g (0 : Int32).toNatClampNeg (L.kf x.toNatClampNeg : Int32).toInt64))))] [(a.cA, .int), (a.cR, .int), (a.cH, .int), (a.cN, .int), (a.cL, .int), (a.cX, .int), (a.cU, .int), (a.cV, .int), (a.cT, .int), (a.cS, .int), (a.cW, .int), (a.cK, .int), (cO, .long)] t) (va_A [(a.o0, .inr (0, [.ref a.s0, .ref a.j0, .ref a.h0, .ref a.m0, .ref a.kp, .int L.oc])), (a.s0, .inr (1, [.ref a.c0, .int L.ar, .int L.de, .int L.wr])), (a.c0, .inl (a.cA, 512, .inl L.g)), (a.j0, .inr (2, [.ref a.jr, .ref a.jh, .int (nI L.jt)])), (a.jr, .inl (a.cR, 96, .inl L.ro)), (a.jh, .inl (a.cH, 16, .inl L.hd)), (a.h0, .inr (3, [.ref a.w0, .ref a.w1, .ref a.w2, .ref a.w3, .ref a.w4, .ref a.w5, .int (nI L.wn), .int L.nx, .int (nI L.wc)])), (a.w0, .inl (a.cN, 10, .inl L.nu)), (a.w1, .inl (a.cL, 10, .inl L.le)), (a.w2, .inl (a.cX, 120, .inl L.te)), (a.w3, .inl (a.cU, 12, .inl L.un)), (a.w4, .inl (a.cV, 8, .inl L.va)), (a.w5, .inl (a.cT, 15, .inl L.ty)), (a.m0, .inr (4, [.ref a.sx, .ref a.sv, .int (nI L.en), .int (nI L.at1), .int L.go, .int L.kd, .int L.vr, .int L.fi, .int L.lf, .int L.sg, .int L.rt, .int L.tg])), (a.sx, .inl (a.cS, 12, .inl L.tx)), (a.sv, .inl (a.cW, 8, .inl L.tv)), (a.kp, .inl (a.cK, 60, .inl L.kf)), (lo, .inl (cO, 1, .inr (.inl g)))] sz)) 0 0 (va_A [(a.o0, .inr (0, [.ref a.s0, .ref a.j0, .ref a.h0, .ref a.m0, .ref a.kp, .int L.oc])), (a.s0, .inr (1, [.ref a.c0, .int L.ar, .int L.de, .int L.wr])), (a.c0, .inl (a.cA, 512, .inl L.g)), (a.j0, .inr (2, [.ref a.jr, .ref a.jh, .int (nI L.jt)])), (a.jr, .inl (a.cR, 96, .inl L.ro)), (a.jh, .inl (a.cH, 16, .inl L.hd)), (a.h0, .inr (3, [.ref a.w0, .ref a.w1, .ref a.w2, .ref a.w3, .ref a.w4, .ref a.w5, .int (nI L.wn), .int L.nx, .int (nI L.wc)])), (a.w0, .inl (a.cN, 10, .inl L.nu)), (a.w1, .inl (a.cL, 10, .inl L.le)), (a.w2, .inl (a.cX, 120, .inl L.te)), (a.w3, .inl (a.cU, 12, .inl L.un)), (a.w4, .inl (a.cV, 8, .inl L.va)), (a.w5, .inl (a.cT, 15, .inl L.ty)), (a.m0, .inr (4, [.ref a.sx, .ref a.sv, .int (nI L.en), .int (nI L.at1), .int L.go, .int L.kd, .int L.vr, .int L.fi, .int L.lf, .int L.sg, .int L.rt, .int L.tg])), (a.sx, .inl (a.cS, 12, .inl L.tx)), (a.sv, .inl (a.cW, 8, .inl L.tv)), (a.kp, .inl (a.cK, 60, .inl L.kf)), (lo, .inl (cO, 1, .inr (.inl g)))] sz) := by
  refine tw_ofW (hh := [(0, 9, 12, 19)]) (cc := b_La_out) (maxL := 4) (ret := (some .int)) (by decide) rfl ?_
  intro p e s m args below meth c s₁ B hml htab0 hv
  obtain ⟨rfl, hsz, hP, hK, hD0, hkw, hX⟩ := hv
  have hx := B.exec
  have hb := B.bytes
  have hr := B.returns
  have hts := fun w hw => atoms_spec (ws := Cond.codeWith y_La_out b_La_out 4 (some .int) [(0, 9, 12, 19)] :: gw) B.pre w (List.mem_cons_of_mem _ hw)
  have hown : s.vm.findClass "LineDiskLaw" = some m.cls := findClass_of_methodNamed B.named
  have hlocks := B.notSynchronized
  have hin := (name_of_methodNamed B.named B.method).1
  subst hsz
  have hD := hD0.self (sz := s.heap.size)
  generalize hAe : va_A [(a.o0, .inr (0, [.ref a.s0, .ref a.j0, .ref a.h0, .ref a.m0, .ref a.kp, .int L.oc])), (a.s0, .inr (1, [.ref a.c0, .int L.ar, .int L.de, .int L.wr])), (a.c0, .inl (a.cA, 512, .inl L.g)), (a.j0, .inr (2, [.ref a.jr, .ref a.jh, .int (nI L.jt)])), (a.jr, .inl (a.cR, 96, .inl L.ro)), (a.jh, .inl (a.cH, 16, .inl L.hd)), (a.h0, .inr (3, [.ref a.w0, .ref a.w1, .ref a.w2, .ref a.w3, .ref a.w4, .ref a.w5, .int (nI L.wn), .int L.nx, .int (nI L.wc)])), (a.w0, .inl (a.cN, 10, .inl L.nu)), (a.w1, .inl (a.cL, 10, .inl L.le)), (a.w2, .inl (a.cX, 120, .inl L.te)), (a.w3, .inl (a.cU, 12, .inl L.un)), (a.w4, .inl (a.cV, 8, .inl L.va)), (a.w5, .inl (a.cT, 15, .inl L.ty)), (a.m0, .inr (4, [.ref a.sx, .ref a.sv, .int (nI L.en), .int (nI L.at1), .int L.go, .int L.kd, .int L.vr, .int L.fi, .int L.lf, .int L.sg, .int L.rt, .int L.tg])), (a.sx, .inl (a.cS, 12, .inl L.tx)), (a.sv, .inl (a.cW, 8, .inl L.tv)), (a.kp, .inl (a.cK, 60, .inl L.kf)), (lo, .inl (cO, 1, .inr (.inl g)))] s.heap.size = A at hD ⊢
  have hA : ∀ q : Nat, s.heap.size ≤ q → A q := fun q h => by rw [← hAe]; exact Or.inr h
  have hS : va_S A s.heap s.heap [] := va_S.rf
  have hl := lv_entry ([.ref a.o0, .int x, .ref lo]) (n := 4) (Nat.le_of_ble_eq_true rfl)
  rw [lg_entry_eq]
  generalize (lg_sl ([.ref a.o0, .int x, .ref lo]) ++ List.replicate (4 - (lg_sl ([.ref a.o0, .int x, .ref lo])).length) Slot.unset).toArray = ls at hl ⊢
  have hl : lv_has ls 4 [(0, .ref a.o0), (1, .int x), (2, .ref lo)] := hl
  have F : CallFix p m c b_La_out 4 s ([.ref a.o0, .int x, .ref lo]).toArray gw "LineDiskLaw" := ⟨hx, hb, hml, hown, hts⟩
  refine lv_aload_n hx hb d_La_out_0 rfl (lv_at hl 2 rfl) ?_
  refine lv_iconst (v := 0) hx hb d_La_out_1 (by decide) ?_
  refine lv_aload_n hx hb d_La_out_2 rfl (lv_at hl 0 rfl) ?_
  refine lv_iload_n hx hb d_La_out_3 rfl (lv_at hl 1 rfl) ?_
  refine go_i (wr := [(lo, .inl (cO, 1, .inr (.inl g)))]) (tr := [(cO, .long)]) (rV (C := "LineDisk") (ci := 0) (q0 := 0) (b := a.o0) (n := 1) (As := [.int x]) (rest := [.int 0, .ref lo]) F hkw (g_Ld_out l dC dI a L x h1 h2 h3 s.heap.size) xT_bl (fun _ _ _ => trivial) w_555 w_556 w_557 w_1 w_558 rfl rfl (by decide +kernel) ⟨Nat.le_of_ble_eq_true rfl, Nat.le_of_ble_eq_true rfl⟩ (hP.sub (ws' := [(a.o0, .inr (0, [.ref a.s0, .ref a.j0, .ref a.h0, .ref a.m0, .ref a.kp, .int L.oc])), (a.s0, .inr (1, [.ref a.c0, .int L.ar, .int L.de, .int L.wr])), (a.c0, .inl (a.cA, 512, .inl L.g)), (a.j0, .inr (2, [.ref a.jr, .ref a.jh, .int (nI L.jt)])), (a.jr, .inl (a.cR, 96, .inl L.ro)), (a.jh, .inl (a.cH, 16, .inl L.hd)), (a.h0, .inr (3, [.ref a.w0, .ref a.w1, .ref a.w2, .ref a.w3, .ref a.w4, .ref a.w5, .int (nI L.wn), .int L.nx, .int (nI L.wc)])), (a.w0, .inl (a.cN, 10, .inl L.nu)), (a.w1, .inl (a.cL, 10, .inl L.le)), (a.w2, .inl (a.cX, 120, .inl L.te)), (a.w3, .inl (a.cU, 12, .inl L.un)), (a.w4, .inl (a.cV, 8, .inl L.va)), (a.w5, .inl (a.cT, 15, .inl L.ty)), (a.m0, .inr (4, [.ref a.sx, .ref a.sv, .int (nI L.en), .int (nI L.at1), .int L.go, .int L.kd, .int L.vr, .int L.fi, .int L.lf, .int L.sg, .int L.rt, .int L.tg])), (a.sx, .inl (a.cS, 12, .inl L.tx)), (a.sv, .inl (a.cW, 8, .inl L.tv)), (a.kp, .inl (a.cK, 60, .inl L.kf))]) [0, 1, 2, 3, 4, 5, 6, 7, 8, 9, 10, 11, 12, 13, 14, 15, 16] rfl) (hD.sub (ws' := [(a.o0, .inr (0, [.ref a.s0, .ref a.j0, .ref a.h0, .ref a.m0, .ref a.kp, .int L.oc])), (a.s0, .inr (1, [.ref a.c0, .int L.ar, .int L.de, .int L.wr])), (a.c0, .inl (a.cA, 512, .inl L.g)), (a.j0, .inr (2, [.ref a.jr, .ref a.jh, .int (nI L.jt)])), (a.jr, .inl (a.cR, 96, .inl L.ro)), (a.jh, .inl (a.cH, 16, .inl L.hd)), (a.h0, .inr (3, [.ref a.w0, .ref a.w1, .ref a.w2, .ref a.w3, .ref a.w4, .ref a.w5, .int (nI L.wn), .int L.nx, .int (nI L.wc)])), (a.w0, .inl (a.cN, 10, .inl L.nu)), (a.w1, .inl (a.cL, 10, .inl L.le)), (a.w2, .inl (a.cX, 120, .inl L.te)), (a.w3, .inl (a.cU, 12, .inl L.un)), (a.w4, .inl (a.cV, 8, .inl L.va)), (a.w5, .inl (a.cT, 15, .inl L.ty)), (a.m0, .inr (4, [.ref a.sx, .ref a.sv, .int (nI L.en), .int (nI L.at1), .int L.go, .int L.kd, .int L.vr, .int L.fi, .int L.lf, .int L.sg, .int L.rt, .int L.tg])), (a.sx, .inl (a.cS, 12, .inl L.tx)), (a.sv, .inl (a.cW, 8, .inl L.tv)), (a.kp, .inl (a.cK, 60, .inl L.kf))]) [0, 1, 2, 3, 4, 5, 6, 7, 8, 9, 10, 11, 12, 13, 14, 15, 16] (by decide) rfl) (hK.sub (tys' := [(a.cA, .int), (a.cR, .int), (a.cH, .int), (a.cN, .int), (a.cL, .int), (a.cX, .int), (a.cU, .int), (a.cV, .int), (a.cT, .int), (a.cS, .int), (a.cW, .int), (a.cK, .int)]) [0, 1, 2, 3, 4, 5, 6, 7, 8, 9, 10, 11] rfl) rfl rfl rfl rfl hl.1 rfl (Nat.le_of_ble_eq_true rfl) d_La_out_4 ⟨by decide, by decide⟩) hP hD hK hS hA [0, 1, 2, 3, 4, 5, 6, 7, 8, 9, 10, 11, 12, 13, 14, 15, 16] [17] [12] rfl rfl (by decide) (by decide) rfl (fun ro uo H locs po hP hD hK hS => ?_)
  have hP : va_P (dC, dI) cls [(lo, .inl (cO, 1, .inr (.inl g))), (a.o0, .inr (0, [.ref a.s0, .ref a.j0, .ref a.h0, .ref a.m0, .ref a.kp, .int uo.oc])), (a.s0, .inr (1, [.ref a.c0, .int uo.ar, .int uo.de, .int uo.wr])), (a.c0, .inl (a.cA, 512, .inl uo.g)), (a.j0, .inr (2, [.ref a.jr, .ref a.jh, .int (nI uo.jt)])), (a.jr, .inl (a.cR, 96, .inl uo.ro)), (a.jh, .inl (a.cH, 16, .inl uo.hd)), (a.h0, .inr (3, [.ref a.w0, .ref a.w1, .ref a.w2, .ref a.w3, .ref a.w4, .ref a.w5, .int (nI uo.wn), .int uo.nx, .int (nI uo.wc)])), (a.w0, .inl (a.cN, 10, .inl uo.nu)), (a.w1, .inl (a.cL, 10, .inl uo.le)), (a.w2, .inl (a.cX, 120, .inl uo.te)), (a.w3, .inl (a.cU, 12, .inl uo.un)), (a.w4, .inl (a.cV, 8, .inl uo.va)), (a.w5, .inl (a.cT, 15, .inl uo.ty)), (a.m0, .inr (4, [.ref a.sx, .ref a.sv, .int (nI uo.en), .int (nI uo.at1), .int uo.go, .int uo.kd, .int uo.vr, .int uo.fi, .int uo.lf, .int uo.sg, .int uo.rt, .int uo.tg])), (a.sx, .inl (a.cS, 12, .inl uo.tx)), (a.sv, .inl (a.cW, 8, .inl uo.tv)), (a.kp, .inl (a.cK, 60, .inl uo.kf))] H := hP
  have hD : va_D A [(lo, .inl (cO, 1, .inr (.inl g))), (a.o0, .inr (0, [.ref a.s0, .ref a.j0, .ref a.h0, .ref a.m0, .ref a.kp, .int uo.oc])), (a.s0, .inr (1, [.ref a.c0, .int uo.ar, .int uo.de, .int uo.wr])), (a.c0, .inl (a.cA, 512, .inl uo.g)), (a.j0, .inr (2, [.ref a.jr, .ref a.jh, .int (nI uo.jt)])), (a.jr, .inl (a.cR, 96, .inl uo.ro)), (a.jh, .inl (a.cH, 16, .inl uo.hd)), (a.h0, .inr (3, [.ref a.w0, .ref a.w1, .ref a.w2, .ref a.w3, .ref a.w4, .ref a.w5, .int (nI uo.wn), .int uo.nx, .int (nI uo.wc)])), (a.w0, .inl (a.cN, 10, .inl uo.nu)), (a.w1, .inl (a.cL, 10, .inl uo.le)), (a.w2, .inl (a.cX, 120, .inl uo.te)), (a.w3, .inl (a.cU, 12, .inl uo.un)), (a.w4, .inl (a.cV, 8, .inl uo.va)), (a.w5, .inl (a.cT, 15, .inl uo.ty)), (a.m0, .inr (4, [.ref a.sx, .ref a.sv, .int (nI uo.en), .int (nI uo.at1), .int uo.go, .int uo.kd, .int uo.vr, .int uo.fi, .int uo.lf, .int uo.sg, .int uo.rt, .int uo.tg])), (a.sx, .inl (a.cS, 12, .inl uo.tx)), (a.sv, .inl (a.cW, 8, .inl uo.tv)), (a.kp, .inl (a.cK, 60, .inl uo.kf))] := hD
  have hK : va_K (dC, dI) cls [(cO, .long), (a.cA, .int), (a.cR, .int), (a.cH, .int), (a.cN, .int), (a.cL, .int), (a.cX, .int), (a.cU, .int), (a.cV, .int), (a.cT, .int), (a.cS, .int), (a.cW, .int), (a.cK, .int)] s := hK
  refine W.widen (k := 0) (n := 0) (by omega) (by omega) ?_
  obtain ⟨e1, e2⟩ := po
  subst e1
  rw [e2] at hP hD
  have hP : va_P (dC, dI) cls [(lo, .inl (cO, 1, .inr (.inl g))), (a.o0, .inr (0, [.ref a.s0, .ref a.j0, .ref a.h0, .ref a.m0, .ref a.kp, .int L.oc])), (a.s0, .inr (1, [.ref a.c0, .int L.ar, .int L.de, .int L.wr])), (a.c0, .inl (a.cA, 512, .inl L.g)), (a.j0, .inr (2, [.ref a.jr, .ref a.jh, .int (nI L.jt)])), (a.jr, .inl (a.cR, 96, .inl L.ro)), (a.jh, .inl (a.cH, 16, .inl L.hd)), (a.h0, .inr (3, [.ref a.w0, .ref a.w1, .ref a.w2, .ref a.w3, .ref a.w4, .ref a.w5, .int (nI L.wn), .int L.nx, .int (nI L.wc)])), (a.w0, .inl (a.cN, 10, .inl L.nu)), (a.w1, .inl (a.cL, 10, .inl L.le)), (a.w2, .inl (a.cX, 120, .inl L.te)), (a.w3, .inl (a.cU, 12, .inl L.un)), (a.w4, .inl (a.cV, 8, .inl L.va)), (a.w5, .inl (a.cT, 15, .inl L.ty)), (a.m0, .inr (4, [.ref a.sx, .ref a.sv, .int (nI L.en), .int (nI L.at1), .int L.go, .int L.kd, .int L.vr, .int L.fi, .int L.lf, .int L.sg, .int L.rt, .int L.tg])), (a.sx, .inl (a.cS, 12, .inl L.tx)), (a.sv, .inl (a.cW, 8, .inl L.tv)), (a.kp, .inl (a.cK, 60, .inl L.kf))] H := hP
  have hD : va_D A [(lo, .inl (cO, 1, .inr (.inl g))), (a.o0, .inr (0, [.ref a.s0, .ref a.j0, .ref a.h0, .ref a.m0, .ref a.kp, .int L.oc])), (a.s0, .inr (1, [.ref a.c0, .int L.ar, .int L.de, .int L.wr])), (a.c0, .inl (a.cA, 512, .inl L.g)), (a.j0, .inr (2, [.ref a.jr, .ref a.jh, .int (nI L.jt)])), (a.jr, .inl (a.cR, 96, .inl L.ro)), (a.jh, .inl (a.cH, 16, .inl L.hd)), (a.h0, .inr (3, [.ref a.w0, .ref a.w1, .ref a.w2, .ref a.w3, .ref a.w4, .ref a.w5, .int (nI L.wn), .int L.nx, .int (nI L.wc)])), (a.w0, .inl (a.cN, 10, .inl L.nu)), (a.w1, .inl (a.cL, 10, .inl L.le)), (a.w2, .inl (a.cX, 120, .inl L.te)), (a.w3, .inl (a.cU, 12, .inl L.un)), (a.w4, .inl (a.cV, 8, .inl L.va)), (a.w5, .inl (a.cT, 15, .inl L.ty)), (a.m0, .inr (4, [.ref a.sx, .ref a.sv, .int (nI L.en), .int (nI L.at1), .int L.go, .int L.kd, .int L.vr, .int L.fi, .int L.lf, .int L.sg, .int L.rt, .int L.tg])), (a.sx, .inl (a.cS, 12, .inl L.tx)), (a.sv, .inl (a.cW, 8, .inl L.tv)), (a.kp, .inl (a.cK, 60, .inl L.kf))] := hD
  refine lv_i2l hx hb d_La_out_7 rfl ?_
  refine va_last hx hb hK hP hD hS 0 0 rfl rfl (vp_in_iff.mpr (by decide)) d_La_out_8 (fun H locs hP hD hS => ?_)
  have hP : va_P (dC, dI) cls [(lo, .inl (cO, 1, .inr (.inl (vp_updL g (0 : Int32).toNatClampNeg ((L.kf x.toNatClampNeg : Int32).toInt64))))), (a.o0, .inr (0, [.ref a.s0, .ref a.j0, .ref a.h0, .ref a.m0, .ref a.kp, .int L.oc])), (a.s0, .inr (1, [.ref a.c0, .int L.ar, .int L.de, .int L.wr])), (a.c0, .inl (a.cA, 512, .inl L.g)), (a.j0, .inr (2, [.ref a.jr, .ref a.jh, .int (nI L.jt)])), (a.jr, .inl (a.cR, 96, .inl L.ro)), (a.jh, .inl (a.cH, 16, .inl L.hd)), (a.h0, .inr (3, [.ref a.w0, .ref a.w1, .ref a.w2, .ref a.w3, .ref a.w4, .ref a.w5, .int (nI L.wn), .int L.nx, .int (nI L.wc)])), (a.w0, .inl (a.cN, 10, .inl L.nu)), (a.w1, .inl (a.cL, 10, .inl L.le)), (a.w2, .inl (a.cX, 120, .inl L.te)), (a.w3, .inl (a.cU, 12, .inl L.un)), (a.w4, .inl (a.cV, 8, .inl L.va)), (a.w5, .inl (a.cT, 15, .inl L.ty)), (a.m0, .inr (4, [.ref a.sx, .ref a.sv, .int (nI L.en), .int (nI L.at1), .int L.go, .int L.kd, .int L.vr, .int L.fi, .int L.lf, .int L.sg, .int L.rt, .int L.tg])), (a.sx, .inl (a.cS, 12, .inl L.tx)), (a.sv, .inl (a.cW, 8, .inl L.tv)), (a.kp, .inl (a.cK, 60, .inl L.kf))] H := hP
  have hD : va_D A [(lo, .inl (cO, 1, .inr (.inl (vp_updL g (0 : Int32).toNatClampNeg ((L.kf x.toNatClampNeg : Int32).toInt64))))), (a.o0, .inr (0, [.ref a.s0, .ref a.j0, .ref a.h0, .ref a.m0, .ref a.kp, .int L.oc])), (a.s0, .inr (1, [.ref a.c0, .int L.ar, .int L.de, .int L.wr])), (a.c0, .inl (a.cA, 512, .inl L.g)), (a.j0, .inr (2, [.ref a.jr, .ref a.jh, .int (nI L.jt)])), (a.jr, .inl (a.cR, 96, .inl L.ro)), (a.jh, .inl (a.cH, 16, .inl L.hd)), (a.h0, .inr (3, [.ref a.w0, .ref a.w1, .ref a.w2, .ref a.w3, .ref a.w4, .ref a.w5, .int (nI L.wn), .int L.nx, .int (nI L.wc)])), (a.w0, .inl (a.cN, 10, .inl L.nu)), (a.w1, .inl (a.cL, 10, .inl L.le)), (a.w2, .inl (a.cX, 120, .inl L.te)), (a.w3, .inl (a.cU, 12, .inl L.un)), (a.w4, .inl (a.cV, 8, .inl L.va)), (a.w5, .inl (a.cT, 15, .inl L.ty)), (a.m0, .inr (4, [.ref a.sx, .ref a.sv, .int (nI L.en), .int (nI L.at1), .int L.go, .int L.kd, .int L.vr, .int L.fi, .int L.lf, .int L.sg, .int L.rt, .int L.tg])), (a.sx, .inl (a.cS, 12, .inl L.tx)), (a.sv, .inl (a.cW, 8, .inl L.tv)), (a.kp, .inl (a.cK, 60, .inl L.kf))] := hD
  refine lv_goto (tgt := 15) hx hb d_La_out_9 (by decide) ?_
  refine lv_iconst (v := 0) hx hb d_La_out_15 (by decide) ?_
  refine W.widen (k := 0) (n := 0) (by decide) (by decide) ?_
  exact W.iret (v := 0) hx hb hr (fun t ht hW => ⟨⟨0, (), rfl, rfl, cB.of (hP.sub [1, 2, 3, 4, 5, 6, 7, 8, 9, 10, 11, 12, 13, 14, 15, 16, 17, 0] rfl) (hD.sub [1, 2, 3, 4, 5, 6, 7, 8, 9, 10, 11, 12, 13, 14, 15, 16, 17, 0] (by decide) rfl) (hK.sub [1, 2, 3, 4, 5, 6, 7, 8, 9, 10, 11, 12, 0] rfl) ht hW⟩, hS.F ht⟩) hS.2.2 d_La_out_16
set_option maxHeartbeats 4000000 in
set_option maxRecDepth 100000 in
theorem h_disk1 (l : Launch) (dC : Nat → ClassId) (dI : Nat → Nat → Nat) (hfl : l.flags = pinnedFlags ++ [noTraceFlag]) (a : LAd) (L : LSt) (lo : Nat) (x : Int32) (h1 : x < 0) (q : Nat) (sz : Nat) : Met l y_La_disk (Cond.codeWith y_La_disk b_La_disk 4 (some .int) [(0, 9, 12, 19)] :: gw) ({ frames := 7, cells := 1, slots := 6, locals := 121 }) (cP (dC, dI) [.ref a.o0, .int x, .ref lo] sz [(a.o0, .inr (0, [.ref a.s0, .ref a.j0, .ref a.h0, .ref a.m0, .ref a.kp, .int L.oc]))] [] (xE 122 "no such cell" q)) (va_Qi (fun (r : Int32) (u : Unit) => r = 1) (fun (u : Unit) t => cB (dC, dI) (va_A [(a.o0, .inr (0, [.ref a.s0, .ref a.j0, .ref a.h0, .ref a.m0, .ref a.kp, .int L.oc]))] sz) [(a.o0, .inr (0, [.ref a.s0, .ref a.j0, .ref a.h0, .ref a.m0, .ref a.kp, .int L.oc]))] [] t) (va_A [(a.o0, .inr (0, [.ref a.s0, .ref a.j0, .ref a.h0, .ref a.m0, .ref a.kp, .int L.oc]))] sz)) 1 6 (va_A [(a.o0, .inr (0, [.ref a.s0, .ref a.j0, .ref a.h0, .ref a.m0, .ref a.kp, .int L.oc]))] sz) := by
  refine tw_ofW (hh := [(0, 9, 12, 19)]) (cc := b_La_disk) (maxL := 4) (ret := (some .int)) (by decide) rfl ?_
  intro p e s m args below meth c s₁ B hml htab0 hv
  obtain ⟨rfl, hsz, hP, hK, hD0, hkw, hX⟩ := hv
  have hx := B.exec
  have hb := B.bytes
  have hr := B.returns
  have hts := fun w hw => atoms_spec (ws := Cond.codeWith y_La_disk b_La_disk 4 (some .int) [(0, 9, 12, 19)] :: gw) B.pre w (List.mem_cons_of_mem _ hw)
  have hown : s.vm.findClass "LineDiskLaw" = some m.cls := findClass_of_methodNamed B.named
  have hlocks := B.notSynchronized
  have hin := (name_of_methodNamed B.named B.method).1
  subst hsz
  have hD := hD0.self (sz := s.heap.size)
  generalize hAe : va_A [(a.o0, .inr (0, [.ref a.s0, .ref a.j0, .ref a.h0, .ref a.m0, .ref a.kp, .int L.oc]))] s.heap.size = A at hD ⊢
  have hA : ∀ q : Nat, s.heap.size ≤ q → A q := fun q h => by rw [← hAe]; exact Or.inr h
  have hS : va_S A s.heap s.heap [] := va_S.rf
  have hl := lv_entry ([.ref a.o0, .int x, .ref lo]) (n := 4) (Nat.le_of_ble_eq_true rfl)
  rw [lg_entry_eq]
  generalize (lg_sl ([.ref a.o0, .int x, .ref lo]) ++ List.replicate (4 - (lg_sl ([.ref a.o0, .int x, .ref lo])).length) Slot.unset).toArray = ls at hl ⊢
  have hl : lv_has ls 4 [(0, .ref a.o0), (1, .int x), (2, .ref lo)] := hl
  have F : CallFix p m c b_La_disk 4 s ([.ref a.o0, .int x, .ref lo]).toArray gw "LineDiskLaw" := ⟨hx, hb, hml, hown, hts⟩
  refine lv_aload_n hx hb d_La_disk_0 rfl (lv_at hl 2 rfl) ?_
  refine lv_iconst (v := 0) hx hb d_La_disk_1 (by decide) ?_
  refine lv_aload_n hx hb d_La_disk_2 rfl (lv_at hl 0 rfl) ?_
  refine lv_iload_n hx hb d_La_disk_3 rfl (lv_at hl 1 rfl) ?_
  obtain ⟨xx, ht, hx1, hx2, hx3, hx4⟩ := tab1 htab0
  refine th_call (As := [.int x]) (rest := [.int 0, .ref lo]) (b := a.o0) (C := "LineDisk") (own := "LineDiskLaw") (name := "java/lang/IndexOutOfBoundsException") (bytes := b_Ld_disk) (maxL := 2) (ret := (some .int)) hx hb hml hown (t_Ld_disk1 l hfl dC dI a L x h1 q s.heap.size) (cP.blind xE_bl) (by decide) (by decide) (pay_in hts (gi w_581)) (hts _ w_581) (hts _ w_578) (hts _ w_579) (hts _ w_580) (hts _ w_1) (by decide +kernel) (fun sig h => ?_) (va_recv (q0 := 0) hK hP (ci := 0) rfl rfl) (cP.pre (A := A) hP hD hK hkw (xE_of hX (fun _ _ => rfl))) hl.1 (Nat.le_of_ble_eq_true rfl) d_La_disk_4 (by decide) (by decide) ht (by simp [covers, hx1, hx2]) (by rw [hx4]; decide) (by rw [hx4]; exact hts _ w_554) (hkw.use v_561 rfl) rfl (fun ea H hz9 hk9 => ?_)
  · cases (show some sig = parseMethodDescriptor y_Ld_disk.desc from h.symm).trans (by decide +kernel : parseMethodDescriptor y_Ld_disk.desc = some ⟨[.int], (some .int)⟩)
    rfl
  rw [hx3]
  have hS : va_S A s.heap H [] := ⟨hz9, fun q h _ => hk9 q h, fun _ h => by cases h⟩
  have hP : va_P (dC, dI) cls [(a.o0, .inr (0, [.ref a.s0, .ref a.j0, .ref a.h0, .ref a.m0, .ref a.kp, .int L.oc]))] H := va_P_kp hP hk9
  refine W.widen (k := 1) (n := 6) (by decide) (by decide) ?_
  refine lv_astore_n (i := 3) hx hb d_La_disk_12 rfl hl (by decide) rfl (fun ls hl => ?_)
  have hl : lv_has ls 4 [(3, .ref ea), (0, .ref a.o0), (1, .int x), (2, .ref lo)] := hl
  refine lv_iconst (v := 1) hx hb d_La_disk_13 (by decide) ?_
  exact W.iret (v := 1) hx hb hr (fun t ht hW => ⟨⟨1, (), rfl, rfl, cB.of (hP.sub [0] rfl) (hD.sub [0] (by decide) rfl) (hK.sub [] rfl) ht hW⟩, hS.F ht⟩) hS.2.2 d_La_disk_14
set_option maxHeartbeats 4000000 in
set_option maxRecDepth 100000 in
theorem h_disk2 (l : Launch) (dC : Nat → ClassId) (dI : Nat → Nat → Nat) (hfl : l.flags = pinnedFlags ++ [noTraceFlag]) (a : LAd) (L : LSt) (lo : Nat) (x : Int32) (h1 : ¬ x < 0) (h2 : ¬ x < 512) (q : Nat) (sz : Nat) : Met l y_La_disk (Cond.codeWith y_La_disk b_La_disk 4 (some .int) [(0, 9, 12, 19)] :: gw) ({ frames := 7, cells := 1, slots := 6, locals := 121 }) (cP (dC, dI) [.ref a.o0, .int x, .ref lo] sz [(a.o0, .inr (0, [.ref a.s0, .ref a.j0, .ref a.h0, .ref a.m0, .ref a.kp, .int L.oc]))] [] (xE 122 "no such cell" q)) (va_Qi (fun (r : Int32) (u : Unit) => r = 1) (fun (u : Unit) t => cB (dC, dI) (va_A [(a.o0, .inr (0, [.ref a.s0, .ref a.j0, .ref a.h0, .ref a.m0, .ref a.kp, .int L.oc]))] sz) [(a.o0, .inr (0, [.ref a.s0, .ref a.j0, .ref a.h0, .ref a.m0, .ref a.kp, .int L.oc]))] [] t) (va_A [(a.o0, .inr (0, [.ref a.s0, .ref a.j0, .ref a.h0, .ref a.m0, .ref a.kp, .int L.oc]))] sz)) 1 6 (va_A [(a.o0, .inr (0, [.ref a.s0, .ref a.j0, .ref a.h0, .ref a.m0, .ref a.kp, .int L.oc]))] sz) := by
  refine tw_ofW (hh := [(0, 9, 12, 19)]) (cc := b_La_disk) (maxL := 4) (ret := (some .int)) (by decide) rfl ?_
  intro p e s m args below meth c s₁ B hml htab0 hv
  obtain ⟨rfl, hsz, hP, hK, hD0, hkw, hX⟩ := hv
  have hx := B.exec
  have hb := B.bytes
  have hr := B.returns
  have hts := fun w hw => atoms_spec (ws := Cond.codeWith y_La_disk b_La_disk 4 (some .int) [(0, 9, 12, 19)] :: gw) B.pre w (List.mem_cons_of_mem _ hw)
  have hown : s.vm.findClass "LineDiskLaw" = some m.cls := findClass_of_methodNamed B.named
  have hlocks := B.notSynchronized
  have hin := (name_of_methodNamed B.named B.method).1
  subst hsz
  have hD := hD0.self (sz := s.heap.size)
  generalize hAe : va_A [(a.o0, .inr (0, [.ref a.s0, .ref a.j0, .ref a.h0, .ref a.m0, .ref a.kp, .int L.oc]))] s.heap.size = A at hD ⊢
  have hA : ∀ q : Nat, s.heap.size ≤ q → A q := fun q h => by rw [← hAe]; exact Or.inr h
  have hS : va_S A s.heap s.heap [] := va_S.rf
  have hl := lv_entry ([.ref a.o0, .int x, .ref lo]) (n := 4) (Nat.le_of_ble_eq_true rfl)
  rw [lg_entry_eq]
  generalize (lg_sl ([.ref a.o0, .int x, .ref lo]) ++ List.replicate (4 - (lg_sl ([.ref a.o0, .int x, .ref lo])).length) Slot.unset).toArray = ls at hl ⊢
  have hl : lv_has ls 4 [(0, .ref a.o0), (1, .int x), (2, .ref lo)] := hl
  have F : CallFix p m c b_La_disk 4 s ([.ref a.o0, .int x, .ref lo]).toArray gw "LineDiskLaw" := ⟨hx, hb, hml, hown, hts⟩
  refine lv_aload_n hx hb d_La_disk_0 rfl (lv_at hl 2 rfl) ?_
  refine lv_iconst (v := 0) hx hb d_La_disk_1 (by decide) ?_
  refine lv_aload_n hx hb d_La_disk_2 rfl (lv_at hl 0 rfl) ?_
  refine lv_iload_n hx hb d_La_disk_3 rfl (lv_at hl 1 rfl) ?_
  obtain ⟨xx, ht, hx1, hx2, hx3, hx4⟩ := tab1 htab0
  refine th_call (As := [.int x]) (rest := [.int 0, .ref lo]) (b := a.o0) (C := "LineDisk") (own := "LineDiskLaw") (name := "java/lang/IndexOutOfBoundsException") (bytes := b_Ld_disk) (maxL := 2) (ret := (some .int)) hx hb hml hown (t_Ld_disk2 l hfl dC dI a L x h1 h2 q s.heap.size) (cP.blind xE_bl) (by decide) (by decide) (pay_in hts (gi w_581)) (hts _ w_581) (hts _ w_578) (hts _ w_579) (hts _ w_580) (hts _ w_1) (by decide +kernel) (fun sig h => ?_) (va_recv (q0 := 0) hK hP (ci := 0) rfl rfl) (cP.pre (A := A) hP hD hK hkw (xE_of hX (fun _ _ => rfl))) hl.1 (Nat.le_of_ble_eq_true rfl) d_La_disk_4 (by decide) (by decide) ht (by simp [covers, hx1, hx2]) (by rw [hx4]; decide) (by rw [hx4]; exact hts _ w_554) (hkw.use v_561 rfl) rfl (fun ea H hz9 hk9 => ?_)
  · cases (show some sig = parseMethodDescriptor y_Ld_disk.desc from h.symm).trans (by decide +kernel : parseMethodDescriptor y_Ld_disk.desc = some ⟨[.int], (some .int)⟩)
    rfl
  rw [hx3]
  have hS : va_S A s.heap H [] := ⟨hz9, fun q h _ => hk9 q h, fun _ h => by cases h⟩
  have hP : va_P (dC, dI) cls [(a.o0, .inr (0, [.ref a.s0, .ref a.j0, .ref a.h0, .ref a.m0, .ref a.kp, .int L.oc]))] H := va_P_kp hP hk9
  refine W.widen (k := 1) (n := 6) (by decide) (by decide) ?_
  refine lv_astore_n (i := 3) hx hb d_La_disk_12 rfl hl (by decide) rfl (fun ls hl => ?_)
  have hl : lv_has ls 4 [(3, .ref ea), (0, .ref a.o0), (1, .int x), (2, .ref lo)] := hl
  refine lv_iconst (v := 1) hx hb d_La_disk_13 (by decide) ?_
  exact W.iret (v := 1) hx hb hr (fun t ht hW => ⟨⟨1, (), rfl, rfl, cB.of (hP.sub [0] rfl) (hD.sub [0] (by decide) rfl) (hK.sub [] rfl) ht hW⟩, hS.F ht⟩) hS.2.2 d_La_disk_14
set_option maxHeartbeats 4000000 in
set_option maxRecDepth 100000 in
theorem h_disk9 (l : Launch) (dC : Nat → ClassId) (dI : Nat → Nat → Nat) (a : LAd) (L : LSt) (lo : Nat) (cO : ClassId) (g : Nat → Int64) (x : Int32) (h1 : ¬ x < 0) (h2 : ¬ 512 ≤ x) (sz : Nat) : Met l y_La_disk (Cond.codeWith y_La_disk b_La_disk 4 (some .int) [(0, 9, 12, 19)] :: gw) ({ frames := 3, cells := 0, slots := 0, locals := 82 }) (cP (dC, dI) [.ref a.o0, .int x, .ref lo] sz [(a.o0, .inr (0, [.ref a.s0, .ref a.j0, .ref a.h0, .ref a.m0, .ref a.kp, .int L.oc])), (a.s0, .inr (1, [.ref a.c0, .int L.ar, .int L.de, .int L.wr])), (a.c0, .inl (a.cA, 512, .inl L.g)), (a.j0, .inr (2, [.ref a.jr, .ref a.jh, .int (nI L.jt)])), (a.jr, .inl (a.cR, 96, .inl L.ro)), (a.jh, .inl (a.cH, 16, .inl L.hd)), (a.h0, .inr (3, [.ref a.w0, .ref a.w1, .ref a.w2, .ref a.w3, .ref a.w4, .ref a.w5, .int (nI L.wn), .int L.nx, .int (nI L.wc)])), (a.w0, .inl (a.cN, 10, .inl L.nu)), (a.w1, .inl (a.cL, 10, .inl L.le)), (a.w2, .inl (a.cX, 120, .inl L.te)), (a.w3, .inl (a.cU, 12, .inl L.un)), (a.w4, .inl (a.cV, 8, .inl L.va)), (a.w5, .inl (a.cT, 15, .inl L.ty)), (a.m0, .inr (4, [.ref a.sx, .ref a.sv, .int (nI L.en), .int (nI L.at1), .int L.go, .int L.kd, .int L.vr, .int L.fi, .int L.lf, .int L.sg, .int L.rt, .int L.tg])), (a.sx, .inl (a.cS, 12, .inl L.tx)), (a.sv, .inl (a.cW, 8, .inl L.tv)), (a.kp, .inl (a.cK, 60, .inl L.kf)), (lo, .inl (cO, 1, .inr (.inl g)))] [(a.cA, .int), (a.cR, .int), (a.cH, .int), (a.cN, .int), (a.cL, .int), (a.cX, .int), (a.cU, .int), (a.cV, .int), (a.cT, .int), (a.cS, .int), (a.cW, .int), (a.cK, .int), (cO, .long)] xT) (va_Qi (fun (r : Int32) (u : Unit) => r = 0) (fun (u : Unit) t => cB (dC, dI) (va_A [(a.o0, .inr (0, [.ref a.s0, .ref a.j0, .ref a.h0, .ref a.m0, .ref a.kp, .int L.oc])), (a.s0, .inr (1, [.ref a.c0, .int L.ar, .int L.de, .int L.wr])), (a.c0, .inl (a.cA, 512, .inl L.g)), (a.j0, .inr (2, [.ref a.jr, .ref a.jh, .int (nI L.jt)])), (a.jr, .inl (a.cR, 96, .inl L.ro)), (a.jh, .inl (a.cH, 16, .inl L.hd)), (a.h0, .inr (3, [.ref a.w0, .ref a.w1, .ref a.w2, .ref a.w3, .ref a.w4, .ref a.w5, .int (nI L.wn), .int L.nx, .int (nI L.wc)])), (a.w0, .inl (a.cN, 10, .inl L.nu)), (a.w1, .inl (a.cL, 10, .inl L.le)), (a.w2, .inl (a.cX, 120, .inl L.te)), (a.w3, .inl (a.cU, 12, .inl L.un)), (a.w4, .inl (a.cV, 8, .inl L.va)), (a.w5, .inl (a.cT, 15, .inl L.ty)), (a.m0, .inr (4, [.ref a.sx, .ref a.sv, .int (nI L.en), .int (nI L.at1), .int L.go, .int L.kd, .int L.vr, .int L.fi, .int L.lf, .int L.sg, .int L.rt, .int L.tg])), (a.sx, .inl (a.cS, 12, .inl L.tx)), (a.sv, .inl (a.cW, 8, .inl L.tv)), (a.kp, .inl (a.cK, 60, .inl L.kf)), (lo, .inl (cO, 1, .inr (.inl g)))] sz) [(a.o0, .inr (0, [.ref a.s0, .ref a.j0, .ref a.h0, .ref a.m0, .ref a.kp, .int L.oc])), (a.s0, .inr (1, [.ref a.c0, .int L.ar, .int L.de, .int L.wr])), (a.c0, .inl (a.cA, 512, .inl L.g)), (a.j0, .inr (2, [.ref a.jr, .ref a.jh, .int (nI L.jt)])), (a.jr, .inl (a.cR, 96, .inl L.ro)), (a.jh, .inl (a.cH, 16, .inl L.hd)), (a.h0, .inr (3, [.ref a.w0, .ref a.w1, .ref a.w2, .ref a.w3, .ref a.w4, .ref a.w5, .int (nI L.wn), .int L.nx, .int (nI L.wc)])), (a.w0, .inl (a.cN, 10, .inl L.nu)), (a.w1, .inl (a.cL, 10, .inl L.le)), (a.w2, .inl (a.cX, 120, .inl L.te)), (a.w3, .inl (a.cU, 12, .inl L.un)), (a.w4, .inl (a.cV, 8, .inl L.va)), (a.w5, .inl (a.cT, 15, .inl L.ty)), (a.m0, .inr (4, [.ref a.sx, .ref a.sv, .int (nI L.en), .int (nI L.at1), .int L.go, .int L.kd, .int L.vr, .int L.fi, .int L.lf, .int L.sg, .int L.rt, .int L.tg])), (a.sx, .inl (a.cS, 12, .inl L.tx)), (a.sv, .inl (a.cW, 8, .inl L.tv)), (a.kp, .inl (a.cK, 60, .inl L.kf)), (lo, .inl (cO, 1, .inr (.inl (vp_updL g (0 : Int32).toNatClampNeg (cellv L.g x : Int32).toInt64))))] [(a.cA, .int), (a.cR, .int), (a.cH, .int), (a.cN, .int), (a.cL, .int), (a.cX, .int), (a.cU, .int), (a.cV, .int), (a.cT, .int), (a.cS, .int), (a.cW, .int), (a.cK, .int), (cO, .long)] t) (va_A [(a.o0, .inr (0, [.ref a.s0, .ref a.j0, .ref a.h0, .ref a.m0, .ref a.kp, .int L.oc])), (a.s0, .inr (1, [.ref a.c0, .int L.ar, .int L.de, .int L.wr])), (a.c0, .inl (a.cA, 512, .inl L.g)), (a.j0, .inr (2, [.ref a.jr, .ref a.jh, .int (nI L.jt)])), (a.jr, .inl (a.cR, 96, .inl L.ro)), (a.jh, .inl (a.cH, 16, .inl L.hd)), (a.h0, .inr (3, [.ref a.w0, .ref a.w1, .ref a.w2, .ref a.w3, .ref a.w4, .ref a.w5, .int (nI L.wn), .int L.nx, .int (nI L.wc)])), (a.w0, .inl (a.cN, 10, .inl L.nu)), (a.w1, .inl (a.cL, 10, .inl L.le)), (a.w2, .inl (a.cX, 120, .inl L.te)), (a.w3, .inl (a.cU, 12, .inl L.un)), (a.w4, .inl (a.cV, 8, .inl L.va)), (a.w5, .inl (a.cT, 15, .inl L.ty)), (a.m0, .inr (4, [.ref a.sx, .ref a.sv, .int (nI L.en), .int (nI L.at1), .int L.go, .int L.kd, .int L.vr, .int L.fi, .int L.lf, .int L.sg, .int L.rt, .int L.tg])), (a.sx, .inl (a.cS, 12, .inl L.tx)), (a.sv, .inl (a.cW, 8, .inl L.tv)), (a.kp, .inl (a.cK, 60, .inl L.kf)), (lo, .inl (cO, 1, .inr (.inl g)))] sz)) 0 0 (va_A [(a.o0, .inr (0, [.ref a.s0, .ref a.j0, .ref a.h0, .ref a.m0, .ref a.kp, .int L.oc])), (a.s0, .inr (1, [.ref a.c0, .int L.ar, .int L.de, .int L.wr])), (a.c0, .inl (a.cA, 512, .inl L.g)), (a.j0, .inr (2, [.ref a.jr, .ref a.jh, .int (nI L.jt)])), (a.jr, .inl (a.cR, 96, .inl L.ro)), (a.jh, .inl (a.cH, 16, .inl L.hd)), (a.h0, .inr (3, [.ref a.w0, .ref a.w1, .ref a.w2, .ref a.w3, .ref a.w4, .ref a.w5, .int (nI L.wn), .int L.nx, .int (nI L.wc)])), (a.w0, .inl (a.cN, 10, .inl L.nu)), (a.w1, .inl (a.cL, 10, .inl L.le)), (a.w2, .inl (a.cX, 120, .inl L.te)), (a.w3, .inl (a.cU, 12, .inl L.un)), (a.w4, .inl (a.cV, 8, .inl L.va)), (a.w5, .inl (a.cT, 15, .inl L.ty)), (a.m0, .inr (4, [.ref a.sx, .ref a.sv, .int (nI L.en), .int (nI L.at1), .int L.go, .int L.kd, .int L.vr, .int L.fi, .int L.lf, .int L.sg, .int L.rt, .int L.tg])), (a.sx, .inl (a.cS, 12, .inl L.tx)), (a.sv, .inl (a.cW, 8, .inl L.tv)), (a.kp, .inl (a.cK, 60, .inl L.kf)), (lo, .inl (cO, 1, .inr (.inl g)))] sz) := by
  refine tw_ofW (hh := [(0, 9, 12, 19)]) (cc := b_La_disk) (maxL := 4) (ret := (some .int)) (by decide) rfl ?_
  intro p e s m args below meth c s₁ B hml htab0 hv
  obtain ⟨rfl, hsz, hP, hK, hD0, hkw, hX⟩ := hv
  have hx := B.exec
  have hb := B.bytes
  have hr := B.returns
  have hts := fun w hw => atoms_spec (ws := Cond.codeWith y_La_disk b_La_disk 4 (some .int) [(0, 9, 12, 19)] :: gw) B.pre w (List.mem_cons_of_mem _ hw)
  have hown : s.vm.findClass "LineDiskLaw" = some m.cls := findClass_of_methodNamed B.named
  have hlocks := B.notSynchronized
  have hin := (name_of_methodNamed B.named B.method).1
  subst hsz
  have hD := hD0.self (sz := s.heap.size)
  generalize hAe : va_A [(a.o0, .inr (0, [.ref a.s0, .ref a.j0, .ref a.h0, .ref a.m0, .ref a.kp, .int L.oc])), (a.s0, .inr (1, [.ref a.c0, .int L.ar, .int L.de, .int L.wr])), (a.c0, .inl (a.cA, 512, .inl L.g)), (a.j0, .inr (2, [.ref a.jr, .ref a.jh, .int (nI L.jt)])), (a.jr, .inl (a.cR, 96, .inl L.ro)), (a.jh, .inl (a.cH, 16, .inl L.hd)), (a.h0, .inr (3, [.ref a.w0, .ref a.w1, .ref a.w2, .ref a.w3, .ref a.w4, .ref a.w5, .int (nI L.wn), .int L.nx, .int (nI L.wc)])), (a.w0, .inl (a.cN, 10, .inl L.nu)), (a.w1, .inl (a.cL, 10, .inl L.le)), (a.w2, .inl (a.cX, 120, .inl L.te)), (a.w3, .inl (a.cU, 12, .inl L.un)), (a.w4, .inl (a.cV, 8, .inl L.va)), (a.w5, .inl (a.cT, 15, .inl L.ty)), (a.m0, .inr (4, [.ref a.sx, .ref a.sv, .int (nI L.en), .int (nI L.at1), .int L.go, .int L.kd, .int L.vr, .int L.fi, .int L.lf, .int L.sg, .int L.rt, .int L.tg])), (a.sx, .inl (a.cS, 12, .inl L.tx)), (a.sv, .inl (a.cW, 8, .inl L.tv)), (a.kp, .inl (a.cK, 60, .inl L.kf)), (lo, .inl (cO, 1, .inr (.inl g)))] s.heap.size = A at hD ⊢
  have hA : ∀ q : Nat, s.heap.size ≤ q → A q := fun q h => by rw [← hAe]; exact Or.inr h
  have hS : va_S A s.heap s.heap [] := va_S.rf
  have hl := lv_entry ([.ref a.o0, .int x, .ref lo]) (n := 4) (Nat.le_of_ble_eq_true rfl)
  rw [lg_entry_eq]
  generalize (lg_sl ([.ref a.o0, .int x, .ref lo]) ++ List.replicate (4 - (lg_sl ([.ref a.o0, .int x, .ref lo])).length) Slot.unset).toArray = ls at hl ⊢
  have hl : lv_has ls 4 [(0, .ref a.o0), (1, .int x), (2, .ref lo)] := hl
  have F : CallFix p m c b_La_disk 4 s ([.ref a.o0, .int x, .ref lo]).toArray gw "LineDiskLaw" := ⟨hx, hb, hml, hown, hts⟩
  refine lv_aload_n hx hb d_La_disk_0 rfl (lv_at hl 2 rfl) ?_
  refine lv_iconst (v := 0) hx hb d_La_disk_1 (by decide) ?_
  refine lv_aload_n hx hb d_La_disk_2 rfl (lv_at hl 0 rfl) ?_
  refine lv_iload_n hx hb d_La_disk_3 rfl (lv_at hl 1 rfl) ?_
  refine go_i (wr := [(lo, .inl (cO, 1, .inr (.inl g)))]) (tr := [(cO, .long)]) (rV (C := "LineDisk") (ci := 0) (q0 := 0) (b := a.o0) (n := 1) (As := [.int x]) (rest := [.int 0, .ref lo]) F hkw (g_Ld_disk l dC dI a L x h1 h2 s.heap.size) xT_bl (fun _ _ _ => trivial) w_578 w_579 w_580 w_1 w_581 rfl rfl (by decide +kernel) ⟨Nat.le_of_ble_eq_true rfl, Nat.le_of_ble_eq_true rfl⟩ (hP.sub (ws' := [(a.o0, .inr (0, [.ref a.s0, .ref a.j0, .ref a.h0, .ref a.m0, .ref a.kp, .int L.oc])), (a.s0, .inr (1, [.ref a.c0, .int L.ar, .int L.de, .int L.wr])), (a.c0, .inl (a.cA, 512, .inl L.g)), (a.j0, .inr (2, [.ref a.jr, .ref a.jh, .int (nI L.jt)])), (a.jr, .inl (a.cR, 96, .inl L.ro)), (a.jh, .inl (a.cH, 16, .inl L.hd)), (a.h0, .inr (3, [.ref a.w0, .ref a.w1, .ref a.w2, .ref a.w3, .ref a.w4, .ref a.w5, .int (nI L.wn), .int L.nx, .int (nI L.wc)])), (a.w0, .inl (a.cN, 10, .inl L.nu)), (a.w1, .inl (a.cL, 10, .inl L.le)), (a.w2, .inl (a.cX, 120, .inl L.te)), (a.w3, .inl (a.cU, 12, .inl L.un)), (a.w4, .inl (a.cV, 8, .inl L.va)), (a.w5, .inl (a.cT, 15, .inl L.ty)), (a.m0, .inr (4, [.ref a.sx, .ref a.sv, .int (nI L.en), .int (nI L.at1), .int L.go, .int L.kd, .int L.vr, .int L.fi, .int L.lf, .int L.sg, .int L.rt, .int L.tg])), (a.sx, .inl (a.cS, 12, .inl L.tx)), (a.sv, .inl (a.cW, 8, .inl L.tv)), (a.kp, .inl (a.cK, 60, .inl L.kf))]) [0, 1, 2, 3, 4, 5, 6, 7, 8, 9, 10, 11, 12, 13, 14, 15, 16] rfl) (hD.sub (ws' := [(a.o0, .inr (0, [.ref a.s0, .ref a.j0, .ref a.h0, .ref a.m0, .ref a.kp, .int L.oc])), (a.s0, .inr (1, [.ref a.c0, .int L.ar, .int L.de, .int L.wr])), (a.c0, .inl (a.cA, 512, .inl L.g)), (a.j0, .inr (2, [.ref a.jr, .ref a.jh, .int (nI L.jt)])), (a.jr, .inl (a.cR, 96, .inl L.ro)), (a.jh, .inl (a.cH, 16, .inl L.hd)), (a.h0, .inr (3, [.ref a.w0, .ref a.w1, .ref a.w2, .ref a.w3, .ref a.w4, .ref a.w5, .int (nI L.wn), .int L.nx, .int (nI L.wc)])), (a.w0, .inl (a.cN, 10, .inl L.nu)), (a.w1, .inl (a.cL, 10, .inl L.le)), (a.w2, .inl (a.cX, 120, .inl L.te)), (a.w3, .inl (a.cU, 12, .inl L.un)), (a.w4, .inl (a.cV, 8, .inl L.va)), (a.w5, .inl (a.cT, 15, .inl L.ty)), (a.m0, .inr (4, [.ref a.sx, .ref a.sv, .int (nI L.en), .int (nI L.at1), .int L.go, .int L.kd, .int L.vr, .int L.fi, .int L.lf, .int L.sg, .int L.rt, .int L.tg])), (a.sx, .inl (a.cS, 12, .inl L.tx)), (a.sv, .inl (a.cW, 8, .inl L.tv)), (a.kp, .inl (a.cK, 60, .inl L.kf))]) [0, 1, 2, 3, 4, 5, 6, 7, 8, 9, 10, 11, 12, 13, 14, 15, 16] (by decide) rfl) (hK.sub (tys' := [(a.cA, .int), (a.cR, .int), (a.cH, .int), (a.cN, .int), (a.cL, .int), (a.cX, .int), (a.cU, .int), (a.cV, .int), (a.cT, .int), (a.cS, .int), (a.cW, .int), (a.cK, .int)]) [0, 1, 2, 3, 4, 5, 6, 7, 8, 9, 10, 11] rfl) rfl rfl rfl rfl hl.1 rfl (Nat.le_of_ble_eq_true rfl) d_La_disk_4 ⟨by decide, by decide⟩) hP hD hK hS hA [0, 1, 2, 3, 4, 5, 6, 7, 8, 9, 10, 11, 12, 13, 14, 15, 16] [17] [12] rfl rfl (by decide) (by decide) rfl (fun ro uo H locs po hP hD hK hS => ?_)
  have hP : va_P (dC, dI) cls [(lo, .inl (cO, 1, .inr (.inl g))), (a.o0, .inr (0, [.ref a.s0, .ref a.j0, .ref a.h0, .ref a.m0, .ref a.kp, .int uo.oc])), (a.s0, .inr (1, [.ref a.c0, .int uo.ar, .int uo.de, .int uo.wr])), (a.c0, .inl (a.cA, 512, .inl uo.g)), (a.j0, .inr (2, [.ref a.jr, .ref a.jh, .int (nI uo.jt)])), (a.jr, .inl (a.cR, 96, .inl uo.ro)), (a.jh, .inl (a.cH, 16, .inl uo.hd)), (a.h0, .inr (3, [.ref a.w0, .ref a.w1, .ref a.w2, .ref a.w3, .ref a.w4, .ref a.w5, .int (nI uo.wn), .int uo.nx, .int (nI uo.wc)])), (a.w0, .inl (a.cN, 10, .inl uo.nu)), (a.w1, .inl (a.cL, 10, .inl uo.le)), (a.w2, .inl (a.cX, 120, .inl uo.te)), (a.w3, .inl (a.cU, 12, .inl uo.un)), (a.w4, .inl (a.cV, 8, .inl uo.va)), (a.w5, .inl (a.cT, 15, .inl uo.ty)), (a.m0, .inr (4, [.ref a.sx, .ref a.sv, .int (nI uo.en), .int (nI uo.at1), .int uo.go, .int uo.kd, .int uo.vr, .int uo.fi, .int uo.lf, .int uo.sg, .int uo.rt, .int uo.tg])), (a.sx, .inl (a.cS, 12, .inl uo.tx)), (a.sv, .inl (a.cW, 8, .inl uo.tv)), (a.kp, .inl (a.cK, 60, .inl uo.kf))] H := hP
  have hD : va_D A [(lo, .inl (cO, 1, .inr (.inl g))), (a.o0, .inr (0, [.ref a.s0, .ref a.j0, .ref a.h0, .ref a.m0, .ref a.kp, .int uo.oc])), (a.s0, .inr (1, [.ref a.c0, .int uo.ar, .int uo.de, .int uo.wr])), (a.c0, .inl (a.cA, 512, .inl uo.g)), (a.j0, .inr (2, [.ref a.jr, .ref a.jh, .int (nI uo.jt)])), (a.jr, .inl (a.cR, 96, .inl uo.ro)), (a.jh, .inl (a.cH, 16, .inl uo.hd)), (a.h0, .inr (3, [.ref a.w0, .ref a.w1, .ref a.w2, .ref a.w3, .ref a.w4, .ref a.w5, .int (nI uo.wn), .int uo.nx, .int (nI uo.wc)])), (a.w0, .inl (a.cN, 10, .inl uo.nu)), (a.w1, .inl (a.cL, 10, .inl uo.le)), (a.w2, .inl (a.cX, 120, .inl uo.te)), (a.w3, .inl (a.cU, 12, .inl uo.un)), (a.w4, .inl (a.cV, 8, .inl uo.va)), (a.w5, .inl (a.cT, 15, .inl uo.ty)), (a.m0, .inr (4, [.ref a.sx, .ref a.sv, .int (nI uo.en), .int (nI uo.at1), .int uo.go, .int uo.kd, .int uo.vr, .int uo.fi, .int uo.lf, .int uo.sg, .int uo.rt, .int uo.tg])), (a.sx, .inl (a.cS, 12, .inl uo.tx)), (a.sv, .inl (a.cW, 8, .inl uo.tv)), (a.kp, .inl (a.cK, 60, .inl uo.kf))] := hD
  have hK : va_K (dC, dI) cls [(cO, .long), (a.cA, .int), (a.cR, .int), (a.cH, .int), (a.cN, .int), (a.cL, .int), (a.cX, .int), (a.cU, .int), (a.cV, .int), (a.cT, .int), (a.cS, .int), (a.cW, .int), (a.cK, .int)] s := hK
  refine W.widen (k := 0) (n := 0) (by omega) (by omega) ?_
  obtain ⟨e1, e2⟩ := po
  subst e1
  rw [e2] at hP hD
  have hP : va_P (dC, dI) cls [(lo, .inl (cO, 1, .inr (.inl g))), (a.o0, .inr (0, [.ref a.s0, .ref a.j0, .ref a.h0, .ref a.m0, .ref a.kp, .int L.oc])), (a.s0, .inr (1, [.ref a.c0, .int L.ar, .int L.de, .int L.wr])), (a.c0, .inl (a.cA, 512, .inl L.g)), (a.j0, .inr (2, [.ref a.jr, .ref a.jh, .int (nI L.jt)])), (a.jr, .inl (a.cR, 96, .inl L.ro)), (a.jh, .inl (a.cH, 16, .inl L.hd)), (a.h0, .inr (3, [.ref a.w0, .ref a.w1, .ref a.w2, .ref a.w3, .ref a.w4, .ref a.w5, .int (nI L.wn), .int L.nx, .int (nI L.wc)])), (a.w0, .inl (a.cN, 10, .inl L.nu)), (a.w1, .inl (a.cL, 10, .inl L.le)), (a.w2, .inl (a.cX, 120, .inl L.te)), (a.w3, .inl (a.cU, 12, .inl L.un)), (a.w4, .inl (a.cV, 8, .inl L.va)), (a.w5, .inl (a.cT, 15, .inl L.ty)), (a.m0, .inr (4, [.ref a.sx, .ref a.sv, .int (nI L.en), .int (nI L.at1), .int L.go, .int L.kd, .int L.vr, .int L.fi, .int L.lf, .int L.sg, .int L.rt, .int L.tg])), (a.sx, .inl (a.cS, 12, .inl L.tx)), (a.sv, .inl (a.cW, 8, .inl L.tv)), (a.kp, .inl (a.cK, 60, .inl L.kf))] H := hP
  have hD : va_D A [(lo, .inl (cO, 1, .inr (.inl g))), (a.o0, .inr (0, [.ref a.s0, .ref a.j0, .ref a.h0, .ref a.m0, .ref a.kp, .int L.oc])), (a.s0, .inr (1, [.ref a.c0, .int L.ar, .int L.de, .int L.wr])), (a.c0, .inl (a.cA, 512, .inl L.g)), (a.j0, .inr (2, [.ref a.jr, .ref a.jh, .int (nI L.jt)])), (a.jr, .inl (a.cR, 96, .inl L.ro)), (a.jh, .inl (a.cH, 16, .inl L.hd)), (a.h0, .inr (3, [.ref a.w0, .ref a.w1, .ref a.w2, .ref a.w3, .ref a.w4, .ref a.w5, .int (nI L.wn), .int L.nx, .int (nI L.wc)])), (a.w0, .inl (a.cN, 10, .inl L.nu)), (a.w1, .inl (a.cL, 10, .inl L.le)), (a.w2, .inl (a.cX, 120, .inl L.te)), (a.w3, .inl (a.cU, 12, .inl L.un)), (a.w4, .inl (a.cV, 8, .inl L.va)), (a.w5, .inl (a.cT, 15, .inl L.ty)), (a.m0, .inr (4, [.ref a.sx, .ref a.sv, .int (nI L.en), .int (nI L.at1), .int L.go, .int L.kd, .int L.vr, .int L.fi, .int L.lf, .int L.sg, .int L.rt, .int L.tg])), (a.sx, .inl (a.cS, 12, .inl L.tx)), (a.sv, .inl (a.cW, 8, .inl L.tv)), (a.kp, .inl (a.cK, 60, .inl L.kf))] := hD
  refine lv_i2l hx hb d_La_disk_7 rfl ?_
  refine va_last hx hb hK hP hD hS 0 0 rfl rfl (vp_in_iff.mpr (by decide)) d_La_disk_8 (fun H locs hP hD hS => ?_)
  have hP : va_P (dC, dI) cls [(lo, .inl (cO, 1, .inr (.inl (vp_updL g (0 : Int32).toNatClampNeg ((cellv L.g x : Int32).toInt64))))), (a.o0, .inr (0, [.ref a.s0, .ref a.j0, .ref a.h0, .ref a.m0, .ref a.kp, .int L.oc])), (a.s0, .inr (1, [.ref a.c0, .int L.ar, .int L.de, .int L.wr])), (a.c0, .inl (a.cA, 512, .inl L.g)), (a.j0, .inr (2, [.ref a.jr, .ref a.jh, .int (nI L.jt)])), (a.jr, .inl (a.cR, 96, .inl L.ro)), (a.jh, .inl (a.cH, 16, .inl L.hd)), (a.h0, .inr (3, [.ref a.w0, .ref a.w1, .ref a.w2, .ref a.w3, .ref a.w4, .ref a.w5, .int (nI L.wn), .int L.nx, .int (nI L.wc)])), (a.w0, .inl (a.cN, 10, .inl L.nu)), (a.w1, .inl (a.cL, 10, .inl L.le)), (a.w2, .inl (a.cX, 120, .inl L.te)), (a.w3, .inl (a.cU, 12, .inl L.un)), (a.w4, .inl (a.cV, 8, .inl L.va)), (a.w5, .inl (a.cT, 15, .inl L.ty)), (a.m0, .inr (4, [.ref a.sx, .ref a.sv, .int (nI L.en), .int (nI L.at1), .int L.go, .int L.kd, .int L.vr, .int L.fi, .int L.lf, .int L.sg, .int L.rt, .int L.tg])), (a.sx, .inl (a.cS, 12, .inl L.tx)), (a.sv, .inl (a.cW, 8, .inl L.tv)), (a.kp, .inl (a.cK, 60, .inl L.kf))] H := hP
  have hD : va_D A [(lo, .inl (cO, 1, .inr (.inl (vp_updL g (0 : Int32).toNatClampNeg ((cellv L.g x : Int32).toInt64))))), (a.o0, .inr (0, [.ref a.s0, .ref a.j0, .ref a.h0, .ref a.m0, .ref a.kp, .int L.oc])), (a.s0, .inr (1, [.ref a.c0, .int L.ar, .int L.de, .int L.wr])), (a.c0, .inl (a.cA, 512, .inl L.g)), (a.j0, .inr (2, [.ref a.jr, .ref a.jh, .int (nI L.jt)])), (a.jr, .inl (a.cR, 96, .inl L.ro)), (a.jh, .inl (a.cH, 16, .inl L.hd)), (a.h0, .inr (3, [.ref a.w0, .ref a.w1, .ref a.w2, .ref a.w3, .ref a.w4, .ref a.w5, .int (nI L.wn), .int L.nx, .int (nI L.wc)])), (a.w0, .inl (a.cN, 10, .inl L.nu)), (a.w1, .inl (a.cL, 10, .inl L.le)), (a.w2, .inl (a.cX, 120, .inl L.te)), (a.w3, .inl (a.cU, 12, .inl L.un)), (a.w4, .inl (a.cV, 8, .inl L.va)), (a.w5, .inl (a.cT, 15, .inl L.ty)), (a.m0, .inr (4, [.ref a.sx, .ref a.sv, .int (nI L.en), .int (nI L.at1), .int L.go, .int L.kd, .int L.vr, .int L.fi, .int L.lf, .int L.sg, .int L.rt, .int L.tg])), (a.sx, .inl (a.cS, 12, .inl L.tx)), (a.sv, .inl (a.cW, 8, .inl L.tv)), (a.kp, .inl (a.cK, 60, .inl L.kf))] := hD
  refine lv_goto (tgt := 15) hx hb d_La_disk_9 (by decide) ?_
  refine lv_iconst (v := 0) hx hb d_La_disk_15 (by decide) ?_
  refine W.widen (k := 0) (n := 0) (by decide) (by decide) ?_
  exact W.iret (v := 0) hx hb hr (fun t ht hW => ⟨⟨0, (), rfl, rfl, cB.of (hP.sub [1, 2, 3, 4, 5, 6, 7, 8, 9, 10, 11, 12, 13, 14, 15, 16, 17, 0] rfl) (hD.sub [1, 2, 3, 4, 5, 6, 7, 8, 9, 10, 11, 12, 13, 14, 15, 16, 17, 0] (by decide) rfl) (hK.sub [1, 2, 3, 4, 5, 6, 7, 8, 9, 10, 11, 12, 0] rfl) ht hW⟩, hS.F ht⟩) hS.2.2 d_La_disk_16
theorem xY_out {t2 : Nat} {e2 : Nat → Int32} {A : Nat → Prop} {s : State} {H : Heap} {locs : List Loc} {ws wc : va_W} (hz : va_Z "LineDisk" "FORMATTED_HEAD" "[I" (.ref t2) A s s.heap) (hx : va_X t2 16 e2 s s.heap) (hl : t2 < s.heap.size) (hn : ¬ A t2) (hS : va_S A s.heap H locs) (hD : va_D A ws) (hA : ∀ q : Nat, s.heap.size ≤ q → A q) (isC : List Nat) (hC : isC.map (fun i => ws[i]?) = wc.map some) : ∀ U : State, U.heap = H → s.WarmedH U.vm → xY t2 e2 wc U := by
  intro U hU hW
  have hf := va_free hD hS hA isC hC
  refine ⟨?_, ?_, ?_, ?_⟩
  · rw [hU]; exact (va_Z.moved hW.alike (hz.kept (fun a h h2 => hS.2.1 a h h2))).narrow hf
  · rw [hU]; exact va_X.moved hW.alike (hx.kept (hS.2.1 t2 hl hn))
  · rw [hU]; exact Nat.lt_of_lt_of_le hl hS.1
  · rw [hU]; exact fun h => hn (hf t2 h)
theorem lawGt {L k : Nat} (hL : L ≤ 1024) (hk : k ≤ 512) (h : L < 2 * k + 2) : Int32.ofNat L - 2 < nI (2 * k) := by
  have e : (nI L - nI 2).toInt = (L : Int) - (2 : Nat) := pk_sub_toInt (by omega) (by decide)
  rw [Int32.lt_iff_toInt_lt]
  have e2 : (nI (2 * k)).toInt = ((2 * k : Nat) : Int) := nI_toInt (by omega)
  rw [e2]
  show (nI L - nI 2).toInt < _
  rw [e]
  omega
theorem lawLe {L k : Nat} (hL : L ≤ 1024) (hk : k ≤ 512) (h : 2 * k + 2 ≤ L) : ¬ Int32.ofNat L - 2 < nI (2 * k) := by
  have e : (nI L - nI 2).toInt = (L : Int) - (2 : Nat) := pk_sub_toInt (by omega) (by decide)
  rw [Int32.lt_iff_toInt_lt]
  have e2 : (nI (2 * k)).toInt = ((2 * k : Nat) : Int) := nI_toInt (by omega)
  rw [e2]
  show ¬ (nI L - nI 2).toInt < _
  rw [e]
  omega
theorem LOk_am {L : LSt} (x : Int32) (h : LOk L) : LOk (amF L x) := amF_ok x h
theorem RI_am {q : Nat} {Y : RSt} (h : RI q Y) (x : Int32) : RI q (amR Y x).2 := by
  unfold amR
  split
  · exact RI_th h 1
  · split
    · exact RI_th h 1
    · exact RI_ar (RI_th h 0) x
theorem RI_ot {q : Nat} {Y : RSt} (h : RI q Y) (x : Int32) : RI q (otR Y x).2 := by
  unfold otR
  split
  · exact RI_th h 1
  · split
    · exact RI_th h 1
    · split
      · exact ri_mk (RI_th h 0)
      · exact RI_th h 1
theorem RI_dk {q : Nat} {Y : RSt} (h : RI q Y) (x : Int32) : RI q (dkR Y x).2 := by
  unfold dkR
  split
  · exact RI_th h 1
  · split
    · exact RI_th h 1
    · exact ri_mk (RI_th h 0)
