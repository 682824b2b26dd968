/-! methods with a table of one row: their contracts, calls of them -/
theorem tab1 {c : Code} {a b d e : Nat} (h : c.exceptionTable.toList.map (fun h => (h.startPc, h.endPc, h.handlerPc, h.catchType)) = [(a, b, d, e)]) : ∃ x, c.exceptionTable.toList = [x] ∧ x.startPc = a ∧ x.endPc = b ∧ x.handlerPc = d ∧ x.catchType = e := by
  match hl : c.exceptionTable.toList, h with
  | [x], h =>
    simp only [List.map_cons, List.map_nil, List.cons.injEq, Prod.mk.injEq, and_true] at h
    exact ⟨x, rfl, h⟩
  | [], h => simp at h
  | x :: y :: r, h => simp at h
theorem tw_ofW {l : Launch} {y : MethodName} {ws ws' : List Cond} {rm : Room} {Pc : Array Value → State → Prop} {Qc : Array Value → State → Outcome → State → Prop} {mc ms : Nat} {free : Addr → Prop} {cc : ByteArray} {maxL : Nat} {ret : Option FieldType} {hh : List (Nat × Nat × Nat × Nat)}
    (hy : plainName y.cls = true) (hw : ws = Cond.codeWith y cc maxL ret hh :: ws')
    (body : ∀ p e s m args below meth c s₁, BodyLoose p l y (headSpec ws rm) cc maxL ret e s m args below meth c s₁ → c.maxLocals = maxL → c.exceptionTable.toList.map (fun h => (h.startPc, h.endPc, h.handlerPc, h.catchType)) = hh → Pc args s →
      W p l e (headSpec ws rm).room s m args below meth c s.heap [] 0 0 (MQ below Qc args s mc ms free) (entryFrame m args maxL)) : Met l y ws rm Pc Qc mc ms free := by
  refine va_MetW (hh := hh) hy hw ?_
  intro p e s m args below meth c s₁ B hml hP
  obtain ⟨m9, meth2, c2, hn9, h1, h2, -, -, h3, -⟩ := Cond.codeWith_spec (atoms_spec (ws := ws) B.pre _ (by rw [hw]; exact List.mem_cons_self))
  cases B.named.symm.trans hn9
  cases B.method.symm.trans h1
  have X0 := Stand.of_body B
  cases X0.code.symm.trans h2
  exact body p e s m args below meth c s₁ B hml h3 hP
section TW
variable {p : Program} {l : Launch} {e : Env} {R : Room} {s : State} {m : MethodId} {args : Array Value} {below : List Frame} {meth : Method} {c : Code} {H : Heap} {locs : List Loc} {cells slots : Nat} {Q : State → Prop}
variable {pc : Nat} {ls : Array Slot} {rest st0 : List Value} {mc ms : Nat} {D : va_G} {wc : va_W}
variable {y : MethodName} {bytes cc : ByteArray} {maxL nL n index : Nat} {ret : Option FieldType} {rm : Room} {Qc : Array Value → State → Outcome → State → Prop} {free : Addr → Prop} {own : String} {As : List Value} {tc : List (ClassId × FieldType)} {Ac : Nat → Prop} {X : State → Prop} {hh : List (Nat × Nat × Nat × Nat)}
theorem rSW (F : CallFix p m c cc nL s args gw own) (hkw : kw s) (hM : Met l y (Cond.codeWith y bytes maxL ret hh :: gw) rm (cP D As H.size wc tc X) Qc mc ms free) (hX : xBl X) (hX2 : ∀ U : State, U.heap = H → s.WarmedH U.vm → X U)
    (h1 : Cond.methodLink own index y ∈ gw) (h2 : Cond.static y ∈ gw) (h4 : Cond.initialized y.cls ∈ gw) (h5 : Cond.codeWith y bytes maxL ret hh ∈ gw) (hrc : rm.cells = mc) (hrs : rm.slots = ms)
    (hd : y.cls ≠ "java/lang/invoke/MethodHandle" ∧ y.cls ≠ "java/lang/invoke/VarHandle" ∧ (parseMethodDescriptor y.desc).map (fun d => d.parameters.length) = some n) (hR : rm.frames + 1 ≤ R.frames ∧ 8 + (maxL + 11) + rm.locals ≤ R.locals)
    (hP : va_P D cls wc H) (hD : va_D Ac wc) (hK : va_K D cls tc s)
    (hn : As.length = n) (hsize : ls.size = nL) (hstack : st0 = As.reverse ++ rest) (hW : (rest.map fun v => v.category).sum ≤ 8) (hdg : decode cc pc = .ok (.invokestatic index, 3)) (hf : cells + mc ≤ R.cells ∧ slots + ms ≤ R.slots) :
    va_Run p l e R s m args below meth c H locs cells slots mc ms (F0 m pc ls st0) rest (Qc As.toArray) free := by
  obtain ⟨hx, hb, hml, ho, hts⟩ := F
  have hini := hts _ h4
  have hK9 : Back l R p e below s args y 3 8 (PreOf R mc ms (cP D As H.size wc tc X)) (PostOf Qc mc ms free) := va_backW (hh := hh) (bytes := bytes) (maxL := maxL) (ret := ret) hM (cP.blind hX) hrc hrs hR.1 hR.2 (pay_in hts (gi h5)) List.mem_cons_self (fun a' U hW => word_at hW (Or.inl (by first | rfl | simp [Cond.onTables, Cond.keeps, Cond.steady])) hini)
  have hPc := cP.pre (av := As) hP hD hK hkw hX2
  intro T hT Y
  obtain ⟨mk, methM, cM, hnamed, hmethM, -, -, -, -, -, -, hsigM⟩ := Cond.codeWith_spec (hts _ h5)
  have hstatic : methM.isStatic = true := Cond.static_spec hnamed hmethM (hts _ h2)
  obtain ⟨kP, hkP, -⟩ := className_of_methodNamed hnamed
  have hinitP : kP.init = .initialized := Cond.initialized_spec (findClass_of_methodNamed hnamed) hkP hini
  have hlen : As.length = methM.sig.parameters.length := by
    have h9 := hd.2.2
    rw [hsigM] at h9
    rw [hn]
    exact (Option.some.inj h9).symm
  subst hb
  obtain ⟨vm₁, Y₁, hstep₁⟩ := Y.invokestatic hx ho (hts _ h1) hnamed hmethM hstatic hkP hinitP ⟨hd.1, hd.2.1⟩ (g := F0 m pc ls st0) rfl (argsL := As) (rest := rest) hlen hstack hdg
  obtain ⟨v, ⟨U', l2, c2, s2⟩, X', ⟨g', mk', t, L, e1, e2, hq, g1, hL, g2, g3⟩, hsteps⟩ := hK9 m meth c ⟨T.setVm vm₁, locs, cells, slots⟩ (F0 m pc ls rest) (.invokestatic index) mk As.toArray Y₁ rfl (hsize.trans hml.symm) hdg (lv_room hW) (Y₁.named hnamed) ⟨hf.1, hf.2, hPc (T.setVm vm₁) hT Y₁.warmed⟩
  dsimp only [Pt.U, Pt.locs, Pt.cells, Pt.slots] at X' e1 e2 g1 g2 g3 hsteps
  subst g1; subst g2; subst g3
  exact ⟨v, (T.setVm vm₁).calling g' mk' As.toArray, t, U', L, hT, X', hL, e1, e2, hq, fun target h => hstep₁ _ fun acts => by rw [doInvoke_state]; exact hsteps.trans h⟩
end TW
theorem nilP {D : va_G} {H : Heap} : va_P D cls [] H := fun k q h => by cases h
theorem nilD {A : Nat → Prop} : va_D A [] := ⟨fun i j p q h => (by cases h), fun k q h => (by cases h)⟩
set_option maxHeartbeats 4000000 in
set_option maxRecDepth 100000 in
theorem h_arm1 (l : Launch) (dC : Nat → ClassId) (dI : Nat → Nat → Nat) (hfl : l.flags = pinnedFlags ++ [noTraceFlag]) (h0 o0 o1 o2 o3 o4 : Nat) (lo : Nat) (x : Int32) (h1 : x < 0) (q : Nat) (sz : Nat) : Met l y_La_arm (Cond.codeWith y_La_arm b_La_arm 4 (some .int) [(0, 16, 19, 13)] :: gw) ({ frames := 7, cells := 1, slots := 6, locals := 121 }) (cP (dC, dI) [.ref h0, .int x, .ref lo] sz [(h0, .inr (0, [.ref o0, .ref o1, .ref o2, .ref o3, .ref o4, .int 0]))] [] (xE 112 "armed with 0 to 1000 writes" q)) (va_Qi (fun (r : Int32) (u : Unit) => r = 1) (fun (u : Unit) t => cB (dC, dI) (va_A [(h0, .inr (0, [.ref o0, .ref o1, .ref o2, .ref o3, .ref o4, .int 0]))] sz) [] [] t) (va_A [(h0, .inr (0, [.ref o0, .ref o1, .ref o2, .ref o3, .ref o4, .int 0]))] sz)) 1 6 (va_A [(h0, .inr (0, [.ref o0, .ref o1, .ref o2, .ref o3, .ref o4, .int 0]))] sz) := by
  refine tw_ofW (hh := [(0, 16, 19, 13)]) (cc := b_La_arm) (maxL := 4) (ret := (some .int)) (by decide) rfl ?_
  intro p e s m args below meth c s₁ B hml htab0 hv
  obtain ⟨rfl, hsz, hP, hK, hD0, hkw, hX⟩ := hv
  have hx := B.exec
  have hb := B.bytes
  have hr := B.returns
  have hts := fun w hw => atoms_spec (ws := Cond.codeWith y_La_arm b_La_arm 4 (some .int) [(0, 16, 19, 13)] :: gw) B.pre w (List.mem_cons_of_mem _ hw)
  have hown : s.vm.findClass "LineDiskLaw" = some m.cls := findClass_of_methodNamed B.named
  have hlocks := B.notSynchronized
  have hin := (name_of_methodNamed B.named B.method).1
  subst hsz
  have hD := hD0.self (sz := s.heap.size)
  generalize hAe : va_A [(h0, .inr (0, [.ref o0, .ref o1, .ref o2, .ref o3, .ref o4, .int 0]))] s.heap.size = A at hD ⊢
  have hA : ∀ q : Nat, s.heap.size ≤ q → A q := fun q h => by rw [← hAe]; exact Or.inr h
  have hS : va_S A s.heap s.heap [] := va_S.rf
  have hl := lv_entry ([.ref h0, .int x, .ref lo]) (n := 4) (Nat.le_of_ble_eq_true rfl)
  rw [lg_entry_eq]
  generalize (lg_sl ([.ref h0, .int x, .ref lo]) ++ List.replicate (4 - (lg_sl ([.ref h0, .int x, .ref lo])).length) Slot.unset).toArray = ls at hl ⊢
  have hl : lv_has ls 4 [(0, .ref h0), (1, .int x), (2, .ref lo)] := hl
  have F : CallFix p m c b_La_arm 4 s ([.ref h0, .int x, .ref lo]).toArray gw "LineDiskLaw" := ⟨hx, hb, hml, hown, hts⟩
  refine lv_aload_n hx hb d_La_arm_0 rfl (lv_at hl 2 rfl) ?_
  refine lv_iconst (v := 0) hx hb d_La_arm_1 (by decide) ?_
  refine lv_aload_n hx hb d_La_arm_2 rfl (lv_at hl 0 rfl) ?_
  refine lv_iload_n hx hb d_La_arm_3 rfl (lv_at hl 1 rfl) ?_
  obtain ⟨xx, ht, hx1, hx2, hx3, hx4⟩ := tab1 htab0
  refine th_call (As := [.int x]) (rest := [.int 0, .ref lo]) (b := h0) (C := "LineDisk") (own := "LineDiskLaw") (name := "java/lang/IllegalArgumentException") (bytes := b_Ld_arm) (maxL := 2) (ret := (some .boolean)) hx hb hml hown (t_Ld_arm1 l hfl dC dI h0 o0 o1 o2 o3 o4 x h1 q s.heap.size) (cP.blind xE_bl) (by decide) (by decide) (pay_in hts (gi w_483)) (hts _ w_483) (hts _ w_480) (hts _ w_481) (hts _ w_482) (hts _ w_1) (by decide +kernel) (fun sig h => ?_) (va_recv (q0 := 0) hK hP (ci := 0) rfl rfl) (cP.pre (A := A) hP hD hK hkw (xE_of hX (fun _ _ => rfl))) hl.1 (Nat.le_of_ble_eq_true rfl) d_La_arm_4 (by decide) (by decide) ht (by simp [covers, hx1, hx2]) (by rw [hx4]; decide) (by rw [hx4]; exact hts _ w_479) (hkw.use v_486 rfl) rfl (fun ea H hz9 hk9 => ?_)
  · cases (show some sig = parseMethodDescriptor y_Ld_arm.desc from h.symm).trans (by decide +kernel : parseMethodDescriptor y_Ld_arm.desc = some ⟨[.int], (some .boolean)⟩)
    rfl
  rw [hx3]
  have hS : va_S A s.heap H [] := ⟨hz9, fun q h _ => hk9 q h, fun _ h => by cases h⟩
  refine W.widen (k := 1) (n := 6) (by decide) (by decide) ?_
  refine lv_astore_n (i := 3) hx hb d_La_arm_19 rfl hl (by decide) rfl (fun ls hl => ?_)
  have hl : lv_has ls 4 [(3, .ref ea), (0, .ref h0), (1, .int x), (2, .ref lo)] := hl
  refine lv_iconst (v := 1) hx hb d_La_arm_20 (by decide) ?_
  exact W.iret (v := 1) hx hb hr (fun t ht hW => ⟨⟨1, (), rfl, rfl, cB.of nilP nilD (hK.sub [] rfl) ht hW⟩, hS.F ht⟩) hS.2.2 d_La_arm_21
set_option maxHeartbeats 4000000 in
set_option maxRecDepth 100000 in
theorem h_arm2 (l : Launch) (dC : Nat → ClassId) (dI : Nat → Nat → Nat) (hfl : l.flags = pinnedFlags ++ [noTraceFlag]) (h0 o0 o1 o2 o3 o4 : Nat) (lo : Nat) (x : Int32) (h1 : ¬ x < 0) (h2 : ¬ x ≤ 1000) (q : Nat) (sz : Nat) : Met l y_La_arm (Cond.codeWith y_La_arm b_La_arm 4 (some .int) [(0, 16, 19, 13)] :: gw) ({ frames := 7, cells := 1, slots := 6, locals := 121 }) (cP (dC, dI) [.ref h0, .int x, .ref lo] sz [(h0, .inr (0, [.ref o0, .ref o1, .ref o2, .ref o3, .ref o4, .int 0]))] [] (xE 112 "armed with 0 to 1000 writes" q)) (va_Qi (fun (r : Int32) (u : Unit) => r = 1) (fun (u : Unit) t => cB (dC, dI) (va_A [(h0, .inr (0, [.ref o0, .ref o1, .ref o2, .ref o3, .ref o4, .int 0]))] sz) [] [] t) (va_A [(h0, .inr (0, [.ref o0, .ref o1, .ref o2, .ref o3, .ref o4, .int 0]))] sz)) 1 6 (va_A [(h0, .inr (0, [.ref o0, .ref o1, .ref o2, .ref o3, .ref o4, .int 0]))] sz) := by
  refine tw_ofW (hh := [(0, 16, 19, 13)]) (cc := b_La_arm) (maxL := 4) (ret := (some .int)) (by decide) rfl ?_
  intro p e s m args below meth c s₁ B hml htab0 hv
  obtain ⟨rfl, hsz, hP, hK, hD0, hkw, hX⟩ := hv
  have hx := B.exec
  have hb := B.bytes
  have hr := B.returns
  have hts := fun w hw => atoms_spec (ws := Cond.codeWith y_La_arm b_La_arm 4 (some .int) [(0, 16, 19, 13)] :: gw) B.pre w (List.mem_cons_of_mem _ hw)
  have hown : s.vm.findClass "LineDiskLaw" = some m.cls := findClass_of_methodNamed B.named
  have hlocks := B.notSynchronized
  have hin := (name_of_methodNamed B.named B.method).1
  subst hsz
  have hD := hD0.self (sz := s.heap.size)
  generalize hAe : va_A [(h0, .inr (0, [.ref o0, .ref o1, .ref o2, .ref o3, .ref o4, .int 0]))] s.heap.size = A at hD ⊢
  have hA : ∀ q : Nat, s.heap.size ≤ q → A q := fun q h => by rw [← hAe]; exact Or.inr h
  have hS : va_S A s.heap s.heap [] := va_S.rf
  have hl := lv_entry ([.ref h0, .int x, .ref lo]) (n := 4) (Nat.le_of_ble_eq_true rfl)
  rw [lg_entry_eq]
  generalize (lg_sl ([.ref h0, .int x, .ref lo]) ++ List.replicate (4 - (lg_sl ([.ref h0, .int x, .ref lo])).length) Slot.unset).toArray = ls at hl ⊢
  have hl : lv_has ls 4 [(0, .ref h0), (1, .int x), (2, .ref lo)] := hl
  have F : CallFix p m c b_La_arm 4 s ([.ref h0, .int x, .ref lo]).toArray gw "LineDiskLaw" := ⟨hx, hb, hml, hown, hts⟩
  refine lv_aload_n hx hb d_La_arm_0 rfl (lv_at hl 2 rfl) ?_
  refine lv_iconst (v := 0) hx hb d_La_arm_1 (by decide) ?_
  refine lv_aload_n hx hb d_La_arm_2 rfl (lv_at hl 0 rfl) ?_
  refine lv_iload_n hx hb d_La_arm_3 rfl (lv_at hl 1 rfl) ?_
  obtain ⟨xx, ht, hx1, hx2, hx3, hx4⟩ := tab1 htab0
  refine th_call (As := [.int x]) (rest := [.int 0, .ref lo]) (b := h0) (C := "LineDisk") (own := "LineDiskLaw") (name := "java/lang/IllegalArgumentException") (bytes := b_Ld_arm) (maxL := 2) (ret := (some .boolean)) hx hb hml hown (t_Ld_arm2 l hfl dC dI h0 o0 o1 o2 o3 o4 x h1 h2 q s.heap.size) (cP.blind xE_bl) (by decide) (by decide) (pay_in hts (gi w_483)) (hts _ w_483) (hts _ w_480) (hts _ w_481) (hts _ w_482) (hts _ w_1) (by decide +kernel) (fun sig h => ?_) (va_recv (q0 := 0) hK hP (ci := 0) rfl rfl) (cP.pre (A := A) hP hD hK hkw (xE_of hX (fun _ _ => rfl))) hl.1 (Nat.le_of_ble_eq_true rfl) d_La_arm_4 (by decide) (by decide) ht (by simp [covers, hx1, hx2]) (by rw [hx4]; decide) (by rw [hx4]; exact hts _ w_479) (hkw.use v_486 rfl) rfl (fun ea H hz9 hk9 => ?_)
  · cases (show some sig = parseMethodDescriptor y_Ld_arm.desc from h.symm).trans (by decide +kernel : parseMethodDescriptor y_Ld_arm.desc = some ⟨[.int], (some .boolean)⟩)
    rfl
  rw [hx3]
  have hS : va_S A s.heap H [] := ⟨hz9, fun q h _ => hk9 q h, fun _ h => by cases h⟩
  refine W.widen (k := 1) (n := 6) (by decide) (by decide) ?_
  refine lv_astore_n (i := 3) hx hb d_La_arm_19 rfl hl (by decide) rfl (fun ls hl => ?_)
  have hl : lv_has ls 4 [(3, .ref ea), (0, .ref h0), (1, .int x), (2, .ref lo)] := hl
  refine lv_iconst (v := 1) hx hb d_La_arm_20 (by decide) ?_
  exact W.iret (v := 1) hx hb hr (fun t ht hW => ⟨⟨1, (), rfl, rfl, cB.of nilP nilD (hK.sub [] rfl) ht hW⟩, hS.F ht⟩) hS.2.2 d_La_arm_21
set_option maxHeartbeats 4000000 in
set_option maxRecDepth 100000 in
theorem h_arm3 (l : Launch) (dC : Nat → ClassId) (dI : Nat → Nat → Nat) (h0 o0 o1 o2 o3 o4 : Nat) (c0 lo : Nat) (cO : ClassId) (g : Nat → Int64) (x : Int32) (h1 : ¬ x < 0) (h2 : x ≤ 1000) (sz : Nat) : Met l y_La_arm (Cond.codeWith y_La_arm b_La_arm 4 (some .int) [(0, 16, 19, 13)] :: gw) ({ frames := 2, cells := 0, slots := 0, locals := 53 }) (cP (dC, dI) [.ref h0, .int x, .ref lo] sz [(h0, .inr (0, [.ref o0, .ref o1, .ref o2, .ref o3, .ref o4, .int 0])), (o0, .inr (1, [.ref c0, .int (-1), .int 0, .int 0])), (lo, .inl (cO, 1, .inr (.inl g)))] [(cO, .long)] xT) (va_Qi (fun (r : Int32) (u : Unit) => r = 0) (fun (u : Unit) t => cB (dC, dI) (va_A [(h0, .inr (0, [.ref o0, .ref o1, .ref o2, .ref o3, .ref o4, .int 0])), (o0, .inr (1, [.ref c0, .int (-1), .int 0, .int 0])), (lo, .inl (cO, 1, .inr (.inl g)))] sz) [(lo, .inl (cO, 1, .inr (.inl (vp_updL g (0 : Int32).toNatClampNeg 1))))] [(cO, .long)] t) (va_A [(h0, .inr (0, [.ref o0, .ref o1, .ref o2, .ref o3, .ref o4, .int 0])), (o0, .inr (1, [.ref c0, .int (-1), .int 0, .int 0])), (lo, .inl (cO, 1, .inr (.inl g)))] sz)) 0 0 (va_A [(h0, .inr (0, [.ref o0, .ref o1, .ref o2, .ref o3, .ref o4, .int 0])), (o0, .inr (1, [.ref c0, .int (-1), .int 0, .int 0])), (lo, .inl (cO, 1, .inr (.inl g)))] sz) := by
  refine tw_ofW (hh := [(0, 16, 19, 13)]) (cc := b_La_arm) (maxL := 4) (ret := (some .int)) (by decide) rfl ?_
  intro p e s m args below meth c s₁ B hml htab0 hv
  obtain ⟨rfl, hsz, hP, hK, hD0, hkw, hX⟩ := hv
  have hx := B.exec
  have hb := B.bytes
  have hr := B.returns
  have hts := fun w hw => atoms_spec (ws := Cond.codeWith y_La_arm b_La_arm 4 (some .int) [(0, 16, 19, 13)] :: gw) B.pre w (List.mem_cons_of_mem _ hw)
  have hown : s.vm.findClass "LineDiskLaw" = some m.cls := findClass_of_methodNamed B.named
  have hlocks := B.notSynchronized
  have hin := (name_of_methodNamed B.named B.method).1
  subst hsz
  have hD := hD0.self (sz := s.heap.size)
  generalize hAe : va_A [(h0, .inr (0, [.ref o0, .ref o1, .ref o2, .ref o3, .ref o4, .int 0])), (o0, .inr (1, [.ref c0, .int (-1), .int 0, .int 0])), (lo, .inl (cO, 1, .inr (.inl g)))] s.heap.size = A at hD ⊢
  have hA : ∀ q : Nat, s.heap.size ≤ q → A q := fun q h => by rw [← hAe]; exact Or.inr h
  have hS : va_S A s.heap s.heap [] := va_S.rf
  have hl := lv_entry ([.ref h0, .int x, .ref lo]) (n := 4) (Nat.le_of_ble_eq_true rfl)
  rw [lg_entry_eq]
  generalize (lg_sl ([.ref h0, .int x, .ref lo]) ++ List.replicate (4 - (lg_sl ([.ref h0, .int x, .ref lo])).length) Slot.unset).toArray = ls at hl ⊢
  have hl : lv_has ls 4 [(0, .ref h0), (1, .int x), (2, .ref lo)] := hl
  have F : CallFix p m c b_La_arm 4 s ([.ref h0, .int x, .ref lo]).toArray gw "LineDiskLaw" := ⟨hx, hb, hml, hown, hts⟩
  refine lv_aload_n hx hb d_La_arm_0 rfl (lv_at hl 2 rfl) ?_
  refine lv_iconst (v := 0) hx hb d_La_arm_1 (by decide) ?_
  refine lv_aload_n hx hb d_La_arm_2 rfl (lv_at hl 0 rfl) ?_
  refine lv_iload_n hx hb d_La_arm_3 rfl (lv_at hl 1 rfl) ?_
  refine go_i (wr := [(lo, .inl (cO, 1, .inr (.inl g)))]) (tr := [(cO, .long)]) (rV (C := "LineDisk") (ci := 0) (q0 := 0) (b := h0) (n := 1) (As := [.int x]) (rest := [.int 0, .ref lo]) F hkw (c_Ld_arm l dC dI h0 o0 o1 o2 o3 o4 c0 x h1 h2 s.heap.size) xT_bl (fun _ _ _ => trivial) w_480 w_481 w_482 w_1 w_483 rfl rfl (by decide +kernel) ⟨Nat.le_of_ble_eq_true rfl, Nat.le_of_ble_eq_true rfl⟩ (hP.sub (ws' := [(h0, .inr (0, [.ref o0, .ref o1, .ref o2, .ref o3, .ref o4, .int 0])), (o0, .inr (1, [.ref c0, .int (-1), .int 0, .int 0]))]) [0, 1] rfl) (hD.sub (ws' := [(h0, .inr (0, [.ref o0, .ref o1, .ref o2, .ref o3, .ref o4, .int 0])), (o0, .inr (1, [.ref c0, .int (-1), .int 0, .int 0]))]) [0, 1] (by decide) rfl) (hK.sub (tys' := []) [] rfl) rfl rfl rfl rfl hl.1 rfl (Nat.le_of_ble_eq_true rfl) d_La_arm_4 ⟨by decide, by decide⟩) hP hD hK hS hA [0, 1] [2] [0] rfl rfl (by decide) (by decide) rfl (fun r u H locs hw hP hD hK hS => ?_)
  have hP : va_P (dC, dI) cls [(lo, .inl (cO, 1, .inr (.inl g)))] H := hP
  have hD : va_D A [(lo, .inl (cO, 1, .inr (.inl g)))] := hD
  have hK : va_K (dC, dI) cls [(cO, .long)] s := hK
  refine W.widen (k := 0) (n := 0) (by omega) (by omega) ?_
  subst hw
  refine lv_if_eq (tgt := 14) hx hb d_La_arm_7 (by decide) (fun h => absurd h (by decide)) (fun _ => ?_)
  refine lv_lconst (v := 1) hx hb d_La_arm_10 (by decide) ?_
  refine lv_goto (tgt := 15) hx hb d_La_arm_11 (by decide) ?_
  refine va_last hx hb hK hP hD hS 0 0 rfl rfl (vp_in_iff.mpr (by decide)) d_La_arm_15 (fun H locs hP hD hS => ?_)
  have hP : va_P (dC, dI) cls [(lo, .inl (cO, 1, .inr (.inl (vp_updL g (0 : Int32).toNatClampNeg 1))))] H := hP
  have hD : va_D A [(lo, .inl (cO, 1, .inr (.inl (vp_updL g (0 : Int32).toNatClampNeg 1))))] := hD
  refine lv_goto (tgt := 22) hx hb d_La_arm_16 (by decide) ?_
  refine lv_iconst (v := 0) hx hb d_La_arm_22 (by decide) ?_
  refine W.widen (k := 0) (n := 0) (by decide) (by decide) ?_
  exact W.iret (v := 0) hx hb hr (fun t ht hW => ⟨⟨0, (), rfl, rfl, cB.of (hP.sub [0] rfl) (hD.sub [0] (by decide) rfl) (hK.sub [0] rfl) ht hW⟩, hS.F ht⟩) hS.2.2 d_La_arm_23
set_option maxHeartbeats 4000000 in
set_option maxRecDepth 100000 in
theorem h_out1 (l : Launch) (dC : Nat → ClassId) (dI : Nat → Nat → Nat) (hfl : l.flags = pinnedFlags ++ [noTraceFlag]) (h0 o0 o1 o2 o3 o4 : Nat) (lo : Nat) (x : Int32) (h1 : x < 0) (q : Nat) (sz : Nat) : Met l y_La_out (Cond.codeWith y_La_out b_La_out 4 (some .int) [(0, 9, 12, 19)] :: gw) ({ frames := 7, cells := 1, slots := 6, locals := 121 }) (cP (dC, dI) [.ref h0, .int x, .ref lo] sz [(h0, .inr (0, [.ref o0, .ref o1, .ref o2, .ref o3, .ref o4, .int 0]))] [] (xE 119 "no such number is kept" q)) (va_Qi (fun (r : Int32) (u : Unit) => r = 1) (fun (u : Unit) t => cB (dC, dI) (va_A [(h0, .inr (0, [.ref o0, .ref o1, .ref o2, .ref o3, .ref o4, .int 0]))] sz) [] [] t) (va_A [(h0, .inr (0, [.ref o0, .ref o1, .ref o2, .ref o3, .ref o4, .int 0]))] sz)) 1 6 (va_A [(h0, .inr (0, [.ref o0, .ref o1, .ref o2, .ref o3, .ref o4, .int 0]))] sz) := by
  refine tw_ofW (hh := [(0, 9, 12, 19)]) (cc := b_La_out) (maxL := 4) (ret := (some .int)) (by decide) rfl ?_
  intro p e s m args below meth c s₁ B hml htab0 hv
  obtain ⟨rfl, hsz, hP, hK, hD0, hkw, hX⟩ := hv
  have hx := B.exec
  have hb := B.bytes
  have hr := B.returns
  have hts := fun w hw => atoms_spec (ws := Cond.codeWith y_La_out b_La_out 4 (some .int) [(0, 9, 12, 19)] :: gw) B.pre w (List.mem_cons_of_mem _ hw)
  have hown : s.vm.findClass "LineDiskLaw" = some m.cls := findClass_of_methodNamed B.named
  have hlocks := B.notSynchronized
  have hin := (name_of_methodNamed B.named B.method).1
  subst hsz
  have hD := hD0.self (sz := s.heap.size)
  generalize hAe : va_A [(h0, .inr (0, [.ref o0, .ref o1, .ref o2, .ref o3, .ref o4, .int 0]))] s.heap.size = A at hD ⊢
  have hA : ∀ q : Nat, s.heap.size ≤ q → A q := fun q h => by rw [← hAe]; exact Or.inr h
  have hS : va_S A s.heap s.heap [] := va_S.rf
  have hl := lv_entry ([.ref h0, .int x, .ref lo]) (n := 4) (Nat.le_of_ble_eq_true rfl)
  rw [lg_entry_eq]
  generalize (lg_sl ([.ref h0, .int x, .ref lo]) ++ List.replicate (4 - (lg_sl ([.ref h0, .int x, .ref lo])).length) Slot.unset).toArray = ls at hl ⊢
  have hl : lv_has ls 4 [(0, .ref h0), (1, .int x), (2, .ref lo)] := hl
  have F : CallFix p m c b_La_out 4 s ([.ref h0, .int x, .ref lo]).toArray gw "LineDiskLaw" := ⟨hx, hb, hml, hown, hts⟩
  refine lv_aload_n hx hb d_La_out_0 rfl (lv_at hl 2 rfl) ?_
  refine lv_iconst (v := 0) hx hb d_La_out_1 (by decide) ?_
  refine lv_aload_n hx hb d_La_out_2 rfl (lv_at hl 0 rfl) ?_
  refine lv_iload_n hx hb d_La_out_3 rfl (lv_at hl 1 rfl) ?_
  obtain ⟨xx, ht, hx1, hx2, hx3, hx4⟩ := tab1 htab0
  refine th_call (As := [.int x]) (rest := [.int 0, .ref lo]) (b := h0) (C := "LineDisk") (own := "LineDiskLaw") (name := "java/lang/IndexOutOfBoundsException") (bytes := b_Ld_out) (maxL := 2) (ret := (some .int)) hx hb hml hown (t_Ld_out1 l hfl dC dI h0 o0 o1 o2 o3 o4 x h1 q s.heap.size) (cP.blind xE_bl) (by decide) (by decide) (pay_in hts (gi w_558)) (hts _ w_558) (hts _ w_555) (hts _ w_556) (hts _ w_557) (hts _ w_1) (by decide +kernel) (fun sig h => ?_) (va_recv (q0 := 0) hK hP (ci := 0) rfl rfl) (cP.pre (A := A) hP hD hK hkw (xE_of hX (fun _ _ => rfl))) hl.1 (Nat.le_of_ble_eq_true rfl) d_La_out_4 (by decide) (by decide) ht (by simp [covers, hx1, hx2]) (by rw [hx4]; decide) (by rw [hx4]; exact hts _ w_554) (hkw.use v_561 rfl) rfl (fun ea H hz9 hk9 => ?_)
  · cases (show some sig = parseMethodDescriptor y_Ld_out.desc from h.symm).trans (by decide +kernel : parseMethodDescriptor y_Ld_out.desc = some ⟨[.int], (some .int)⟩)
    rfl
  rw [hx3]
  have hS : va_S A s.heap H [] := ⟨hz9, fun q h _ => hk9 q h, fun _ h => by cases h⟩
  refine W.widen (k := 1) (n := 6) (by decide) (by decide) ?_
  refine lv_astore_n (i := 3) hx hb d_La_out_12 rfl hl (by decide) rfl (fun ls hl => ?_)
  have hl : lv_has ls 4 [(3, .ref ea), (0, .ref h0), (1, .int x), (2, .ref lo)] := hl
  refine lv_iconst (v := 1) hx hb d_La_out_13 (by decide) ?_
  exact W.iret (v := 1) hx hb hr (fun t ht hW => ⟨⟨1, (), rfl, rfl, cB.of nilP nilD (hK.sub [] rfl) ht hW⟩, hS.F ht⟩) hS.2.2 d_La_out_14
set_option maxHeartbeats 4000000 in
set_option maxRecDepth 100000 in
theorem h_out2 (l : Launch) (dC : Nat → ClassId) (dI : Nat → Nat → Nat) (hfl : l.flags = pinnedFlags ++ [noTraceFlag]) (h0 o0 o1 o2 o3 o4 : Nat) (lo : Nat) (x : Int32) (h1 : ¬ x < 0) (q : Nat) (sz : Nat) : Met l y_La_out (Cond.codeWith y_La_out b_La_out 4 (some .int) [(0, 9, 12, 19)] :: gw) ({ frames := 7, cells := 1, slots := 6, locals := 121 }) (cP (dC, dI) [.ref h0, .int x, .ref lo] sz [(h0, .inr (0, [.ref o0, .ref o1, .ref o2, .ref o3, .ref o4, .int 0]))] [] (xE 119 "no such number is kept" q)) (va_Qi (fun (r : Int32) (u : Unit) => r = 1) (fun (u : Unit) t => cB (dC, dI) (va_A [(h0, .inr (0, [.ref o0, .ref o1, .ref o2, .ref o3, .ref o4, .int 0]))] sz) [] [] t) (va_A [(h0, .inr (0, [.ref o0, .ref o1, .ref o2, .ref o3, .ref o4, .int 0]))] sz)) 1 6 (va_A [(h0, .inr (0, [.ref o0, .ref o1, .ref o2, .ref o3, .ref o4, .int 0]))] sz) := by
  refine tw_ofW (hh := [(0, 9, 12, 19)]) (cc := b_La_out) (maxL := 4) (ret := (some .int)) (by decide) rfl ?_
  intro p e s m args below meth c s₁ B hml htab0 hv
  obtain ⟨rfl, hsz, hP, hK, hD0, hkw, hX⟩ := hv
  have hx := B.exec
  have hb := B.bytes
  have hr := B.returns
  have hts := fun w hw => atoms_spec (ws := Cond.codeWith y_La_out b_La_out 4 (some .int) [(0, 9, 12, 19)] :: gw) B.pre w (List.mem_cons_of_mem _ hw)
  have hown : s.vm.findClass "LineDiskLaw" = some m.cls := findClass_of_methodNamed B.named
  have hlocks := B.notSynchronized
  have hin := (name_of_methodNamed B.named B.method).1
  subst hsz
  have hD := hD0.self (sz := s.heap.size)
  generalize hAe : va_A [(h0, .inr (0, [.ref o0, .ref o1, .ref o2, .ref o3, .ref o4, .int 0]))] s.heap.size = A at hD ⊢
  have hA : ∀ q : Nat, s.heap.size ≤ q → A q := fun q h => by rw [← hAe]; exact Or.inr h
  have hS : va_S A s.heap s.heap [] := va_S.rf
  have hl := lv_entry ([.ref h0, .int x, .ref lo]) (n := 4) (Nat.le_of_ble_eq_true rfl)
  rw [lg_entry_eq]
  generalize (lg_sl ([.ref h0, .int x, .ref lo]) ++ List.replicate (4 - (lg_sl ([.ref h0, .int x, .ref lo])).length) Slot.unset).toArray = ls at hl ⊢
  have hl : lv_has ls 4 [(0, .ref h0), (1, .int x), (2, .ref lo)] := hl
  have F : CallFix p m c b_La_out 4 s ([.ref h0, .int x, .ref lo]).toArray gw "LineDiskLaw" := ⟨hx, hb, hml, hown, hts⟩
  refine lv_aload_n hx hb d_La_out_0 rfl (lv_at hl 2 rfl) ?_
  refine lv_iconst (v := 0) hx hb d_La_out_1 (by decide) ?_
  refine lv_aload_n hx hb d_La_out_2 rfl (lv_at hl 0 rfl) ?_
  refine lv_iload_n hx hb d_La_out_3 rfl (lv_at hl 1 rfl) ?_
  obtain ⟨xx, ht, hx1, hx2, hx3, hx4⟩ := tab1 htab0
  refine th_call (As := [.int x]) (rest := [.int 0, .ref lo]) (b := h0) (C := "LineDisk") (own := "LineDiskLaw") (name := "java/lang/IndexOutOfBoundsException") (bytes := b_Ld_out) (maxL := 2) (ret := (some .int)) hx hb hml hown (t_Ld_out2 l hfl dC dI h0 o0 o1 o2 o3 o4 x h1 q s.heap.size) (cP.blind xE_bl) (by decide) (by decide) (pay_in hts (gi w_558)) (hts _ w_558) (hts _ w_555) (hts _ w_556) (hts _ w_557) (hts _ w_1) (by decide +kernel) (fun sig h => ?_) (va_recv (q0 := 0) hK hP (ci := 0) rfl rfl) (cP.pre (A := A) hP hD hK hkw (xE_of hX (fun _ _ => rfl))) hl.1 (Nat.le_of_ble_eq_true rfl) d_La_out_4 (by decide) (by decide) ht (by simp [covers, hx1, hx2]) (by rw [hx4]; decide) (by rw [hx4]; exact hts _ w_554) (hkw.use v_561 rfl) rfl (fun ea H hz9 hk9 => ?_)
  · cases (show some sig = parseMethodDescriptor y_Ld_out.desc from h.symm).trans (by decide +kernel : parseMethodDescriptor y_Ld_out.desc = some ⟨[.int], (some .int)⟩)
    rfl
  rw [hx3]
  have hS : va_S A s.heap H [] := ⟨hz9, fun q h _ => hk9 q h, fun _ h => by cases h⟩
  refine W.widen (k := 1) (n := 6) (by decide) (by decide) ?_
  refine lv_astore_n (i := 3) hx hb d_La_out_12 rfl hl (by decide) rfl (fun ls hl => ?_)
  have hl : lv_has ls 4 [(3, .ref ea), (0, .ref h0), (1, .int x), (2, .ref lo)] := hl
  refine lv_iconst (v := 1) hx hb d_La_out_13 (by decide) ?_
  exact W.iret (v := 1) hx hb hr (fun t ht hW => ⟨⟨1, (), rfl, rfl, cB.of nilP nilD (hK.sub [] rfl) ht hW⟩, hS.F ht⟩) hS.2.2 d_La_out_14
set_option maxHeartbeats 4000000 in
set_option maxRecDepth 100000 in
theorem h_disk1 (l : Launch) (dC : Nat → ClassId) (dI : Nat → Nat → Nat) (hfl : l.flags = pinnedFlags ++ [noTraceFlag]) (h0 o0 o1 o2 o3 o4 : Nat) (lo : Nat) (x : Int32) (h1 : x < 0) (q : Nat) (sz : Nat) : Met l y_La_disk (Cond.codeWith y_La_disk b_La_disk 4 (some .int) [(0, 9, 12, 19)] :: gw) ({ frames := 7, cells := 1, slots := 6, locals := 121 }) (cP (dC, dI) [.ref h0, .int x, .ref lo] sz [(h0, .inr (0, [.ref o0, .ref o1, .ref o2, .ref o3, .ref o4, .int 0]))] [] (xE 122 "no such cell" q)) (va_Qi (fun (r : Int32) (u : Unit) => r = 1) (fun (u : Unit) t => cB (dC, dI) (va_A [(h0, .inr (0, [.ref o0, .ref o1, .ref o2, .ref o3, .ref o4, .int 0]))] sz) [] [] t) (va_A [(h0, .inr (0, [.ref o0, .ref o1, .ref o2, .ref o3, .ref o4, .int 0]))] sz)) 1 6 (va_A [(h0, .inr (0, [.ref o0, .ref o1, .ref o2, .ref o3, .ref o4, .int 0]))] sz) := by
  refine tw_ofW (hh := [(0, 9, 12, 19)]) (cc := b_La_disk) (maxL := 4) (ret := (some .int)) (by decide) rfl ?_
  intro p e s m args below meth c s₁ B hml htab0 hv
  obtain ⟨rfl, hsz, hP, hK, hD0, hkw, hX⟩ := hv
  have hx := B.exec
  have hb := B.bytes
  have hr := B.returns
  have hts := fun w hw => atoms_spec (ws := Cond.codeWith y_La_disk b_La_disk 4 (some .int) [(0, 9, 12, 19)] :: gw) B.pre w (List.mem_cons_of_mem _ hw)
  have hown : s.vm.findClass "LineDiskLaw" = some m.cls := findClass_of_methodNamed B.named
  have hlocks := B.notSynchronized
  have hin := (name_of_methodNamed B.named B.method).1
  subst hsz
  have hD := hD0.self (sz := s.heap.size)
  generalize hAe : va_A [(h0, .inr (0, [.ref o0, .ref o1, .ref o2, .ref o3, .ref o4, .int 0]))] s.heap.size = A at hD ⊢
  have hA : ∀ q : Nat, s.heap.size ≤ q → A q := fun q h => by rw [← hAe]; exact Or.inr h
  have hS : va_S A s.heap s.heap [] := va_S.rf
  have hl := lv_entry ([.ref h0, .int x, .ref lo]) (n := 4) (Nat.le_of_ble_eq_true rfl)
  rw [lg_entry_eq]
  generalize (lg_sl ([.ref h0, .int x, .ref lo]) ++ List.replicate (4 - (lg_sl ([.ref h0, .int x, .ref lo])).length) Slot.unset).toArray = ls at hl ⊢
  have hl : lv_has ls 4 [(0, .ref h0), (1, .int x), (2, .ref lo)] := hl
  have F : CallFix p m c b_La_disk 4 s ([.ref h0, .int x, .ref lo]).toArray gw "LineDiskLaw" := ⟨hx, hb, hml, hown, hts⟩
  refine lv_aload_n hx hb d_La_disk_0 rfl (lv_at hl 2 rfl) ?_
  refine lv_iconst (v := 0) hx hb d_La_disk_1 (by decide) ?_
  refine lv_aload_n hx hb d_La_disk_2 rfl (lv_at hl 0 rfl) ?_
  refine lv_iload_n hx hb d_La_disk_3 rfl (lv_at hl 1 rfl) ?_
  obtain ⟨xx, ht, hx1, hx2, hx3, hx4⟩ := tab1 htab0
  refine th_call (As := [.int x]) (rest := [.int 0, .ref lo]) (b := h0) (C := "LineDisk") (own := "LineDiskLaw") (name := "java/lang/IndexOutOfBoundsException") (bytes := b_Ld_disk) (maxL := 2) (ret := (some .int)) hx hb hml hown (t_Ld_disk1 l hfl dC dI h0 o0 o1 o2 o3 o4 x h1 q s.heap.size) (cP.blind xE_bl) (by decide) (by decide) (pay_in hts (gi w_581)) (hts _ w_581) (hts _ w_578) (hts _ w_579) (hts _ w_580) (hts _ w_1) (by decide +kernel) (fun sig h => ?_) (va_recv (q0 := 0) hK hP (ci := 0) rfl rfl) (cP.pre (A := A) hP hD hK hkw (xE_of hX (fun _ _ => rfl))) hl.1 (Nat.le_of_ble_eq_true rfl) d_La_disk_4 (by decide) (by decide) ht (by simp [covers, hx1, hx2]) (by rw [hx4]; decide) (by rw [hx4]; exact hts _ w_554) (hkw.use v_561 rfl) rfl (fun ea H hz9 hk9 => ?_)
  · cases (show some sig = parseMethodDescriptor y_Ld_disk.desc from h.symm).trans (by decide +kernel : parseMethodDescriptor y_Ld_disk.desc = some ⟨[.int], (some .int)⟩)
    rfl
  rw [hx3]
  have hS : va_S A s.heap H [] := ⟨hz9, fun q h _ => hk9 q h, fun _ h => by cases h⟩
  refine W.widen (k := 1) (n := 6) (by decide) (by decide) ?_
  refine lv_astore_n (i := 3) hx hb d_La_disk_12 rfl hl (by decide) rfl (fun ls hl => ?_)
  have hl : lv_has ls 4 [(3, .ref ea), (0, .ref h0), (1, .int x), (2, .ref lo)] := hl
  refine lv_iconst (v := 1) hx hb d_La_disk_13 (by decide) ?_
  exact W.iret (v := 1) hx hb hr (fun t ht hW => ⟨⟨1, (), rfl, rfl, cB.of nilP nilD (hK.sub [] rfl) ht hW⟩, hS.F ht⟩) hS.2.2 d_La_disk_14
set_option maxHeartbeats 4000000 in
set_option maxRecDepth 100000 in
theorem h_disk2 (l : Launch) (dC : Nat → ClassId) (dI : Nat → Nat → Nat) (hfl : l.flags = pinnedFlags ++ [noTraceFlag]) (h0 o0 o1 o2 o3 o4 : Nat) (lo : Nat) (x : Int32) (h1 : ¬ x < 0) (h2 : ¬ x < 512) (q : Nat) (sz : Nat) : Met l y_La_disk (Cond.codeWith y_La_disk b_La_disk 4 (some .int) [(0, 9, 12, 19)] :: gw) ({ frames := 7, cells := 1, slots := 6, locals := 121 }) (cP (dC, dI) [.ref h0, .int x, .ref lo] sz [(h0, .inr (0, [.ref o0, .ref o1, .ref o2, .ref o3, .ref o4, .int 0]))] [] (xE 122 "no such cell" q)) (va_Qi (fun (r : Int32) (u : Unit) => r = 1) (fun (u : Unit) t => cB (dC, dI) (va_A [(h0, .inr (0, [.ref o0, .ref o1, .ref o2, .ref o3, .ref o4, .int 0]))] sz) [] [] t) (va_A [(h0, .inr (0, [.ref o0, .ref o1, .ref o2, .ref o3, .ref o4, .int 0]))] sz)) 1 6 (va_A [(h0, .inr (0, [.ref o0, .ref o1, .ref o2, .ref o3, .ref o4, .int 0]))] sz) := by
  refine tw_ofW (hh := [(0, 9, 12, 19)]) (cc := b_La_disk) (maxL := 4) (ret := (some .int)) (by decide) rfl ?_
  intro p e s m args below meth c s₁ B hml htab0 hv
  obtain ⟨rfl, hsz, hP, hK, hD0, hkw, hX⟩ := hv
  have hx := B.exec
  have hb := B.bytes
  have hr := B.returns
  have hts := fun w hw => atoms_spec (ws := Cond.codeWith y_La_disk b_La_disk 4 (some .int) [(0, 9, 12, 19)] :: gw) B.pre w (List.mem_cons_of_mem _ hw)
  have hown : s.vm.findClass "LineDiskLaw" = some m.cls := findClass_of_methodNamed B.named
  have hlocks := B.notSynchronized
  have hin := (name_of_methodNamed B.named B.method).1
  subst hsz
  have hD := hD0.self (sz := s.heap.size)
  generalize hAe : va_A [(h0, .inr (0, [.ref o0, .ref o1, .ref o2, .ref o3, .ref o4, .int 0]))] s.heap.size = A at hD ⊢
  have hA : ∀ q : Nat, s.heap.size ≤ q → A q := fun q h => by rw [← hAe]; exact Or.inr h
  have hS : va_S A s.heap s.heap [] := va_S.rf
  have hl := lv_entry ([.ref h0, .int x, .ref lo]) (n := 4) (Nat.le_of_ble_eq_true rfl)
  rw [lg_entry_eq]
  generalize (lg_sl ([.ref h0, .int x, .ref lo]) ++ List.replicate (4 - (lg_sl ([.ref h0, .int x, .ref lo])).length) Slot.unset).toArray = ls at hl ⊢
  have hl : lv_has ls 4 [(0, .ref h0), (1, .int x), (2, .ref lo)] := hl
  have F : CallFix p m c b_La_disk 4 s ([.ref h0, .int x, .ref lo]).toArray gw "LineDiskLaw" := ⟨hx, hb, hml, hown, hts⟩
  refine lv_aload_n hx hb d_La_disk_0 rfl (lv_at hl 2 rfl) ?_
  refine lv_iconst (v := 0) hx hb d_La_disk_1 (by decide) ?_
  refine lv_aload_n hx hb d_La_disk_2 rfl (lv_at hl 0 rfl) ?_
  refine lv_iload_n hx hb d_La_disk_3 rfl (lv_at hl 1 rfl) ?_
  obtain ⟨xx, ht, hx1, hx2, hx3, hx4⟩ := tab1 htab0
  refine th_call (As := [.int x]) (rest := [.int 0, .ref lo]) (b := h0) (C := "LineDisk") (own := "LineDiskLaw") (name := "java/lang/IndexOutOfBoundsException") (bytes := b_Ld_disk) (maxL := 2) (ret := (some .int)) hx hb hml hown (t_Ld_disk2 l hfl dC dI h0 o0 o1 o2 o3 o4 x h1 h2 q s.heap.size) (cP.blind xE_bl) (by decide) (by decide) (pay_in hts (gi w_581)) (hts _ w_581) (hts _ w_578) (hts _ w_579) (hts _ w_580) (hts _ w_1) (by decide +kernel) (fun sig h => ?_) (va_recv (q0 := 0) hK hP (ci := 0) rfl rfl) (cP.pre (A := A) hP hD hK hkw (xE_of hX (fun _ _ => rfl))) hl.1 (Nat.le_of_ble_eq_true rfl) d_La_disk_4 (by decide) (by decide) ht (by simp [covers, hx1, hx2]) (by rw [hx4]; decide) (by rw [hx4]; exact hts _ w_554) (hkw.use v_561 rfl) rfl (fun ea H hz9 hk9 => ?_)
  · cases (show some sig = parseMethodDescriptor y_Ld_disk.desc from h.symm).trans (by decide +kernel : parseMethodDescriptor y_Ld_disk.desc = some ⟨[.int], (some .int)⟩)
    rfl
  rw [hx3]
  have hS : va_S A s.heap H [] := ⟨hz9, fun q h _ => hk9 q h, fun _ h => by cases h⟩
  refine W.widen (k := 1) (n := 6) (by decide) (by decide) ?_
  refine lv_astore_n (i := 3) hx hb d_La_disk_12 rfl hl (by decide) rfl (fun ls hl => ?_)
  have hl : lv_has ls 4 [(3, .ref ea), (0, .ref h0), (1, .int x), (2, .ref lo)] := hl
  refine lv_iconst (v := 1) hx hb d_La_disk_13 (by decide) ?_
  exact W.iret (v := 1) hx hb hr (fun t ht hW => ⟨⟨1, (), rfl, rfl, cB.of nilP nilD (hK.sub [] rfl) ht hW⟩, hS.F ht⟩) hS.2.2 d_La_disk_14
set_option maxHeartbeats 4000000 in
set_option maxRecDepth 100000 in
theorem h_disk3 (l : Launch) (dC : Nat → ClassId) (dI : Nat → Nat → Nat) (h0 o0 o1 o2 o3 o4 : Nat) (c0 lo : Nat) (cA cO : ClassId) (g : Nat → Int64) (x : Int32) (h1 : ¬ x < 0) (h2 : x < 512) (sz : Nat) : Met l y_La_disk (Cond.codeWith y_La_disk b_La_disk 4 (some .int) [(0, 9, 12, 19)] :: gw) ({ frames := 2, cells := 0, slots := 0, locals := 53 }) (cP (dC, dI) [.ref h0, .int x, .ref lo] sz [(h0, .inr (0, [.ref o0, .ref o1, .ref o2, .ref o3, .ref o4, .int 0])), (o0, .inr (1, [.ref c0, .int (-1), .int 0, .int 0])), (c0, .inl (cA, 512, .inl (fun _ => 0))), (lo, .inl (cO, 1, .inr (.inl g)))] [(cA, .int), (cO, .long)] xT) (va_Qi (fun (r : Int32) (u : Unit) => r = 0) (fun (u : Unit) t => cB (dC, dI) (va_A [(h0, .inr (0, [.ref o0, .ref o1, .ref o2, .ref o3, .ref o4, .int 0])), (o0, .inr (1, [.ref c0, .int (-1), .int 0, .int 0])), (c0, .inl (cA, 512, .inl (fun _ => 0))), (lo, .inl (cO, 1, .inr (.inl g)))] sz) [(lo, .inl (cO, 1, .inr (.inl (vp_updL g (0 : Int32).toNatClampNeg 0))))] [(cO, .long)] t) (va_A [(h0, .inr (0, [.ref o0, .ref o1, .ref o2, .ref o3, .ref o4, .int 0])), (o0, .inr (1, [.ref c0, .int (-1), .int 0, .int 0])), (c0, .inl (cA, 512, .inl (fun _ => 0))), (lo, .inl (cO, 1, .inr (.inl g)))] sz)) 0 0 (va_A [(h0, .inr (0, [.ref o0, .ref o1, .ref o2, .ref o3, .ref o4, .int 0])), (o0, .inr (1, [.ref c0, .int (-1), .int 0, .int 0])), (c0, .inl (cA, 512, .inl (fun _ => 0))), (lo, .inl (cO, 1, .inr (.inl g)))] sz) := by
  refine tw_ofW (hh := [(0, 9, 12, 19)]) (cc := b_La_disk) (maxL := 4) (ret := (some .int)) (by decide) rfl ?_
  intro p e s m args below meth c s₁ B hml htab0 hv
  obtain ⟨rfl, hsz, hP, hK, hD0, hkw, hX⟩ := hv
  have hx := B.exec
  have hb := B.bytes
  have hr := B.returns
  have hts := fun w hw => atoms_spec (ws := Cond.codeWith y_La_disk b_La_disk 4 (some .int) [(0, 9, 12, 19)] :: gw) B.pre w (List.mem_cons_of_mem _ hw)
  have hown : s.vm.findClass "LineDiskLaw" = some m.cls := findClass_of_methodNamed B.named
  have hlocks := B.notSynchronized
  have hin := (name_of_methodNamed B.named B.method).1
  subst hsz
  have hD := hD0.self (sz := s.heap.size)
  generalize hAe : va_A [(h0, .inr (0, [.ref o0, .ref o1, .ref o2, .ref o3, .ref o4, .int 0])), (o0, .inr (1, [.ref c0, .int (-1), .int 0, .int 0])), (c0, .inl (cA, 512, .inl (fun _ => 0))), (lo, .inl (cO, 1, .inr (.inl g)))] s.heap.size = A at hD ⊢
  have hA : ∀ q : Nat, s.heap.size ≤ q → A q := fun q h => by rw [← hAe]; exact Or.inr h
  have hS : va_S A s.heap s.heap [] := va_S.rf
  have hl := lv_entry ([.ref h0, .int x, .ref lo]) (n := 4) (Nat.le_of_ble_eq_true rfl)
  rw [lg_entry_eq]
  generalize (lg_sl ([.ref h0, .int x, .ref lo]) ++ List.replicate (4 - (lg_sl ([.ref h0, .int x, .ref lo])).length) Slot.unset).toArray = ls at hl ⊢
  have hl : lv_has ls 4 [(0, .ref h0), (1, .int x), (2, .ref lo)] := hl
  have F : CallFix p m c b_La_disk 4 s ([.ref h0, .int x, .ref lo]).toArray gw "LineDiskLaw" := ⟨hx, hb, hml, hown, hts⟩
  refine lv_aload_n hx hb d_La_disk_0 rfl (lv_at hl 2 rfl) ?_
  refine lv_iconst (v := 0) hx hb d_La_disk_1 (by decide) ?_
  refine lv_aload_n hx hb d_La_disk_2 rfl (lv_at hl 0 rfl) ?_
  refine lv_iload_n hx hb d_La_disk_3 rfl (lv_at hl 1 rfl) ?_
  refine go_i (wr := [(lo, .inl (cO, 1, .inr (.inl g)))]) (tr := [(cO, .long)]) (rV (C := "LineDisk") (ci := 0) (q0 := 0) (b := h0) (n := 1) (As := [.int x]) (rest := [.int 0, .ref lo]) F hkw (c_Ld_disk l dC dI h0 o0 o1 o2 o3 o4 c0 cA x h1 h2 s.heap.size) xT_bl (fun _ _ _ => trivial) w_578 w_579 w_580 w_1 w_581 rfl rfl (by decide +kernel) ⟨Nat.le_of_ble_eq_true rfl, Nat.le_of_ble_eq_true rfl⟩ (hP.sub (ws' := [(h0, .inr (0, [.ref o0, .ref o1, .ref o2, .ref o3, .ref o4, .int 0])), (o0, .inr (1, [.ref c0, .int (-1), .int 0, .int 0])), (c0, .inl (cA, 512, .inl (fun _ => 0)))]) [0, 1, 2] rfl) (hD.sub (ws' := [(h0, .inr (0, [.ref o0, .ref o1, .ref o2, .ref o3, .ref o4, .int 0])), (o0, .inr (1, [.ref c0, .int (-1), .int 0, .int 0])), (c0, .inl (cA, 512, .inl (fun _ => 0)))]) [0, 1, 2] (by decide) rfl) (hK.sub (tys' := [(cA, .int)]) [0] rfl) rfl rfl rfl rfl hl.1 rfl (Nat.le_of_ble_eq_true rfl) d_La_disk_4 ⟨by decide, by decide⟩) hP hD hK hS hA [0, 1, 2] [3] [1] rfl rfl (by decide) (by decide) rfl (fun r u H locs hw hP hD hK hS => ?_)
  have hP : va_P (dC, dI) cls [(lo, .inl (cO, 1, .inr (.inl g)))] H := hP
  have hD : va_D A [(lo, .inl (cO, 1, .inr (.inl g)))] := hD
  have hK : va_K (dC, dI) cls [(cO, .long)] s := hK
  refine W.widen (k := 0) (n := 0) (by omega) (by omega) ?_
  subst hw
  refine lv_i2l hx hb d_La_disk_7 rfl ?_
  refine tvL (x2 := 0) (by decide) ?_
  refine va_last hx hb hK hP hD hS 0 0 rfl rfl (vp_in_iff.mpr (by decide)) d_La_disk_8 (fun H locs hP hD hS => ?_)
  have hP : va_P (dC, dI) cls [(lo, .inl (cO, 1, .inr (.inl (vp_updL g (0 : Int32).toNatClampNeg 0))))] H := hP
  have hD : va_D A [(lo, .inl (cO, 1, .inr (.inl (vp_updL g (0 : Int32).toNatClampNeg 0))))] := hD
  refine lv_goto (tgt := 15) hx hb d_La_disk_9 (by decide) ?_
  refine lv_iconst (v := 0) hx hb d_La_disk_15 (by decide) ?_
  refine W.widen (k := 0) (n := 0) (by decide) (by decide) ?_
  exact W.iret (v := 0) hx hb hr (fun t ht hW => ⟨⟨0, (), rfl, rfl, cB.of (hP.sub [0] rfl) (hD.sub [0] (by decide) rfl) (hK.sub [0] rfl) ht hW⟩, hS.F ht⟩) hS.2.2 d_La_disk_16
