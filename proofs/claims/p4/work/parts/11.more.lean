section TV
variable {p : Program} {l : Launch} {e : Env} {R : Room} {s : State} {m : MethodId} {args : Array Value} {below : List Frame} {meth : Method} {c : Code} {H : Heap} {locs : List Loc} {cells slots : Nat} {Q : State → Prop} {pc : Nat} {ls : Array Slot} {rest : List Value}
theorem tv {x x2 : Int32} (h : x = x2) (k : W p l e R s m args below meth c H locs cells slots Q (F0 m pc ls (.int x2 :: rest))) : W p l e R s m args below meth c H locs cells slots Q (F0 m pc ls (.int x :: rest)) := h ▸ k
theorem tvL {x x2 : Int64} (h : x = x2) (k : W p l e R s m args below meth c H locs cells slots Q (F0 m pc ls (.long x2 :: rest))) : W p l e R s m args below meth c H locs cells slots Q (F0 m pc ls (.long x :: rest)) := h ▸ k
end TV
theorem upd_inv {f : Nat → Int32} {k : Nat} {x : Int32} (hk : k < 2 ^ 31) (h : ∀ i, i < k → f i = x) : ∀ i, i < k + 1 → upd f (nI k : Int32).toNatClampNeg x i = x := by
  intro i hi
  rw [nI_clamp hk]
  unfold upd
  by_cases hik : i = k
  · rw [if_pos hik]
  · rw [if_neg hik]; exact h i (by omega)
/-! methods with a table of one row: their contracts, calls of them -/
theorem tab1 {c : Code} {a b d e : Nat} (h : c.exceptionTable.toList.map (fun h => (h.startPc, h.endPc, h.handlerPc, h.catchType)) = [(a, b, d, e)]) : ∃ x, c.exceptionTable.toList = [x] ∧ x.startPc = a ∧ x.endPc = b ∧ x.handlerPc = d ∧ x.catchType = e := by
  match hl : c.exceptionTable.toList, h with
  | [x], h =>
    simp only [List.map_cons, List.map_nil, List.cons.injEq, Prod.mk.injEq, and_true] at h
    exact ⟨x, rfl, h⟩
  | [], h => simp at h
  | x :: y :: r, h => simp at h
theorem tw_ofW {l : Launch} {y : MethodName} {ws ws' : List Cond} {rm : Room} {Pc : Array Value → State → Prop} {Qc : Array Value → State → Outcome → State → Prop} {mc ms : Nat} {free : Addr → Prop} {cc : ByteArray} {maxL : Nat} {ret : Option FieldType} {hh : List (Nat × Nat × Nat × Nat)}
    (hy : plainName y.cls = true) (hw : ws = Cond.codeWith y cc maxL ret hh :: ws')
    (body : ∀ p e s m args below meth c s₁, BodyLoose p l y (headSpec ws rm) cc maxL ret e s m args below meth c s₁ → c.maxLocals = maxL → c.exceptionTable.toList.map (fun h => (h.startPc, h.endPc, h.handlerPc, h.catchType)) = hh → Pc args s →
      W p l e (headSpec ws rm).room s m args below meth c s.heap [] 0 0 (MQ below Qc args s mc ms free) (entryFrame m args maxL)) : Met l y ws rm Pc Qc mc ms free := by
  refine va_MetW (hh := hh) hy hw ?_
  intro p e s m args below meth c s₁ B hml hP
  obtain ⟨m9, meth2, c2, hn9, h1, h2, -, -, h3, -⟩ := Cond.codeWith_spec (atoms_spec (ws := ws) B.pre _ (by rw [hw]; exact List.mem_cons_self))
  cases B.named.symm.trans hn9
  cases B.method.symm.trans h1
  have X0 := Stand.of_body B
  cases X0.code.symm.trans h2
  exact body p e s m args below meth c s₁ B hml h3 hP
section TW
variable {p : Program} {l : Launch} {e : Env} {R : Room} {s : State} {m : MethodId} {args : Array Value} {below : List Frame} {meth : Method} {c : Code} {H : Heap} {locs : List Loc} {cells slots : Nat} {Q : State → Prop}
variable {pc : Nat} {ls : Array Slot} {rest st0 : List Value} {mc ms : Nat} {D : va_G} {wc : va_W}
variable {y : MethodName} {bytes cc : ByteArray} {maxL nL n index : Nat} {ret : Option FieldType} {rm : Room} {Qc : Array Value → State → Outcome → State → Prop} {free : Addr → Prop} {own : String} {As : List Value} {tc : List (ClassId × FieldType)} {Ac : Nat → Prop} {X : State → Prop} {hh : List (Nat × Nat × Nat × Nat)}
theorem rSW (F : CallFix p m c cc nL s args gw own) (hkw : kw s) (hM : Met l y (Cond.codeWith y bytes maxL ret hh :: gw) rm (cP D As H.size wc tc X) Qc mc ms free) (hX : xBl X) (hX2 : ∀ U : State, U.heap = H → s.WarmedH U.vm → X U)
    (h1 : Cond.methodLink own index y ∈ gw) (h2 : Cond.static y ∈ gw) (h4 : Cond.initialized y.cls ∈ gw) (h5 : Cond.codeWith y bytes maxL ret hh ∈ gw) (hrc : rm.cells = mc) (hrs : rm.slots = ms)
    (hd : y.cls ≠ "java/lang/invoke/MethodHandle" ∧ y.cls ≠ "java/lang/invoke/VarHandle" ∧ (parseMethodDescriptor y.desc).map (fun d => d.parameters.length) = some n) (hR : rm.frames + 1 ≤ R.frames ∧ 8 + (maxL + 11) + rm.locals ≤ R.locals)
    (hP : va_P D cls wc H) (hD : va_D Ac wc) (hK : va_K D cls tc s)
    (hn : As.length = n) (hsize : ls.size = nL) (hstack : st0 = As.reverse ++ rest) (hW : (rest.map fun v => v.category).sum ≤ 8) (hdg : decode cc pc = .ok (.invokestatic index, 3)) (hf : cells + mc ≤ R.cells ∧ slots + ms ≤ R.slots) :
    va_Run p l e R s m args below meth c H locs cells slots mc ms (F0 m pc ls st0) rest (Qc As.toArray) free := by
  obtain ⟨hx, hb, hml, ho, hts⟩ := F
  have hini := hts _ h4
  have hK9 : Back l R p e below s args y 3 8 (PreOf R mc ms (cP D As H.size wc tc X)) (PostOf Qc mc ms free) := va_backW (hh := hh) (bytes := bytes) (maxL := maxL) (ret := ret) hM (cP.blind hX) hrc hrs hR.1 hR.2 (pay_in hts (gi h5)) List.mem_cons_self (fun a' U hW => word_at hW (Or.inl (by first | rfl | simp [Cond.onTables, Cond.keeps, Cond.steady])) hini)
  have hPc := cP.pre (av := As) hP hD hK hkw hX2
  intro T hT Y
  obtain ⟨mk, methM, cM, hnamed, hmethM, -, -, -, -, -, -, hsigM⟩ := Cond.codeWith_spec (hts _ h5)
  have hstatic : methM.isStatic = true := Cond.static_spec hnamed hmethM (hts _ h2)
  obtain ⟨kP, hkP, -⟩ := className_of_methodNamed hnamed
  have hinitP : kP.init = .initialized := Cond.initialized_spec (findClass_of_methodNamed hnamed) hkP hini
  have hlen : As.length = methM.sig.parameters.length := by
    have h9 := hd.2.2
    rw [hsigM] at h9
    rw [hn]
    exact (Option.some.inj h9).symm
  subst hb
  obtain ⟨vm₁, Y₁, hstep₁⟩ := Y.invokestatic hx ho (hts _ h1) hnamed hmethM hstatic hkP hinitP ⟨hd.1, hd.2.1⟩ (g := F0 m pc ls st0) rfl (argsL := As) (rest := rest) hlen hstack hdg
  obtain ⟨v, ⟨U', l2, c2, s2⟩, X', ⟨g', mk', t, L, e1, e2, hq, g1, hL, g2, g3⟩, hsteps⟩ := hK9 m meth c ⟨T.setVm vm₁, locs, cells, slots⟩ (F0 m pc ls rest) (.invokestatic index) mk As.toArray Y₁ rfl (hsize.trans hml.symm) hdg (lv_room hW) (Y₁.named hnamed) ⟨hf.1, hf.2, hPc (T.setVm vm₁) hT Y₁.warmed⟩
  dsimp only [Pt.U, Pt.locs, Pt.cells, Pt.slots] at X' e1 e2 g1 g2 g3 hsteps
  subst g1; subst g2; subst g3
  exact ⟨v, (T.setVm vm₁).calling g' mk' As.toArray, t, U', L, hT, X', hL, e1, e2, hq, fun target h => hstep₁ _ fun acts => by rw [doInvoke_state]; exact hsteps.trans h⟩
end TW
theorem nilP {D : va_G} {H : Heap} : va_P D cls [] H := fun k q h => by cases h
theorem nilD {A : Nat → Prop} : va_D A [] := ⟨fun i j p q h => (by cases h), fun k q h => (by cases h)⟩
/-! what the throwing of an exception asks of the statics of Throwable -/
def zS (n d : String) (U : State) (H : Heap) : Prop := ∃ (c : ClassId) (k : Class) (i : Nat) (f : Field) (a : Nat) (cell : Cell) (v : Value), U.vm.findClass Bundle.tN = some c ∧ U.fieldFound? Bundle.tN n d = some (c, k, i, f) ∧ f.isStatic = true ∧ k.statics = some a ∧ H[a]? = some cell ∧ cell.vm.isStatics = true ∧ cell.cls = c ∧ f.slot < cell.slots.size ∧ k.staticTypes[f.slot]? = some f.type ∧ cell.slots[f.slot]? = some v ∧ v.isRef = true
theorem zS.kept {n d : String} {U : State} {H H1 : Heap} (h : zS n d U H) (hq : ∀ q : Nat, q < H.size → H1[q]? = H[q]?) : zS n d U H1 := by
  obtain ⟨c, k, i, f, a, cell, v, h1, h2, h3, h4, h5, h6⟩ := h
  exact ⟨c, k, i, f, a, cell, v, h1, h2, h3, h4, by rw [hq a (Array.getElem?_eq_some_iff.mp h5).1]; exact h5, h6⟩
theorem zS.moved {n d : String} {u U : State} {H : Heap} (hvm : u.vm.Alike U.vm) (h : zS n d u H) : zS n d U H := by
  obtain ⟨c, k, i, f, a, cell, v, h1, h2, h3, h4, h5, h6, h7, h8, h9, h10⟩ := h
  obtain ⟨k', hi', he⟩ := State.fieldFound?_setVm hvm h2
  exact ⟨c, k', i, f, a, cell, v, by rw [hvm.findClass]; exact h1, hi', h3, by rw [he]; exact h4, h5, h6, h7, h8, by rw [he]; exact h9, h10⟩
theorem zS.lays {n d : String} {s : State} {args : Array Value} (h : zS n d s s.heap) : (Cond.laysStatic Bundle.tN n d).before args s = true := by
  obtain ⟨c, k, i, f, a, cell, v, h1, h2, h3, h4, h5, h6, h7, h8, h9, h10⟩ := h
  simp [Cond.before, Cond.holds, Cond.value, h1, h2, h3, h4, h5, h6, h7, h8, h9]
theorem zS.isRef {n d : String} {s : State} {args : Array Value} (h : zS n d s s.heap) : (Cond.isRef (.static Bundle.tN n d)).before args s = true := by
  obtain ⟨c, k, i, f, a, cell, v, h1, h2, h3, h4, h5, h6, h7, h8, h9, h10, h11⟩ := h
  have e : (Term.static Bundle.tN n d).eval args s none [] s = some v := by
    simp [Term.eval, State.fieldNamed?, h2, h3, h4, h5, h6, h10]
  cases v <;> simp_all [Cond.before, Cond.holds, Cond.value, Value.isRef]
theorem zS.of {n d : String} {s : State} {args : Array Value} (hl : (Cond.laysStatic Bundle.tN n d).before args s = true) (hr : (Cond.isRef (.static Bundle.tN n d)).before args s = true) : zS n d s s.heap := by
  obtain ⟨c, k, i, f, a, cell, hc, hi, hst, ha, hcell, hs, hcls, hlt, hty⟩ := Cond.laysStatic_spec hl
  cases hv : (Term.static Bundle.tN n d).eval args s none [] s with
  | none => simp [Cond.before, Cond.holds, Cond.value, hv] at hr
  | some w =>
    obtain ⟨hst', a', cell', ha', hcell', -, hslot⟩ := Term.static_spec hi hv
    cases ha.symm.trans ha'
    cases hcell.symm.trans hcell'
    refine ⟨c, k, i, f, a, cell, w, hc, hi, hst, ha, hcell, hs, hcls, hlt, hty, hslot, ?_⟩
    cases w <;> simp_all [Cond.before, Cond.holds, Cond.value, Value.isRef]
def xE (k : Nat) (tx : String) (q : Nat) : State → Prop := fun U => vk_R "LineDisk" k tx q U ∧ zS "UNASSIGNED_STACK" Bundle.steD U U.heap ∧ zS "SUPPRESSED_SENTINEL" Bundle.listD U U.heap
theorem xE_bl {k : Nat} {tx : String} {q : Nat} : xBl (xE k tx q) := fun U g mk a h => ⟨vk_R.same (u := U) (U := U.calling g mk a) rfl h.1, zS.moved (u := U) (U := U.calling g mk a) (Vm.Alike.refl U.vm) h.2.1, zS.moved (u := U) (U := U.calling g mk a) (Vm.Alike.refl U.vm) h.2.2⟩
theorem xE_of {k : Nat} {tx : String} {q : Nat} {s : State} {H : Heap} (h : xE k tx q s) (hq : ∀ q : Nat, q < s.heap.size → H[q]? = s.heap[q]?) : ∀ U : State, U.heap = H → s.WarmedH U.vm → xE k tx q U :=
  fun U hU hW => ⟨vk_R.warm hW h.1, by rw [hU]; exact zS.moved hW.alike (h.2.1.kept hq), by rw [hU]; exact zS.moved hW.alike (h.2.2.kept hq)⟩
def hz : List Cond := [.laysStatic Bundle.tN "UNASSIGNED_STACK" Bundle.steD, .laysStatic Bundle.tN "SUPPRESSED_SENTINEL" Bundle.listD, .isRef (.static Bundle.tN "UNASSIGNED_STACK" Bundle.steD), .isRef (.static Bundle.tN "SUPPRESSED_SENTINEL" Bundle.listD)]
theorem hz_all {s : State} {args : Array Value} (h1 : zS "UNASSIGNED_STACK" Bundle.steD s s.heap) (h2 : zS "SUPPRESSED_SENTINEL" Bundle.listD s s.heap) : ∀ a ∈ hz, a.before args s = true := by
  intro a ha
  simp only [hz, List.mem_cons, List.not_mem_nil, or_false] at ha
  rcases ha with rfl | rfl | rfl | rfl
  · exact h1.lays
  · exact h2.lays
  · exact h1.isRef
  · exact h2.isRef
def own_ok (a : Cond) : Bool := (tables_1.contains a && (goodWord a || nw_ok a)) || hz.contains a
theorem own_all {l : List Cond} (hl : l.all own_ok = true) {s : State} {args : Array Value} (hts : ∀ w ∈ gw, w.before args s = true) (hkw : kw s) (h1 : zS "UNASSIGNED_STACK" Bundle.steD s s.heap) (h2 : zS "SUPPRESSED_SENTINEL" Bundle.listD s s.heap) : ∀ a ∈ l, a.before args s = true := by
  intro a ha
  have h := List.all_eq_true.mp hl a ha
  simp only [own_ok, Bool.or_eq_true, Bool.and_eq_true, List.contains_iff_mem] at h
  rcases h with ⟨hm, hg | hn⟩ | hm
  · exact hts a (List.mem_filter.mpr ⟨List.mem_append_right _ hm, hg⟩)
  · exact va_Nw.use (nw_tab hn) (hkw a hm hn)
  · exact hz_all h1 h2 a hm
theorem own_arm : (Bundle.ownAtoms "LineDisk" 114 "java/lang/IllegalArgumentException" ["java/lang/RuntimeException", "java/lang/Exception"]).all own_ok = true := by decide +kernel
theorem own_out : (Bundle.ownAtoms "LineDisk" 121 "java/lang/IndexOutOfBoundsException" ["java/lang/RuntimeException", "java/lang/Exception"]).all own_ok = true := by decide +kernel
theorem cell_congr {cA : ClassId} {n : Nat} {f g : Nat → Int32} (h : ∀ i, i < n → f i = g i) : vp_cell cA (n, .inl f) = vp_cell cA (n, .inl g) := by
  rw [vp_cell_i, vp_cell_i]
  unfold arrV
  congr 1
  apply Array.ext_getElem?
  intro i
  simp only [Array.getElem?_ofFn]
  split
  · rename_i hi
    rw [h i hi]
  · rfl
