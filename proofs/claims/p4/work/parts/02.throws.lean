/-! Methods that throw: their contracts, their walk to the throw, a call of one from a method whose table catches it. -/
/-- the end of a method that throws a new X: nothing that was there has changed -/
def th_Q (X : String) (k n : Nat) (st : State) (o : Outcome) (t : State) : Prop :=
  ∃ a : Addr, o = .threw a ∧ (∃ ce : Cell, t.heap[a]? = some ce ∧ ce.vm.isStatics = false ∧ st.vm.findClass X = some ce.cls) ∧ st.WarmedH t.vm ∧ st.sameButNew ({ t with vm := st.vm } : State) [] k n
def th_Met (l : Launch) (y : MethodName) (ws : List Cond) (rm : Room) (Pc : Array Value → State → Prop) (X : String) : Prop :=
  MetFree l y (headSpec ws rm) Pc (fun _ _ _ _ _ => True) (fun _ st o t => th_Q X rm.cells rm.slots st o t)
def th_Z (below : List Frame) (X : String) (k n : Nat) (s : State) : State → Prop := fun t => ∃ o, t.status = .running ∧ Ended t below o ∧ th_Q X k n s o t
theorem th_ofW {l : Launch} {y : MethodName} {ws ws' : List Cond} {rm : Room} {Pc : Array Value → State → Prop} {X : String} {cc : ByteArray} {maxL : Nat} {ret : Option FieldType}
    (hy : plainName y.cls = true) (hw : ws = Cond.code y cc maxL ret :: ws')
    (body : ∀ p e s m args below meth c s₁, BodyLoose p l y (headSpec ws rm) cc maxL ret e s m args below meth c s₁ → c.maxLocals = maxL → c.exceptionTable.toList = [] → Pc args s →
      W p l e (headSpec ws rm).room s m args below meth c s.heap [] 0 0 (th_Z below X rm.cells rm.slots s) (entryFrame m args maxL)) : th_Met l y ws rm Pc X := by
  refine MetFree.of_bodyS (code := cc) (maxLocals := maxL) (ret := ret) hy ?_ ?_
  · intro args s m h hn
    obtain ⟨meth, c, h1, h2, h3, h4, h5, h6, -, -⟩ := Cond.code_spec hn (atoms_spec (ws := ws) h _ (by rw [hw]; exact List.mem_cons_self))
    exact ⟨meth, c, h1, h2, h3, h4, h5, h6⟩
  · intro p e s m args below meth c s₁ B hml hP _
    have hh0 : s₁.heap = s.heap := by rw [B.state]; rfl
    obtain ⟨meth2, c2, h1, h2, -, -, -, -, h7, -⟩ := Cond.code_spec B.named (atoms_spec (ws := ws) B.pre _ (by rw [hw]; exact List.mem_cons_self))
    have e1 : meth = meth2 := Option.some.inj (B.method.symm.trans h1)
    subst e1
    have X0 : Stand p l e (headSpec ws rm).room s m args below meth c s₁ [] 0 0 := Stand.of_body B
    have e2 : c = c2 := Option.some.inj (X0.code.symm.trans h2)
    subst e2
    have htab : c.exceptionTable.toList = [] := by
      have h8 : c.exceptionTable = #[] := by simpa using h7
      rw [h8]
    obtain ⟨t, a1, o, b1, b2, b3⟩ := body p e s m args below meth c s₁ B hml htab hP s₁ hh0 X0
    exact ⟨t, o, a1, b1, b2, b3⟩
/-- old cells are as they were where no slot of an old cell may have been written -/
theorem th_kept {s t : State} {k n : Nat} (h : s.sameButNew t [] k n) : s.heap.size ≤ t.heap.size ∧ ∀ q : Nat, q < s.heap.size → t.heap[q]? = s.heap[q]? := by
  obtain ⟨-, h2, -, -, -, h6⟩ := h
  refine ⟨h2, fun q hq => ?_⟩
  obtain ⟨c', e1, e2, e3, e4⟩ := h6 q s.heap[q] (Array.getElem?_eq_getElem hq)
  rw [e1, Array.getElem?_eq_getElem hq]
  have e5 : c'.slots = (s.heap[q]).slots := by
    apply Array.ext_getElem?
    intro i
    exact e4 i (by simp)
  rw [e2, e5]
section TH
variable {p : Program} {l : Launch} {e : Env} {R : Room} {s : State} {m : MethodId} {args : Array Value} {below : List Frame} {meth : Method} {c : Code} {H : Heap} {locs : List Loc} {cells slots : Nat} {Q : State → Prop}
variable {cc : ByteArray} {pc : Nat} {ls : Array Slot}
/-- new X; dup; ldc; X(String); athrow, in a method without a table: it ends so -/
theorem th_throw (hexec : p.tables.exec = Jvm.exec) (hb : c.code = cc) (htr : e.platform.stackTraces = false) {own X tx : String} {names : List String} {ia ib ic q k n : Nat}
    (hown : s.vm.findClass own = some m.cls) (hX : Bundle.fit X = true) (hnames : ∀ n ∈ names, Bundle.fit n = true) (h : ∀ a ∈ Bundle.ownAtoms own ic X names, a.before args s = true)
    (hcl : (Cond.classLink own ia X).before args s = true) (hini : (Cond.initialized X).before args s = true) (hZ : vk_R own ib tx q s)
    (hsize : ls.size = c.maxLocals) (htab : c.exceptionTable.toList = []) (hlocks : meth.locks = false)
    (hc : 1 ≤ R.cells) (hs : 6 ≤ R.slots) (hk : 1 ≤ k) (hn : 6 ≤ n) (hRf : names.length + 3 < R.frames) (hRl : 1 + (13 * (names.length + 1) + 42) ≤ R.locals)
    (d0 : decode cc pc = .ok (.new ia, 3)) (d3 : decode cc (pc + 3) = .ok (.dup, 1)) (d4 : decode cc (pc + 4) = .ok (.ldc ib, 2)) (d6 : decode cc (pc + 6) = .ok (.invokespecial ic, 3)) (d9 : decode cc (pc + 9) = .ok (.athrow, 1)) :
    W p l e R s m args below meth c s.heap [] 0 0 (th_Z below X k n s) (F0 m pc ls []) := by
  have hinst : (Cond.instantiable X 6).before args s = true := h _ (by simp [Bundle.ownAtoms])
  refine W.newc hexec hb hown hcl hinst hini rfl d0 (by omega) (by omega) fun cC kC h1 h2 h3 h4 => ?_
  refine W.eq (g2 := F0 m (pc + 3) ls [.ref s.heap.size]) rfl ?_
  refine lv_dup hexec hb d3 rfl ?_
  refine va_ldcS hexec hb hown hZ d4 ?_
  intro T hT Y
  subst hb
  obtain ⟨U, st, hrun, hend, hW, hsame, ce, hce, hO⟩ := Y.ctorThrowS hexec htr (own := own) (cls := X) (names := names) (ic := ic) hown hX hnames h (fun x hx => by cases hx) (a := s.heap.size) (cX := cC) (kX := kC) h1 h2
    (by rw [hT]; simp [freshCell]) (Nat.le_refl _) (msg := .ref q) rfl (g := F0 m (pc + 3 + 1 + 2) ls [.ref q, .ref s.heap.size, .ref s.heap.size]) rfl hsize rfl rfl (rest := []) rfl d6 d9 (fun x hx => by rw [htab] at hx; cases hx) hRf
    (by simpa [JFrame.monitorRoom, Value.category] using hRl) hlocks
  exact ⟨U, st, .threw s.heap.size, hrun, hend, s.heap.size, rfl, ⟨ce, hce, by rw [hO.vm]; rfl, hO.cls⟩, hW, hsame.mono (by omega) (by omega)⟩
end TH
