/-! a method's start and end by worlds; calls, with the join behind them -/
def cP (D : va_G) (av : List Value) (sz : Nat) (ws : va_W) (tys : List (ClassId × FieldType)) (X : State → Prop) : Array Value → State → Prop :=
  va_Pc av (fun U => U.heap.size = sz ∧ va_P D cls ws U.heap ∧ va_K D cls tys U ∧ va_D (fun _ => True) ws ∧ kw U ∧ X U)
def cB (D : va_G) (A : Nat → Prop) (ws : va_W) (tys : List (ClassId × FieldType)) (t : State) : Prop := va_P D cls ws t.heap ∧ va_K D cls tys t ∧ va_D A ws
def xT : State → Prop := fun _ => True
def xBl (X : State → Prop) : Prop := ∀ (U : State) (g : JFrame) (mk : MethodId) (a : Array Value), X U → X (U.calling g mk a)
theorem xT_bl : xBl xT := fun _ _ _ _ _ => trivial
theorem cP.blind {D : va_G} {av : List Value} {sz : Nat} {ws : va_W} {tys : List (ClassId × FieldType)} {X : State → Prop} (hX : xBl X) : FrameBlind (cP D av sz ws tys X) := by
  intro a U g mk q
  obtain ⟨q0, q1, qP, qK, qD, qW, qX⟩ := q
  exact ⟨q0, q1, qP, va_K.moved (u := U) (U := U.calling g mk a) (Vm.Alike.refl U.vm) qK, qD, kw.same (u := U) rfl qW, hX _ _ _ _ qX⟩
theorem cP.pre {D : va_G} {av : List Value} {A : Nat → Prop} {ws : va_W} {tys : List (ClassId × FieldType)} {s : State} {H : Heap} {X : State → Prop} (hP : va_P D cls ws H) (hD : va_D A ws) (hK : va_K D cls tys s) (hkw : kw s) (hX : ∀ U : State, U.heap = H → s.WarmedH U.vm → X U) : ∀ U : State, U.heap = H → s.WarmedH U.vm → cP D av H.size ws tys X av.toArray U :=
  fun U hU hW => ⟨rfl, by rw [hU], by rw [hU]; exact hP, va_K.moved hW.alike hK, hD.weaken (fun _ _ _ _ => trivial), kw.warm hW hkw, hX U hU hW⟩
theorem cB.of {D : va_G} {A : Nat → Prop} {ws : va_W} {tys : List (ClassId × FieldType)} {s t : State} {H : Heap} (hP : va_P D cls ws H) (hD : va_D A ws) (hK : va_K D cls tys s) (ht : t.heap = H) (hW : s.WarmedH t.vm) : cB D A ws tys t := ⟨by rw [ht]; exact hP, va_K.moved hW.alike hK, hD⟩
section CALLS
variable {p : Program} {l : Launch} {e : Env} {R : Room} {s : State} {m : MethodId} {args : Array Value} {below : List Frame} {meth : Method} {c : Code} {H : Heap} {locs : List Loc} {cells slots : Nat} {Q : State → Prop}
variable {pc : Nat} {ls : Array Slot} {rest st0 : List Value} {a : Array Value} {A : Nat → Prop} {mc ms : Nat} {D : va_G} {ws wc wr : va_W} {tys tr : List (ClassId × FieldType)}
theorem go_v {S : Type} {post : S → Prop} {w1 : S → va_W} {t1 : S → List (ClassId × FieldType)} (hr : va_Run p l e R s m args below meth c H locs cells slots mc ms (F0 m pc ls st0) rest (va_Qv post (fun u t => cB D (va_A wc H.size) (w1 u) (t1 u) t) (va_A wc H.size) a) (va_A wc H.size))
    (hP : va_P D cls ws H) (hD : va_D A ws) (hK : va_K D cls tys s) (hS : va_S A s.heap H locs) (hA : ∀ q : Nat, s.heap.size ≤ q → A q) (isC isR isT : List Nat) (hC : isC.map (fun i => ws[i]?) = wc.map some) (hR : isR.map (fun i => ws[i]?) = wr.map some) (hn : va_nd isR = true) (hdis : ∀ i ∈ isR, i ∉ isC) (hT : isT.filterMap (fun i => tys[i]?) = tr)
    (kk : ∀ (u : S) (H1 : Heap) (locs1 : List Loc), post u → va_P D cls (wr ++ w1 u) H1 → va_D A (wr ++ w1 u) → va_K D cls (tr ++ t1 u) s → va_S A s.heap H1 locs1 → W p l e R s m args below meth c H1 locs1 (cells + mc) (slots + ms) Q (F0 m (pc + 3) ls rest)) : W p l e R s m args below meth c H locs cells slots Q (F0 m pc ls st0) := by
  have hF := va_free hD hS hA isC hC
  refine va_callv hr hS (fun q _ h => hF q h) hF (fun u t H1 locs1 ht hvm hp hB hz1 hk1 hS1 => ?_)
  obtain ⟨hP1, hK1, hD1⟩ := hB
  rw [ht] at hP1
  obtain ⟨hP2, hD2⟩ := va_join hP hD isC isR hC hR hn hdis hk1 hF hP1 hD1
  exact kk u H1 locs1 hp hP2 hD2 ((hK.sub isT hT).app (va_K.moved hvm.symm hK1)) hS1
theorem go_i {S : Type} {post : Int32 → S → Prop} {w1 : S → va_W} {t1 : S → List (ClassId × FieldType)} (hr : va_Run p l e R s m args below meth c H locs cells slots mc ms (F0 m pc ls st0) rest (va_Qi post (fun u t => cB D (va_A wc H.size) (w1 u) (t1 u) t) (va_A wc H.size) a) (va_A wc H.size))
    (hP : va_P D cls ws H) (hD : va_D A ws) (hK : va_K D cls tys s) (hS : va_S A s.heap H locs) (hA : ∀ q : Nat, s.heap.size ≤ q → A q) (isC isR isT : List Nat) (hC : isC.map (fun i => ws[i]?) = wc.map some) (hR : isR.map (fun i => ws[i]?) = wr.map some) (hn : va_nd isR = true) (hdis : ∀ i ∈ isR, i ∉ isC) (hT : isT.filterMap (fun i => tys[i]?) = tr)
    (kk : ∀ (r : Int32) (u : S) (H1 : Heap) (locs1 : List Loc), post r u → va_P D cls (wr ++ w1 u) H1 → va_D A (wr ++ w1 u) → va_K D cls (tr ++ t1 u) s → va_S A s.heap H1 locs1 → W p l e R s m args below meth c H1 locs1 (cells + mc) (slots + ms) Q (F0 m (pc + 3) ls (.int r :: rest))) : W p l e R s m args below meth c H locs cells slots Q (F0 m pc ls st0) := by
  have hF := va_free hD hS hA isC hC
  refine va_calli hr hS (fun q _ h => hF q h) hF (fun r u t H1 locs1 ht hvm hp hB hz1 hk1 hS1 => ?_)
  obtain ⟨hP1, hK1, hD1⟩ := hB
  rw [ht] at hP1
  obtain ⟨hP2, hD2⟩ := va_join hP hD isC isR hC hR hn hdis hk1 hF hP1 hD1
  exact kk r u H1 locs1 hp hP2 hD2 ((hK.sub isT hT).app (va_K.moved hvm.symm hK1)) hS1
variable {y : MethodName} {bytes cc : ByteArray} {maxL nL n index ci q0 sz : Nat} {ret : Option FieldType} {rm : Room} {Qc : Array Value → State → Outcome → State → Prop} {free : Addr → Prop} {own C host : String} {b : Nat} {As : List Value} {tc : List (ClassId × FieldType)} {fs : List Value} {r0 : vw_C} {Ac : Nat → Prop} {X : State → Prop}
theorem rV (F : CallFix p m c cc nL s args gw own) (hkw : kw s) (hM : Met l y (Cond.code y bytes maxL ret :: gw) rm (cP D (.ref b :: As) H.size wc tc X) Qc mc ms free) (hX : xBl X) (hX2 : ∀ U : State, U.heap = H → s.WarmedH U.vm → X U)
    (h1 : Cond.methodLink own index y ∈ gw) (h2 : Cond.instanceMethod y ∈ gw) (h3 : Cond.selects C y y ∈ gw) (h4 : Cond.initialized C ∈ gw) (h5 : Cond.code y bytes maxL ret ∈ gw) (hrc : rm.cells = mc) (hrs : rm.slots = ms)
    (hd : y.cls = C ∧ y.cls ≠ "java/lang/invoke/MethodHandle" ∧ y.cls ≠ "java/lang/invoke/VarHandle" ∧ (parseMethodDescriptor y.desc).map (fun d => d.parameters.length) = some n) (hR : rm.frames + 1 ≤ R.frames ∧ 8 + (maxL + 11) + rm.locals ≤ R.locals)
    (hP : va_P D cls wc H) (hD : va_D Ac wc) (hK : va_K D cls tc s) (hc : cls[ci]? = some r0) (he : wc[q0]? = some (b, .inr (ci, fs))) (hq : r0.1 = C)
    (hn : As.length = n) (hsize : ls.size = nL) (hstack : st0 = As.reverse ++ .ref b :: rest) (hW : (rest.map fun v => v.category).sum ≤ 8) (hdg : decode cc pc = .ok (.invokevirtual index, 3)) (hf : cells + mc ≤ R.cells ∧ slots + ms ≤ R.slots) :
    va_Run p l e R s m args below meth c H locs cells slots mc ms (F0 m pc ls st0) rest (Qc (Value.ref b :: As).toArray) free := by
  have hrv := va_recv hK hP hc he
  rw [hq] at hrv
  exact va_runV F hM (cwV n F.2.2.2.2 (gv h1 h2 h3 h4 h5) rfl hrc hrs hd hR) ⟨cP.blind hX, hrv, cP.pre hP hD hK hkw hX2⟩ rfl hn hsize hstack (lv_room hW) hdg hf
theorem rI (F : CallFix p m c cc nL s args gw own) (hkw : kw s) (hM : Met l y (Cond.code y bytes maxL none :: gw) rm (cP D (.ref b :: As) H.size wc tc X) Qc mc ms free) (hX : xBl X) (hX2 : ∀ U : State, U.heap = H → s.WarmedH U.vm → X U)
    (h1 : Cond.methodLink own index y ∈ gw) (h2 : Cond.instanceMethod y ∈ gw) (h4 : Cond.initialized y.cls ∈ gw) (h5 : Cond.code y bytes maxL none ∈ gw) (hrc : rm.cells = mc) (hrs : rm.slots = ms) (hy : y.name = "<init>")
    (hd : y.cls ≠ "java/lang/invoke/MethodHandle" ∧ y.cls ≠ "java/lang/invoke/VarHandle" ∧ (parseMethodDescriptor y.desc).map (fun d => d.parameters.length) = some n) (hR : rm.frames + 1 ≤ R.frames ∧ 8 + (maxL + 11) + rm.locals ≤ R.locals)
    (hP : va_P D cls wc H) (hD : va_D Ac wc) (hK : va_K D cls tc s)
    (hn : As.length = n) (hsize : ls.size = nL) (hstack : st0 = As.reverse ++ .ref b :: rest) (hW : (rest.map fun v => v.category).sum ≤ 8) (hdg : decode cc pc = .ok (.invokespecial index, 3)) (hf : cells + mc ≤ R.cells ∧ slots + ms ≤ R.slots) :
    va_Run p l e R s m args below meth c H locs cells slots mc ms (F0 m pc ls st0) rest (Qc (Value.ref b :: As).toArray) free :=
  va_runI F hM (cwI n F.2.2.2.2 (gi h5) rfl hrc hrs (F.2.2.2.2 _ h4) (F.2.2.2.2 _ h1) (F.2.2.2.2 _ h2) hy hd hR) ⟨cP.blind hX, cP.pre hP hD hK hkw hX2⟩ rfl hn hsize hstack (lv_room hW) hdg hf
theorem rIN (F : CallFix p m c cc nL s args gw own) (hkw : kw s) (hM : Met l y (Cond.code y bytes maxL none :: gw) rm (cP D (.ref b :: As) H.size wc tc X) Qc mc ms free) (hX : xBl X) (hX2 : ∀ U : State, U.heap = H → s.WarmedH U.vm → X U)
    (h1 : va_Nw (.methodLinkNest own index y host) s) (h2 : Cond.instanceMethod y ∈ gw) (h4 : Cond.initialized y.cls ∈ gw) (h5 : Cond.code y bytes maxL none ∈ gw) (hrc : rm.cells = mc) (hrs : rm.slots = ms) (hy : y.name = "<init>")
    (hd : y.cls ≠ "java/lang/invoke/MethodHandle" ∧ y.cls ≠ "java/lang/invoke/VarHandle" ∧ (parseMethodDescriptor y.desc).map (fun d => d.parameters.length) = some n) (hR : rm.frames + 1 ≤ R.frames ∧ 8 + (maxL + 11) + rm.locals ≤ R.locals)
    (hP : va_P D cls wc H) (hD : va_D Ac wc) (hK : va_K D cls tc s)
    (hn : As.length = n) (hsize : ls.size = nL) (hstack : st0 = As.reverse ++ .ref b :: rest) (hW : (rest.map fun v => v.category).sum ≤ 8) (hdg : decode cc pc = .ok (.invokespecial index, 3)) (hf : cells + mc ≤ R.cells ∧ slots + ms ≤ R.slots) :
    va_Run p l e R s m args below meth c H locs cells slots mc ms (F0 m pc ls st0) rest (Qc (Value.ref b :: As).toArray) free :=
  va_runIN F hM ⟨va_cnB n F.2.2.2.2 (gi h5) rfl hrc hrs h1 (F.2.2.2.2 _ h4) hd hR, hy, F.2.2.2.2 _ h2⟩ ⟨cP.blind hX, cP.pre hP hD hK hkw hX2⟩ rfl hn hsize hstack (lv_room hW) hdg hf
theorem rS (F : CallFix p m c cc nL s args gw own) (hkw : kw s) (hM : Met l y (Cond.code y bytes maxL ret :: gw) rm (cP D As H.size wc tc X) Qc mc ms free) (hX : xBl X) (hX2 : ∀ U : State, U.heap = H → s.WarmedH U.vm → X U)
    (h1 : Cond.methodLink own index y ∈ gw) (h2 : Cond.static y ∈ gw) (h4 : Cond.initialized y.cls ∈ gw) (h5 : Cond.code y bytes maxL ret ∈ gw) (hrc : rm.cells = mc) (hrs : rm.slots = ms)
    (hd : y.cls ≠ "java/lang/invoke/MethodHandle" ∧ y.cls ≠ "java/lang/invoke/VarHandle" ∧ (parseMethodDescriptor y.desc).map (fun d => d.parameters.length) = some n) (hR : rm.frames + 1 ≤ R.frames ∧ 8 + (maxL + 11) + rm.locals ≤ R.locals)
    (hP : va_P D cls wc H) (hD : va_D Ac wc) (hK : va_K D cls tc s)
    (hn : As.length = n) (hsize : ls.size = nL) (hstack : st0 = As.reverse ++ rest) (hW : (rest.map fun v => v.category).sum ≤ 8) (hdg : decode cc pc = .ok (.invokestatic index, 3)) (hf : cells + mc ≤ R.cells ∧ slots + ms ≤ R.slots) :
    va_Run p l e R s m args below meth c H locs cells slots mc ms (F0 m pc ls st0) rest (Qc As.toArray) free :=
  va_runS F hM (va_cwS n F.2.2.2.2 (gs h1 h2 h4 h5) rfl hrc hrs hd hR) ⟨cP.blind hX, cP.pre hP hD hK hkw hX2⟩ rfl hn hsize hstack (lv_room hW) hdg hf
end CALLS
