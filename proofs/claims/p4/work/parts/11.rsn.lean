section RSN
variable {p : Program} {l : Launch} {e : Env} {R : Room} {s : State} {m : MethodId} {args : Array Value} {below : List Frame} {meth : Method} {c : Code} {H : Heap} {locs : List Loc} {cells slots : Nat}
variable {pc : Nat} {ls : Array Slot} {rest st0 : List Value} {mc ms : Nat} {D : va_G} {wc : va_W}
variable {y : MethodName} {bytes cc : ByteArray} {maxL nL n index : Nat} {ret : Option FieldType} {rm : Room} {Qc : Array Value → State → Outcome → State → Prop} {free : Addr → Prop} {own host : String} {As : List Value} {tc : List (ClassId × FieldType)} {Ac : Nat → Prop} {X : State → Prop}
theorem rSN (F : CallFix p m c cc nL s args gw own) (hkw : kw s) (hM : Met l y (Cond.code y bytes maxL ret :: gw) rm (cP D As H.size wc tc X) Qc mc ms free) (hX : xBl X) (hX2 : ∀ U : State, U.heap = H → s.WarmedH U.vm → X U)
    (h1 : va_Nw (.methodLinkNest own index y host) s) (h2 : Cond.static y ∈ gw) (h4 : Cond.initialized y.cls ∈ gw) (h5 : Cond.code y bytes maxL ret ∈ gw) (hrc : rm.cells = mc) (hrs : rm.slots = ms)
    (hd : y.cls ≠ "java/lang/invoke/MethodHandle" ∧ y.cls ≠ "java/lang/invoke/VarHandle" ∧ (parseMethodDescriptor y.desc).map (fun d => d.parameters.length) = some n) (hR : rm.frames + 1 ≤ R.frames ∧ 8 + (maxL + 11) + rm.locals ≤ R.locals)
    (hP : va_P D cls wc H) (hD : va_D Ac wc) (hK : va_K D cls tc s)
    (hn : As.length = n) (hsize : ls.size = nL) (hstack : st0 = As.reverse ++ rest) (hW : (rest.map fun v => v.category).sum ≤ 8) (hdg : decode cc pc = .ok (.invokestatic index, 3)) (hf : cells + mc ≤ R.cells ∧ slots + ms ≤ R.slots) :
    va_Run p l e R s m args below meth c H locs cells slots mc ms (F0 m pc ls st0) rest (Qc As.toArray) free :=
  va_runSN F hM ⟨va_cnB n F.2.2.2.2 (gi h5) rfl hrc hrs h1 (F.2.2.2.2 _ h4) hd hR, F.2.2.2.2 _ h2, trivial⟩ ⟨cP.blind hX, cP.pre hP hD hK hkw hX2⟩ rfl hn hsize hstack (lv_room hW) hdg hf
end RSN
