section TV
variable {p : Program} {l : Launch} {e : Env} {R : Room} {s : State} {m : MethodId} {args : Array Value} {below : List Frame} {meth : Method} {c : Code} {H : Heap} {locs : List Loc} {cells slots : Nat} {Q : State → Prop} {pc : Nat} {ls : Array Slot} {rest : List Value}
theorem tv {x x2 : Int32} (h : x = x2) (k : W p l e R s m args below meth c H locs cells slots Q (F0 m pc ls (.int x2 :: rest))) : W p l e R s m args below meth c H locs cells slots Q (F0 m pc ls (.int x :: rest)) := h ▸ k
theorem tvL {x x2 : Int64} (h : x = x2) (k : W p l e R s m args below meth c H locs cells slots Q (F0 m pc ls (.long x2 :: rest))) : W p l e R s m args below meth c H locs cells slots Q (F0 m pc ls (.long x :: rest)) := h ▸ k
end TV
theorem mm1 (v : Int32) : ¬ ((if (1 : Int32) < v then v else 1) ≤ 0) := by
  intro h
  split at h
  · rename_i g
    exact absurd (Int32.lt_of_lt_of_le g h) (by decide)
  · exact absurd h (by decide)
set_option maxHeartbeats 4000000 in
set_option maxRecDepth 100000 in
theorem c_St_isF (l : Launch) (dC : Nat → ClassId) (dI : Nat → Nat → Nat) (h0 c0 : Nat) (cA : ClassId) (sz : Nat) : Met l y_St_isFormatted (Cond.code y_St_isFormatted b_St_isFormatted 1 (some .boolean) :: gw) ({ frames := 0, cells := 0, slots := 0, locals := 0 }) (cP (dC, dI) [.ref h0] sz [(h0, .inr (1, [.ref c0, .int (-1), .int 0, .int 0])), (c0, .inl (cA, 512, .inl (fun _ => 0)))] [(cA, .int)] xT) (va_Qi (fun (r : Int32) (u : Unit) => r = 0) (fun (u : Unit) t => cB (dC, dI) (va_A [(h0, .inr (1, [.ref c0, .int (-1), .int 0, .int 0])), (c0, .inl (cA, 512, .inl (fun _ => 0)))] sz) [(h0, .inr (1, [.ref c0, .int (-1), .int 0, .int 0])), (c0, .inl (cA, 512, .inl (fun _ => 0)))] [(cA, .int)] t) (va_A [(h0, .inr (1, [.ref c0, .int (-1), .int 0, .int 0])), (c0, .inl (cA, 512, .inl (fun _ => 0)))] sz)) 0 0 (va_A [(h0, .inr (1, [.ref c0, .int (-1), .int 0, .int 0])), (c0, .inl (cA, 512, .inl (fun _ => 0)))] sz) := by
  refine Met.ofW (cc := b_St_isFormatted) (maxL := 1) (ret := (some .boolean)) (by decide) rfl ?_
  intro p e s m args below meth c s₁ B hml hv
  obtain ⟨rfl, hsz, hP, hK, hD0, hkw, hX⟩ := hv
  have hx := B.exec
  have hb := B.bytes
  have hr := B.returns
  have hts := fun w hw => atoms_spec (ws := Cond.code y_St_isFormatted b_St_isFormatted 1 (some .boolean) :: gw) B.pre w (List.mem_cons_of_mem _ hw)
  have hown : s.vm.findClass "LineDisk$Store" = some m.cls := findClass_of_methodNamed B.named
  have hlocks := B.notSynchronized
  have hin := (name_of_methodNamed B.named B.method).1
  subst hsz
  have hD := hD0.self (sz := s.heap.size)
  generalize hAe : va_A [(h0, .inr (1, [.ref c0, .int (-1), .int 0, .int 0])), (c0, .inl (cA, 512, .inl (fun _ => 0)))] s.heap.size = A at hD ⊢
  have hA : ∀ q : Nat, s.heap.size ≤ q → A q := fun q h => by rw [← hAe]; exact Or.inr h
  have hS : va_S A s.heap s.heap [] := va_S.rf
  have hl := lv_entry ([.ref h0]) (n := 1) (Nat.le_of_ble_eq_true rfl)
  rw [lg_entry_eq]
  generalize (lg_sl ([.ref h0]) ++ List.replicate (1 - (lg_sl ([.ref h0])).length) Slot.unset).toArray = ls at hl ⊢
  have hl : lv_has ls 1 [(0, .ref h0)] := hl
  have F : CallFix p m c b_St_isFormatted 1 s ([.ref h0]).toArray gw "LineDisk$Store" := ⟨hx, hb, hml, hown, hts⟩
  refine lv_aload_n hx hb d_St_isFormatted_0 rfl (lv_at hl 0 rfl) ?_
  refine va_get (D := (dC, dI)) (ci := 1) (v := .ref c0) (C := R_St) (T := F_St) (N := 4) hx hb hts in_St hown hK hP 0 rfl rfl 0 (by decide) (hts _ w_29) (fun _ h9 => h9) rfl d_St_isFormatted_1 ?_
  refine lv_iconst (v := 0) hx hb d_St_isFormatted_4 (by decide) ?_
  refine va_iald hx hb hK hP 1 0 rfl rfl (vp_in_iff.mpr (by decide)) d_St_isFormatted_5 ?_
  refine tv (x2 := 0) (by exact rfl) ?_
  refine lv_sipush (v := 7077) hx hb d_St_isFormatted_6 (by decide) ?_
  refine lv_icmp_ne (tgt := 16) hx hb d_St_isFormatted_9 (by decide) (fun _ => ?_) (fun h => absurd h (by decide))
  refine lv_iconst (v := 0) hx hb d_St_isFormatted_16 (by decide) ?_
  refine W.widen (k := 0) (n := 0) (by decide) (by decide) ?_
  exact W.zret (v := 0) hx hb hr rfl (fun t ht hW => ⟨⟨0, (), rfl, rfl, cB.of (hP.sub [0, 1] rfl) (hD.sub [0, 1] (by decide) rfl) (hK.sub [0] rfl) ht hW⟩, hS.F ht⟩) hS.2.2 d_St_isFormatted_17
theorem in512 {x : Int32} (h1 : ¬ x < 0) (h2 : x < 512) : vp_in x 512 := by
  rw [vp_in_iff]
  have a := Int32.not_lt.mp h1
  rw [Int32.le_iff_toInt_le] at a
  rw [Int32.lt_iff_toInt_lt] at h2
  exact ⟨by simpa using a, by simpa using h2⟩
set_option maxHeartbeats 4000000 in
set_option maxRecDepth 100000 in
theorem c_St_cell (l : Launch) (dC : Nat → ClassId) (dI : Nat → Nat → Nat) (h0 c0 : Nat) (cA : ClassId) (x : Int32) (h1 : ¬ x < 0) (h2 : x < 512) (sz : Nat) : Met l y_St_cell (Cond.code y_St_cell b_St_cell 2 (some .int) :: gw) ({ frames := 0, cells := 0, slots := 0, locals := 0 }) (cP (dC, dI) [.ref h0, .int x] sz [(h0, .inr (1, [.ref c0, .int (-1), .int 0, .int 0])), (c0, .inl (cA, 512, .inl (fun _ => 0)))] [(cA, .int)] xT) (va_Qi (fun (r : Int32) (u : Unit) => r = 0) (fun (u : Unit) t => cB (dC, dI) (va_A [(h0, .inr (1, [.ref c0, .int (-1), .int 0, .int 0])), (c0, .inl (cA, 512, .inl (fun _ => 0)))] sz) [(h0, .inr (1, [.ref c0, .int (-1), .int 0, .int 0])), (c0, .inl (cA, 512, .inl (fun _ => 0)))] [(cA, .int)] t) (va_A [(h0, .inr (1, [.ref c0, .int (-1), .int 0, .int 0])), (c0, .inl (cA, 512, .inl (fun _ => 0)))] sz)) 0 0 (va_A [(h0, .inr (1, [.ref c0, .int (-1), .int 0, .int 0])), (c0, .inl (cA, 512, .inl (fun _ => 0)))] sz) := by
  refine Met.ofW (cc := b_St_cell) (maxL := 2) (ret := (some .int)) (by decide) rfl ?_
  intro p e s m args below meth c s₁ B hml hv
  obtain ⟨rfl, hsz, hP, hK, hD0, hkw, hX⟩ := hv
  have hx := B.exec
  have hb := B.bytes
  have hr := B.returns
  have hts := fun w hw => atoms_spec (ws := Cond.code y_St_cell b_St_cell 2 (some .int) :: gw) B.pre w (List.mem_cons_of_mem _ hw)
  have hown : s.vm.findClass "LineDisk$Store" = some m.cls := findClass_of_methodNamed B.named
  have hlocks := B.notSynchronized
  have hin := (name_of_methodNamed B.named B.method).1
  subst hsz
  have hD := hD0.self (sz := s.heap.size)
  generalize hAe : va_A [(h0, .inr (1, [.ref c0, .int (-1), .int 0, .int 0])), (c0, .inl (cA, 512, .inl (fun _ => 0)))] s.heap.size = A at hD ⊢
  have hA : ∀ q : Nat, s.heap.size ≤ q → A q := fun q h => by rw [← hAe]; exact Or.inr h
  have hS : va_S A s.heap s.heap [] := va_S.rf
  have hl := lv_entry ([.ref h0, .int x]) (n := 2) (Nat.le_of_ble_eq_true rfl)
  rw [lg_entry_eq]
  generalize (lg_sl ([.ref h0, .int x]) ++ List.replicate (2 - (lg_sl ([.ref h0, .int x])).length) Slot.unset).toArray = ls at hl ⊢
  have hl : lv_has ls 2 [(0, .ref h0), (1, .int x)] := hl
  have F : CallFix p m c b_St_cell 2 s ([.ref h0, .int x]).toArray gw "LineDisk$Store" := ⟨hx, hb, hml, hown, hts⟩
  refine lv_iload_n hx hb d_St_cell_0 rfl (lv_at hl 1 rfl) ?_
  refine lv_if_lt (tgt := 22) hx hb d_St_cell_1 (by decide) (fun h => absurd h (h1)) (fun _ => ?_)
  refine lv_iload_n hx hb d_St_cell_4 rfl (lv_at hl 1 rfl) ?_
  refine lv_aload_n hx hb d_St_cell_5 rfl (lv_at hl 0 rfl) ?_
  refine va_get (D := (dC, dI)) (ci := 1) (v := .ref c0) (C := R_St) (T := F_St) (N := 4) hx hb hts in_St hown hK hP 0 rfl rfl 0 (by decide) (hts _ w_29) (fun _ h9 => h9) rfl d_St_cell_6 ?_
  refine va_alen (v := 512) hx hb hK hP 1 0 rfl rfl rfl d_St_cell_9 ?_
  refine lv_icmp_ge (tgt := 22) hx hb d_St_cell_10 (by decide) (fun h => absurd h (fun h => Int32.lt_irrefl (Int32.lt_of_lt_of_le h2 h))) (fun _ => ?_)
  refine lv_aload_n hx hb d_St_cell_13 rfl (lv_at hl 0 rfl) ?_
  refine va_get (D := (dC, dI)) (ci := 1) (v := .ref c0) (C := R_St) (T := F_St) (N := 4) hx hb hts in_St hown hK hP 0 rfl rfl 0 (by decide) (hts _ w_29) (fun _ h9 => h9) rfl d_St_cell_14 ?_
  refine lv_iload_n hx hb d_St_cell_17 rfl (lv_at hl 1 rfl) ?_
  refine va_iald hx hb hK hP 1 0 rfl rfl (in512 h1 h2) d_St_cell_18 ?_
  refine tv (x2 := 0) (by exact rfl) ?_
  refine lv_goto (tgt := 23) hx hb d_St_cell_19 (by decide) ?_
  refine W.widen (k := 0) (n := 0) (by decide) (by decide) ?_
  exact W.iret (v := 0) hx hb hr (fun t ht hW => ⟨⟨0, (), rfl, rfl, cB.of (hP.sub [0, 1] rfl) (hD.sub [0, 1] (by decide) rfl) (hK.sub [0] rfl) ht hW⟩, hS.F ht⟩) hS.2.2 d_St_cell_23
set_option maxHeartbeats 4000000 in
set_option maxRecDepth 100000 in
theorem lp_Ar_fill {p : Program} {l : Launch} {e : Env} {R : Room} {s : State} {m : MethodId} {args : Array Value} {below : List Frame} {meth : Method} {c : Code} {cells slots : Nat} {Q : State → Prop} {A : Nat → Prop} {dC : Nat → ClassId} {dI : Nat → Nat → Nat} (hx : p.tables.exec = Jvm.exec) (hb : c.code = b_Ar_fill) (hts : ∀ w ∈ gw, w.before args s = true) (hown : s.vm.findClass "java/util/Arrays" = some m.cls) (hkw : kw s) (a0 : Nat) (cA : ClassId) (x : Int32) (hK : va_K (dC, dI) cls [(cA, .int)] s)  (kk : ∀ (ls : Array Slot) (H : Heap) (locs : List Loc) (f : Nat → Int32), lv_has ls 4 [(2, .int (nI 8)), (3, .int 8), (0, .ref a0), (1, .int x)] → va_P (dC, dI) cls [(a0, .inl (cA, 8, .inl f))] H → va_D A [(a0, .inl (cA, 8, .inl f))] → va_S A s.heap H locs → (True) → W p l e R s m args below meth c H locs cells slots Q (F0 m 20 ls [])) : ∀ (j k : Nat), k + j = 8 → ∀ (ls : Array Slot) (H : Heap) (locs : List Loc) (f : Nat → Int32), lv_has ls 4 [(2, .int (nI k)), (3, .int 8), (0, .ref a0), (1, .int x)] → va_P (dC, dI) cls [(a0, .inl (cA, 8, .inl f))] H → va_D A [(a0, .inl (cA, 8, .inl f))] → va_S A s.heap H locs → (True) → W p l e R s m args below meth c H locs cells slots Q (F0 m 5 ls []) := by
  intro j
  induction j with
  | zero =>
    intro k hk ls H locs f hl hP hD hS hf
    have hk : k = 8 := by omega
    subst hk
    refine lv_iload_n hx hb d_Ar_fill_5 rfl (lv_at hl 0 rfl) ?_
    refine lv_iload_n hx hb d_Ar_fill_6 rfl (lv_at hl 1 rfl) ?_
    refine lv_icmp_ge (tgt := 20) hx hb d_Ar_fill_7 (by decide) (fun _ => ?_) (fun h => absurd (nI_le (a := 8) (b := 8) (Nat.le_refl _) (by decide)) h)
    exact kk ls H locs f hl hP hD hS hf
  | succ j ih =>
    intro k hk ls H locs f hl hP hD hS hf
    have hkN : k < 8 := by omega
    refine lv_iload_n hx hb d_Ar_fill_5 rfl (lv_at hl 0 rfl) ?_
    refine lv_iload_n hx hb d_Ar_fill_6 rfl (lv_at hl 1 rfl) ?_
    refine lv_icmp_ge (tgt := 20) hx hb d_Ar_fill_7 (by decide) (fun h => absurd h (nI_ge (b := 8) hkN (by decide))) (fun _ => ?_)
    refine lv_aload_n hx hb d_Ar_fill_10 rfl (lv_at hl 2 rfl) ?_
    refine lv_iload_n hx hb d_Ar_fill_11 rfl (lv_at hl 0 rfl) ?_
    refine lv_iload_n hx hb d_Ar_fill_12 rfl (lv_at hl 3 rfl) ?_
    refine va_iast hx hb hK hP hD hS 0 0 rfl rfl (vp_in_nI hkN (by decide)) d_Ar_fill_13 (fun H locs hP hD hS => ?_)
    have hP : va_P (dC, dI) cls [(a0, .inl (cA, 8, .inl (upd f (nI k : Int32).toNatClampNeg x)))] H := hP
    have hD : va_D A [(a0, .inl (cA, 8, .inl (upd f (nI k : Int32).toNatClampNeg x)))] := hD
    refine lv_iinc (k := 0) (v := nI (k + 1)) hx hb d_Ar_fill_14 hl rfl (by rw [lit1]; exact (nI_succ k).symm) (by decide) rfl (fun ls hl => ?_)
    have hl : lv_has ls 4 [(2, .int (nI (k + 1))), (3, .int 8), (0, .ref a0), (1, .int x)] := hl
    refine lv_goto (tgt := 5) hx hb d_Ar_fill_17 (by decide) ?_
    exact ih (k + 1) (by omega) ls H locs (upd f (nI k : Int32).toNatClampNeg x) (hl) hP hD hS (trivial)
set_option maxHeartbeats 4000000 in
set_option maxRecDepth 100000 in
theorem c_Ar_fill (l : Launch) (dC : Nat → ClassId) (dI : Nat → Nat → Nat) (a0 : Nat) (cA : ClassId) (f : Nat → Int32) (x : Int32) (sz : Nat) : Met l y_Ar_fill (Cond.code y_Ar_fill b_Ar_fill 4 none :: gw) ({ frames := 0, cells := 0, slots := 0, locals := 0 }) (cP (dC, dI) [.ref a0, .int x] sz [(a0, .inl (cA, 8, .inl f))] [(cA, .int)] xT) (va_Qv (fun (u : Nat → Int32) => True) (fun (u : Nat → Int32) t => cB (dC, dI) (va_A [(a0, .inl (cA, 8, .inl f))] sz) [(a0, .inl (cA, 8, .inl u))] [(cA, .int)] t) (va_A [(a0, .inl (cA, 8, .inl f))] sz)) 0 0 (va_A [(a0, .inl (cA, 8, .inl f))] sz) := by
  refine Met.ofW (cc := b_Ar_fill) (maxL := 4) (ret := none) (by decide) rfl ?_
  intro p e s m args below meth c s₁ B hml hv
  obtain ⟨rfl, hsz, hP, hK, hD0, hkw, hX⟩ := hv
  have hx := B.exec
  have hb := B.bytes
  have hr := B.returns
  have hts := fun w hw => atoms_spec (ws := Cond.code y_Ar_fill b_Ar_fill 4 none :: gw) B.pre w (List.mem_cons_of_mem _ hw)
  have hown : s.vm.findClass "java/util/Arrays" = some m.cls := findClass_of_methodNamed B.named
  have hlocks := B.notSynchronized
  have hin := (name_of_methodNamed B.named B.method).1
  subst hsz
  have hD := hD0.self (sz := s.heap.size)
  generalize hAe : va_A [(a0, .inl (cA, 8, .inl f))] s.heap.size = A at hD ⊢
  have hA : ∀ q : Nat, s.heap.size ≤ q → A q := fun q h => by rw [← hAe]; exact Or.inr h
  have hS : va_S A s.heap s.heap [] := va_S.rf
  have hl := lv_entry ([.ref a0, .int x]) (n := 4) (Nat.le_of_ble_eq_true rfl)
  rw [lg_entry_eq]
  generalize (lg_sl ([.ref a0, .int x]) ++ List.replicate (4 - (lg_sl ([.ref a0, .int x])).length) Slot.unset).toArray = ls at hl ⊢
  have hl : lv_has ls 4 [(0, .ref a0), (1, .int x)] := hl
  have F : CallFix p m c b_Ar_fill 4 s ([.ref a0, .int x]).toArray gw "java/util/Arrays" := ⟨hx, hb, hml, hown, hts⟩
  refine lv_iconst (v := 0) hx hb d_Ar_fill_0 (by decide) ?_
  refine lv_istore_n (i := 2) hx hb d_Ar_fill_1 rfl hl (by decide) rfl (fun ls hl => ?_)
  have hl : lv_has ls 4 [(2, .int 0), (0, .ref a0), (1, .int x)] := hl
  refine lv_aload_n hx hb d_Ar_fill_2 rfl (lv_at hl 1 rfl) ?_
  refine va_alen (v := 8) hx hb hK hP 0 0 rfl rfl rfl d_Ar_fill_3 ?_
  refine lv_istore_n (i := 3) hx hb d_Ar_fill_4 rfl hl (by decide) rfl (fun ls hl => ?_)
  have hl : lv_has ls 4 [(3, .int 8), (2, .int 0), (0, .ref a0), (1, .int x)] := hl
  have hl : lv_has ls 4 [(2, .int (nI 0)), (3, .int 8), (0, .ref a0), (1, .int x)] := lv_sub hl [1, 0, 2, 3] rfl
  refine lp_Ar_fill hx hb hts hown hkw a0 cA x hK (fun ls H locs f hl hP hD hS _ => ?_) 8 0 (by decide) ls _ _ f hl hP hD hS trivial
  refine W.widen (k := 0) (n := 0) (by decide) (by decide) ?_
  exact W.vret hx hb hr (fun t ht hW => ⟨⟨f, rfl, trivial, cB.of (hP.sub [0] rfl) (hD.sub [0] (by decide) rfl) (hK.sub [0] rfl) ht hW⟩, hS.F ht⟩) hS.2.2 d_Ar_fill_20
set_option maxHeartbeats 4000000 in
set_option maxRecDepth 100000 in
theorem c_Wo_empty (l : Launch) (dC : Nat → ClassId) (dI : Nat → Nat → Nat) (h0 : Nat) (w0 w1 w2 w3 w4 w5 : Nat) (cA : ClassId) (f : Nat → Int32) (sz : Nat) : Met l y_Wo_empty (Cond.code y_Wo_empty b_Wo_empty 1 none :: gw) ({ frames := 1, cells := 0, slots := 0, locals := 23 }) (cP (dC, dI) [.ref h0] sz [(h0, .inr (3, [.ref w0, .ref w1, .ref w2, .ref w3, .ref w4, .ref w5, .int 0, .int 0, .int 0])), (w4, .inl (cA, 8, .inl f))] [(cA, .int)] xT) (va_Qv (fun (u : Nat → Int32) => True) (fun (u : Nat → Int32) t => cB (dC, dI) (va_A [(h0, .inr (3, [.ref w0, .ref w1, .ref w2, .ref w3, .ref w4, .ref w5, .int 0, .int 0, .int 0])), (w4, .inl (cA, 8, .inl f))] sz) [(h0, .inr (3, [.ref w0, .ref w1, .ref w2, .ref w3, .ref w4, .ref w5, .int 0, .int 0, .int 0])), (w4, .inl (cA, 8, .inl u))] [(cA, .int)] t) (va_A [(h0, .inr (3, [.ref w0, .ref w1, .ref w2, .ref w3, .ref w4, .ref w5, .int 0, .int 0, .int 0])), (w4, .inl (cA, 8, .inl f))] sz)) 0 0 (va_A [(h0, .inr (3, [.ref w0, .ref w1, .ref w2, .ref w3, .ref w4, .ref w5, .int 0, .int 0, .int 0])), (w4, .inl (cA, 8, .inl f))] sz) := by
  refine Met.ofW (cc := b_Wo_empty) (maxL := 1) (ret := none) (by decide) rfl ?_
  intro p e s m args below meth c s₁ B hml hv
  obtain ⟨rfl, hsz, hP, hK, hD0, hkw, hX⟩ := hv
  have hx := B.exec
  have hb := B.bytes
  have hr := B.returns
  have hts := fun w hw => atoms_spec (ws := Cond.code y_Wo_empty b_Wo_empty 1 none :: gw) B.pre w (List.mem_cons_of_mem _ hw)
  have hown : s.vm.findClass "LineDisk$Workspace" = some m.cls := findClass_of_methodNamed B.named
  have hlocks := B.notSynchronized
  have hin := (name_of_methodNamed B.named B.method).1
  subst hsz
  have hD := hD0.self (sz := s.heap.size)
  generalize hAe : va_A [(h0, .inr (3, [.ref w0, .ref w1, .ref w2, .ref w3, .ref w4, .ref w5, .int 0, .int 0, .int 0])), (w4, .inl (cA, 8, .inl f))] s.heap.size = A at hD ⊢
  have hA : ∀ q : Nat, s.heap.size ≤ q → A q := fun q h => by rw [← hAe]; exact Or.inr h
  have hS : va_S A s.heap s.heap [] := va_S.rf
  have hl := lv_entry ([.ref h0]) (n := 1) (Nat.le_of_ble_eq_true rfl)
  rw [lg_entry_eq]
  generalize (lg_sl ([.ref h0]) ++ List.replicate (1 - (lg_sl ([.ref h0])).length) Slot.unset).toArray = ls at hl ⊢
  have hl : lv_has ls 1 [(0, .ref h0)] := hl
  have F : CallFix p m c b_Wo_empty 1 s ([.ref h0]).toArray gw "LineDisk$Workspace" := ⟨hx, hb, hml, hown, hts⟩
  refine lv_aload_n hx hb d_Wo_empty_0 rfl (lv_at hl 0 rfl) ?_
  refine lv_iconst (v := 0) hx hb d_Wo_empty_1 (by decide) ?_
  refine va_put (D := (dC, dI)) (ci := 3) (v := .int 0) (ty := .int) (C := R_Wo) (T := F_Wo) (N := 9) hx hb hts in_Wo t_Wo t_Wo_ok n_Wo hown hK hP hD hS 0 rfl rfl 6 (by decide) (hts _ w_78) (fun _ h9 => h9) rfl (by decide +kernel) (rfl) (rfl) (Nat.le_of_ble_eq_true rfl) d_Wo_empty_2 (fun H locs hP hD hS => ?_)
  have hP : va_P (dC, dI) cls [(h0, .inr (3, [.ref w0, .ref w1, .ref w2, .ref w3, .ref w4, .ref w5, .int 0, .int 0, .int 0])), (w4, .inl (cA, 8, .inl f))] H := hP
  have hD : va_D A [(h0, .inr (3, [.ref w0, .ref w1, .ref w2, .ref w3, .ref w4, .ref w5, .int 0, .int 0, .int 0])), (w4, .inl (cA, 8, .inl f))] := hD
  refine lv_aload_n hx hb d_Wo_empty_5 rfl (lv_at hl 0 rfl) ?_
  refine lv_iconst (v := 0) hx hb d_Wo_empty_6 (by decide) ?_
  refine va_put (D := (dC, dI)) (ci := 3) (v := .int 0) (ty := .int) (C := R_Wo) (T := F_Wo) (N := 9) hx hb hts in_Wo t_Wo t_Wo_ok n_Wo hown hK hP hD hS 0 rfl rfl 7 (by decide) (hts _ w_80) (fun _ h9 => h9) rfl (by decide +kernel) (rfl) (rfl) (Nat.le_of_ble_eq_true rfl) d_Wo_empty_7 (fun H locs hP hD hS => ?_)
  have hP : va_P (dC, dI) cls [(h0, .inr (3, [.ref w0, .ref w1, .ref w2, .ref w3, .ref w4, .ref w5, .int 0, .int 0, .int 0])), (w4, .inl (cA, 8, .inl f))] H := hP
  have hD : va_D A [(h0, .inr (3, [.ref w0, .ref w1, .ref w2, .ref w3, .ref w4, .ref w5, .int 0, .int 0, .int 0])), (w4, .inl (cA, 8, .inl f))] := hD
  refine lv_aload_n hx hb d_Wo_empty_10 rfl (lv_at hl 0 rfl) ?_
  refine lv_iconst (v := 0) hx hb d_Wo_empty_11 (by decide) ?_
  refine va_put (D := (dC, dI)) (ci := 3) (v := .int 0) (ty := .int) (C := R_Wo) (T := F_Wo) (N := 9) hx hb hts in_Wo t_Wo t_Wo_ok n_Wo hown hK hP hD hS 0 rfl rfl 8 (by decide) (hts _ w_82) (fun _ h9 => h9) rfl (by decide +kernel) (rfl) (rfl) (Nat.le_of_ble_eq_true rfl) d_Wo_empty_12 (fun H locs hP hD hS => ?_)
  have hP : va_P (dC, dI) cls [(h0, .inr (3, [.ref w0, .ref w1, .ref w2, .ref w3, .ref w4, .ref w5, .int 0, .int 0, .int 0])), (w4, .inl (cA, 8, .inl f))] H := hP
  have hD : va_D A [(h0, .inr (3, [.ref w0, .ref w1, .ref w2, .ref w3, .ref w4, .ref w5, .int 0, .int 0, .int 0])), (w4, .inl (cA, 8, .inl f))] := hD
  refine lv_aload_n hx hb d_Wo_empty_15 rfl (lv_at hl 0 rfl) ?_
  refine va_get (D := (dC, dI)) (ci := 3) (v := .ref w4) (C := R_Wo) (T := F_Wo) (N := 9) hx hb hts in_Wo hown hK hP 0 rfl rfl 4 (by decide) (hts _ w_74) (fun _ h9 => h9) rfl d_Wo_empty_16 ?_
  refine lv_iconst (v := 0) hx hb d_Wo_empty_19 (by decide) ?_
  refine go_v (wr := [(h0, .inr (3, [.ref w0, .ref w1, .ref w2, .ref w3, .ref w4, .ref w5, .int 0, .int 0, .int 0]))]) (tr := []) (rS (n := 2) (As := [.ref w4, .int 0]) (rest := []) F hkw (c_Ar_fill l dC dI w4 cA f 0 H.size) xT_bl (fun _ _ _ => trivial) w_194 w_195 w_8 w_196 rfl rfl (by decide +kernel) ⟨Nat.le_of_ble_eq_true rfl, Nat.le_of_ble_eq_true rfl⟩ (hP.sub (ws' := [(w4, .inl (cA, 8, .inl f))]) [1] rfl) (hD.sub (ws' := [(w4, .inl (cA, 8, .inl f))]) [1] (by decide) rfl) (hK.sub (tys' := [(cA, .int)]) [0] rfl) rfl hl.1 rfl (Nat.le_of_ble_eq_true rfl) d_Wo_empty_20 ⟨by decide, by decide⟩) hP hD hK hS hA [1] [0] [] rfl rfl (by decide) (by decide) rfl (fun u H locs _ hP hD hK hS => ?_)
  have hP : va_P (dC, dI) cls [(h0, .inr (3, [.ref w0, .ref w1, .ref w2, .ref w3, .ref w4, .ref w5, .int 0, .int 0, .int 0])), (w4, .inl (cA, 8, .inl u))] H := hP
  have hD : va_D A [(h0, .inr (3, [.ref w0, .ref w1, .ref w2, .ref w3, .ref w4, .ref w5, .int 0, .int 0, .int 0])), (w4, .inl (cA, 8, .inl u))] := hD
  have hK : va_K (dC, dI) cls [(cA, .int)] s := hK
  refine W.widen (k := 0) (n := 0) (by omega) (by omega) ?_
  refine W.widen (k := 0) (n := 0) (by decide) (by decide) ?_
  exact W.vret hx hb hr (fun t ht hW => ⟨⟨u, rfl, trivial, cB.of (hP.sub [0, 1] rfl) (hD.sub [0, 1] (by decide) rfl) (hK.sub [0] rfl) ht hW⟩, hS.F ht⟩) hS.2.2 d_Wo_empty_23
set_option maxHeartbeats 4000000 in
set_option maxRecDepth 100000 in
theorem c_Wo_keep (l : Launch) (dC : Nat → ClassId) (dI : Nat → Nat → Nat) (h0 : Nat) (w0 w1 w2 w3 w4 w5 : Nat) (cA : ClassId) (x : Int32) (sz : Nat) : Met l y_Wo_keepTyped (Cond.code y_Wo_keepTyped b_Wo_keepTyped 2 none :: gw) ({ frames := 0, cells := 0, slots := 0, locals := 0 }) (cP (dC, dI) [.ref h0, .int x] sz [(h0, .inr (3, [.ref w0, .ref w1, .ref w2, .ref w3, .ref w4, .ref w5, .int 0, .int 0, .int 0])), (w5, .inl (cA, 15, .inl (fun _ => 0)))] [(cA, .int)] xT) (va_Qv (fun (u : Unit) => True) (fun (u : Unit) t => cB (dC, dI) (va_A [(h0, .inr (3, [.ref w0, .ref w1, .ref w2, .ref w3, .ref w4, .ref w5, .int 0, .int 0, .int 0])), (w5, .inl (cA, 15, .inl (fun _ => 0)))] sz) [] [] t) (va_A [(h0, .inr (3, [.ref w0, .ref w1, .ref w2, .ref w3, .ref w4, .ref w5, .int 0, .int 0, .int 0])), (w5, .inl (cA, 15, .inl (fun _ => 0)))] sz)) 0 0 (va_A [(h0, .inr (3, [.ref w0, .ref w1, .ref w2, .ref w3, .ref w4, .ref w5, .int 0, .int 0, .int 0])), (w5, .inl (cA, 15, .inl (fun _ => 0)))] sz) := by
  refine Met.ofW (cc := b_Wo_keepTyped) (maxL := 2) (ret := none) (by decide) rfl ?_
  intro p e s m args below meth c s₁ B hml hv
  obtain ⟨rfl, hsz, hP, hK, hD0, hkw, hX⟩ := hv
  have hx := B.exec
  have hb := B.bytes
  have hr := B.returns
  have hts := fun w hw => atoms_spec (ws := Cond.code y_Wo_keepTyped b_Wo_keepTyped 2 none :: gw) B.pre w (List.mem_cons_of_mem _ hw)
  have hown : s.vm.findClass "LineDisk$Workspace" = some m.cls := findClass_of_methodNamed B.named
  have hlocks := B.notSynchronized
  have hin := (name_of_methodNamed B.named B.method).1
  subst hsz
  have hD := hD0.self (sz := s.heap.size)
  generalize hAe : va_A [(h0, .inr (3, [.ref w0, .ref w1, .ref w2, .ref w3, .ref w4, .ref w5, .int 0, .int 0, .int 0])), (w5, .inl (cA, 15, .inl (fun _ => 0)))] s.heap.size = A at hD ⊢
  have hA : ∀ q : Nat, s.heap.size ≤ q → A q := fun q h => by rw [← hAe]; exact Or.inr h
  have hS : va_S A s.heap s.heap [] := va_S.rf
  have hl := lv_entry ([.ref h0, .int x]) (n := 2) (Nat.le_of_ble_eq_true rfl)
  rw [lg_entry_eq]
  generalize (lg_sl ([.ref h0, .int x]) ++ List.replicate (2 - (lg_sl ([.ref h0, .int x])).length) Slot.unset).toArray = ls at hl ⊢
  have hl : lv_has ls 2 [(0, .ref h0), (1, .int x)] := hl
  have F : CallFix p m c b_Wo_keepTyped 2 s ([.ref h0, .int x]).toArray gw "LineDisk$Workspace" := ⟨hx, hb, hml, hown, hts⟩
  refine lv_aload_n hx hb d_Wo_keepTyped_0 rfl (lv_at hl 0 rfl) ?_
  refine va_get (D := (dC, dI)) (ci := 3) (v := .int 0) (C := R_Wo) (T := F_Wo) (N := 9) hx hb hts in_Wo hown hK hP 0 rfl rfl 8 (by decide) (hts _ w_82) (fun _ h9 => h9) rfl d_Wo_keepTyped_1 ?_
  refine lv_bipush (v := 15) hx hb d_Wo_keepTyped_4 (by decide) ?_
  refine lv_icmp_ge (tgt := 29) hx hb d_Wo_keepTyped_6 (by decide) (fun h => absurd h (by decide)) (fun _ => ?_)
  refine lv_aload_n hx hb d_Wo_keepTyped_9 rfl (lv_at hl 0 rfl) ?_
  refine va_get (D := (dC, dI)) (ci := 3) (v := .ref w5) (C := R_Wo) (T := F_Wo) (N := 9) hx hb hts in_Wo hown hK hP 0 rfl rfl 5 (by decide) (hts _ w_76) (fun _ h9 => h9) rfl d_Wo_keepTyped_10 ?_
  refine lv_aload_n hx hb d_Wo_keepTyped_13 rfl (lv_at hl 0 rfl) ?_
  refine va_get (D := (dC, dI)) (ci := 3) (v := .int 0) (C := R_Wo) (T := F_Wo) (N := 9) hx hb hts in_Wo hown hK hP 0 rfl rfl 8 (by decide) (hts _ w_82) (fun _ h9 => h9) rfl d_Wo_keepTyped_14 ?_
  refine lv_iload_n hx hb d_Wo_keepTyped_17 rfl (lv_at hl 1 rfl) ?_
  refine va_iast hx hb hK hP hD hS 1 0 rfl rfl (vp_in_iff.mpr (by decide)) d_Wo_keepTyped_18 (fun H locs hP hD hS => ?_)
  have hP : va_P (dC, dI) cls [(h0, .inr (3, [.ref w0, .ref w1, .ref w2, .ref w3, .ref w4, .ref w5, .int 0, .int 0, .int 0])), (w5, .inl (cA, 15, .inl (upd (fun _ => 0) (0 : Int32).toNatClampNeg x)))] H := hP
  have hD : va_D A [(h0, .inr (3, [.ref w0, .ref w1, .ref w2, .ref w3, .ref w4, .ref w5, .int 0, .int 0, .int 0])), (w5, .inl (cA, 15, .inl (upd (fun _ => 0) (0 : Int32).toNatClampNeg x)))] := hD
  refine lv_aload_n hx hb d_Wo_keepTyped_19 rfl (lv_at hl 0 rfl) ?_
  refine lv_dup hx hb d_Wo_keepTyped_20 rfl ?_
  refine va_get (D := (dC, dI)) (ci := 3) (v := .int 0) (C := R_Wo) (T := F_Wo) (N := 9) hx hb hts in_Wo hown hK hP 0 rfl rfl 8 (by decide) (hts _ w_82) (fun _ h9 => h9) rfl d_Wo_keepTyped_21 ?_
  refine lv_iconst (v := 1) hx hb d_Wo_keepTyped_24 (by decide) ?_
  refine lv_iadd hx hb d_Wo_keepTyped_25 ?_
  refine tv (x2 := 1) (by decide) ?_
  refine va_put (D := (dC, dI)) (ci := 3) (v := .int 1) (ty := .int) (C := R_Wo) (T := F_Wo) (N := 9) hx hb hts in_Wo t_Wo t_Wo_ok n_Wo hown hK hP hD hS 0 rfl rfl 8 (by decide) (hts _ w_82) (fun _ h9 => h9) rfl (by decide +kernel) (rfl) (rfl) (Nat.le_of_ble_eq_true rfl) d_Wo_keepTyped_26 (fun H locs hP hD hS => ?_)
  have hP : va_P (dC, dI) cls [(h0, .inr (3, [.ref w0, .ref w1, .ref w2, .ref w3, .ref w4, .ref w5, .int 0, .int 0, .int 1])), (w5, .inl (cA, 15, .inl (upd (fun _ => 0) (0 : Int32).toNatClampNeg x)))] H := hP
  have hD : va_D A [(h0, .inr (3, [.ref w0, .ref w1, .ref w2, .ref w3, .ref w4, .ref w5, .int 0, .int 0, .int 1])), (w5, .inl (cA, 15, .inl (upd (fun _ => 0) (0 : Int32).toNatClampNeg x)))] := hD
  refine W.widen (k := 0) (n := 0) (by decide) (by decide) ?_
  exact W.vret hx hb hr (fun t ht hW => ⟨⟨(), rfl, trivial, cB.of (hP.sub [] rfl) (hD.sub [] (by decide) rfl) (hK.sub [] rfl) ht hW⟩, hS.F ht⟩) hS.2.2 d_Wo_keepTyped_29
set_option maxHeartbeats 4000000 in
set_option maxRecDepth 100000 in
theorem c_Wo_placeOf (l : Launch) (dC : Nat → ClassId) (dI : Nat → Nat → Nat) (h0 : Nat) (w0 w1 w2 w3 w4 w5 : Nat) (x : Int32) (sz : Nat) : Met l y_Wo_placeOf (Cond.code y_Wo_placeOf b_Wo_placeOf 3 (some .int) :: gw) ({ frames := 0, cells := 0, slots := 0, locals := 0 }) (cP (dC, dI) [.ref h0, .int x] sz [(h0, .inr (3, [.ref w0, .ref w1, .ref w2, .ref w3, .ref w4, .ref w5, .int 0, .int 0, .int 0]))] [] xT) (va_Qi (fun (r : Int32) (u : Unit) => r = 0) (fun (u : Unit) t => cB (dC, dI) (va_A [(h0, .inr (3, [.ref w0, .ref w1, .ref w2, .ref w3, .ref w4, .ref w5, .int 0, .int 0, .int 0]))] sz) [(h0, .inr (3, [.ref w0, .ref w1, .ref w2, .ref w3, .ref w4, .ref w5, .int 0, .int 0, .int 0]))] [] t) (va_A [(h0, .inr (3, [.ref w0, .ref w1, .ref w2, .ref w3, .ref w4, .ref w5, .int 0, .int 0, .int 0]))] sz)) 0 0 (va_A [(h0, .inr (3, [.ref w0, .ref w1, .ref w2, .ref w3, .ref w4, .ref w5, .int 0, .int 0, .int 0]))] sz) := by
  refine Met.ofW (cc := b_Wo_placeOf) (maxL := 3) (ret := (some .int)) (by decide) rfl ?_
  intro p e s m args below meth c s₁ B hml hv
  obtain ⟨rfl, hsz, hP, hK, hD0, hkw, hX⟩ := hv
  have hx := B.exec
  have hb := B.bytes
  have hr := B.returns
  have hts := fun w hw => atoms_spec (ws := Cond.code y_Wo_placeOf b_Wo_placeOf 3 (some .int) :: gw) B.pre w (List.mem_cons_of_mem _ hw)
  have hown : s.vm.findClass "LineDisk$Workspace" = some m.cls := findClass_of_methodNamed B.named
  have hlocks := B.notSynchronized
  have hin := (name_of_methodNamed B.named B.method).1
  subst hsz
  have hD := hD0.self (sz := s.heap.size)
  generalize hAe : va_A [(h0, .inr (3, [.ref w0, .ref w1, .ref w2, .ref w3, .ref w4, .ref w5, .int 0, .int 0, .int 0]))] s.heap.size = A at hD ⊢
  have hA : ∀ q : Nat, s.heap.size ≤ q → A q := fun q h => by rw [← hAe]; exact Or.inr h
  have hS : va_S A s.heap s.heap [] := va_S.rf
  have hl := lv_entry ([.ref h0, .int x]) (n := 3) (Nat.le_of_ble_eq_true rfl)
  rw [lg_entry_eq]
  generalize (lg_sl ([.ref h0, .int x]) ++ List.replicate (3 - (lg_sl ([.ref h0, .int x])).length) Slot.unset).toArray = ls at hl ⊢
  have hl : lv_has ls 3 [(0, .ref h0), (1, .int x)] := hl
  have F : CallFix p m c b_Wo_placeOf 3 s ([.ref h0, .int x]).toArray gw "LineDisk$Workspace" := ⟨hx, hb, hml, hown, hts⟩
  refine lv_iconst (v := 0) hx hb d_Wo_placeOf_0 (by decide) ?_
  refine lv_istore_n (i := 2) hx hb d_Wo_placeOf_1 rfl hl (by decide) rfl (fun ls hl => ?_)
  have hl : lv_has ls 3 [(2, .int 0), (0, .ref h0), (1, .int x)] := hl
  refine lv_iload_n hx hb d_Wo_placeOf_2 rfl (lv_at hl 0 rfl) ?_
  refine lv_aload_n hx hb d_Wo_placeOf_3 rfl (lv_at hl 1 rfl) ?_
  refine va_get (D := (dC, dI)) (ci := 3) (v := .int 0) (C := R_Wo) (T := F_Wo) (N := 9) hx hb hts in_Wo hown hK hP 0 rfl rfl 6 (by decide) (hts _ w_78) (fun _ h9 => h9) rfl d_Wo_placeOf_4 ?_
  refine lv_icmp_ge (tgt := 26) hx hb d_Wo_placeOf_7 (by decide) (fun _ => ?_) (fun h => absurd (by decide) h)
  refine lv_iload_n hx hb d_Wo_placeOf_26 rfl (lv_at hl 0 rfl) ?_
  refine W.widen (k := 0) (n := 0) (by decide) (by decide) ?_
  exact W.iret (v := 0) hx hb hr (fun t ht hW => ⟨⟨0, (), rfl, rfl, cB.of (hP.sub [0] rfl) (hD.sub [0] (by decide) rfl) (hK.sub [] rfl) ht hW⟩, hS.F ht⟩) hS.2.2 d_Wo_placeOf_27
set_option maxHeartbeats 4000000 in
set_option maxRecDepth 100000 in
theorem c_Wo_nextLine (l : Launch) (dC : Nat → ClassId) (dI : Nat → Nat → Nat) (h0 : Nat) (w0 w1 w2 w3 w4 w5 : Nat) (sz : Nat) : Met l y_Wo_nextLine (Cond.code y_Wo_nextLine b_Wo_nextLine 2 (some .int) :: gw) ({ frames := 1, cells := 0, slots := 0, locals := 22 }) (cP (dC, dI) [.ref h0] sz [(h0, .inr (3, [.ref w0, .ref w1, .ref w2, .ref w3, .ref w4, .ref w5, .int 0, .int 0, .int 0]))] [] xT) (va_Qi (fun (r : Int32) (u : Unit) => r = -1) (fun (u : Unit) t => cB (dC, dI) (va_A [(h0, .inr (3, [.ref w0, .ref w1, .ref w2, .ref w3, .ref w4, .ref w5, .int 0, .int 0, .int 0]))] sz) [(h0, .inr (3, [.ref w0, .ref w1, .ref w2, .ref w3, .ref w4, .ref w5, .int 0, .int 0, .int 0]))] [] t) (va_A [(h0, .inr (3, [.ref w0, .ref w1, .ref w2, .ref w3, .ref w4, .ref w5, .int 0, .int 0, .int 0]))] sz)) 0 0 (va_A [(h0, .inr (3, [.ref w0, .ref w1, .ref w2, .ref w3, .ref w4, .ref w5, .int 0, .int 0, .int 0]))] sz) := by
  refine Met.ofW (cc := b_Wo_nextLine) (maxL := 2) (ret := (some .int)) (by decide) rfl ?_
  intro p e s m args below meth c s₁ B hml hv
  obtain ⟨rfl, hsz, hP, hK, hD0, hkw, hX⟩ := hv
  have hx := B.exec
  have hb := B.bytes
  have hr := B.returns
  have hts := fun w hw => atoms_spec (ws := Cond.code y_Wo_nextLine b_Wo_nextLine 2 (some .int) :: gw) B.pre w (List.mem_cons_of_mem _ hw)
  have hown : s.vm.findClass "LineDisk$Workspace" = some m.cls := findClass_of_methodNamed B.named
  have hlocks := B.notSynchronized
  have hin := (name_of_methodNamed B.named B.method).1
  subst hsz
  have hD := hD0.self (sz := s.heap.size)
  generalize hAe : va_A [(h0, .inr (3, [.ref w0, .ref w1, .ref w2, .ref w3, .ref w4, .ref w5, .int 0, .int 0, .int 0]))] s.heap.size = A at hD ⊢
  have hA : ∀ q : Nat, s.heap.size ≤ q → A q := fun q h => by rw [← hAe]; exact Or.inr h
  have hS : va_S A s.heap s.heap [] := va_S.rf
  have hl := lv_entry ([.ref h0]) (n := 2) (Nat.le_of_ble_eq_true rfl)
  rw [lg_entry_eq]
  generalize (lg_sl ([.ref h0]) ++ List.replicate (2 - (lg_sl ([.ref h0])).length) Slot.unset).toArray = ls at hl ⊢
  have hl : lv_has ls 2 [(0, .ref h0)] := hl
  have F : CallFix p m c b_Wo_nextLine 2 s ([.ref h0]).toArray gw "LineDisk$Workspace" := ⟨hx, hb, hml, hown, hts⟩
  refine lv_aload_n hx hb d_Wo_nextLine_0 rfl (lv_at hl 0 rfl) ?_
  refine lv_aload_n hx hb d_Wo_nextLine_1 rfl (lv_at hl 0 rfl) ?_
  refine va_get (D := (dC, dI)) (ci := 3) (v := .int 0) (C := R_Wo) (T := F_Wo) (N := 9) hx hb hts in_Wo hown hK hP 0 rfl rfl 7 (by decide) (hts _ w_80) (fun _ h9 => h9) rfl d_Wo_nextLine_2 ?_
  refine go_i (wr := []) (tr := []) (rV (C := "LineDisk$Workspace") (ci := 3) (q0 := 0) (b := h0) (n := 1) (As := [.int 0]) (rest := []) F hkw (c_Wo_placeOf l dC dI h0 w0 w1 w2 w3 w4 w5 0 s.heap.size) xT_bl (fun _ _ _ => trivial) w_239 w_241 ws_2 w_4 w_242 rfl rfl (by decide +kernel) ⟨Nat.le_of_ble_eq_true rfl, Nat.le_of_ble_eq_true rfl⟩ (hP.sub (ws' := [(h0, .inr (3, [.ref w0, .ref w1, .ref w2, .ref w3, .ref w4, .ref w5, .int 0, .int 0, .int 0]))]) [0] rfl) (hD.sub (ws' := [(h0, .inr (3, [.ref w0, .ref w1, .ref w2, .ref w3, .ref w4, .ref w5, .int 0, .int 0, .int 0]))]) [0] (by decide) rfl) (hK.sub (tys' := []) [] rfl) rfl rfl rfl rfl hl.1 rfl (Nat.le_of_ble_eq_true rfl) d_Wo_nextLine_5 ⟨by decide, by decide⟩) hP hD hK hS hA [0] [] [] rfl rfl (by decide) (by decide) rfl (fun r u H locs hw hP hD hK hS => ?_)
  have hP : va_P (dC, dI) cls [(h0, .inr (3, [.ref w0, .ref w1, .ref w2, .ref w3, .ref w4, .ref w5, .int 0, .int 0, .int 0]))] H := hP
  have hD : va_D A [(h0, .inr (3, [.ref w0, .ref w1, .ref w2, .ref w3, .ref w4, .ref w5, .int 0, .int 0, .int 0]))] := hD
  have hK : va_K (dC, dI) cls [] s := hK
  refine W.widen (k := 0) (n := 0) (by omega) (by omega) ?_
  subst hw
  refine lv_istore_n (i := 1) hx hb d_Wo_nextLine_8 rfl hl (by decide) rfl (fun ls hl => ?_)
  have hl : lv_has ls 2 [(1, .int 0), (0, .ref h0)] := hl
  refine lv_iload_n hx hb d_Wo_nextLine_9 rfl (lv_at hl 0 rfl) ?_
  refine lv_aload_n hx hb d_Wo_nextLine_10 rfl (lv_at hl 1 rfl) ?_
  refine va_get (D := (dC, dI)) (ci := 3) (v := .int 0) (C := R_Wo) (T := F_Wo) (N := 9) hx hb hts in_Wo hown hK hP 0 rfl rfl 6 (by decide) (hts _ w_78) (fun _ h9 => h9) rfl d_Wo_nextLine_11 ?_
  refine lv_icmp_ge (tgt := 21) hx hb d_Wo_nextLine_14 (by decide) (fun _ => ?_) (fun h => absurd (by decide) h)
  refine lv_iconst (v := (-1)) hx hb d_Wo_nextLine_21 (by decide) ?_
  refine W.widen (k := 0) (n := 0) (by decide) (by decide) ?_
  exact W.iret (v := (-1)) hx hb hr (fun t ht hW => ⟨⟨(-1), (), rfl, rfl, cB.of (hP.sub [0] rfl) (hD.sub [0] (by decide) rfl) (hK.sub [] rfl) ht hW⟩, hS.F ht⟩) hS.2.2 d_Wo_nextLine_22
set_option maxHeartbeats 4000000 in
set_option maxRecDepth 100000 in
theorem c_Wo_numberOf (l : Launch) (dC : Nat → ClassId) (dI : Nat → Nat → Nat) (h0 : Nat) (w0 w1 w2 w3 w4 w5 : Nat) (sz : Nat) : Met l y_Wo_numberOf (Cond.code y_Wo_numberOf b_Wo_numberOf 2 (some .int) :: gw) ({ frames := 0, cells := 0, slots := 0, locals := 0 }) (cP (dC, dI) [.ref h0, .int (-1)] sz [(h0, .inr (3, [.ref w0, .ref w1, .ref w2, .ref w3, .ref w4, .ref w5, .int 0, .int 0, .int 0]))] [] xT) (va_Qi (fun (r : Int32) (u : Unit) => r = 0) (fun (u : Unit) t => cB (dC, dI) (va_A [(h0, .inr (3, [.ref w0, .ref w1, .ref w2, .ref w3, .ref w4, .ref w5, .int 0, .int 0, .int 0]))] sz) [(h0, .inr (3, [.ref w0, .ref w1, .ref w2, .ref w3, .ref w4, .ref w5, .int 0, .int 0, .int 0]))] [] t) (va_A [(h0, .inr (3, [.ref w0, .ref w1, .ref w2, .ref w3, .ref w4, .ref w5, .int 0, .int 0, .int 0]))] sz)) 0 0 (va_A [(h0, .inr (3, [.ref w0, .ref w1, .ref w2, .ref w3, .ref w4, .ref w5, .int 0, .int 0, .int 0]))] sz) := by
  refine Met.ofW (cc := b_Wo_numberOf) (maxL := 2) (ret := (some .int)) (by decide) rfl ?_
  intro p e s m args below meth c s₁ B hml hv
  obtain ⟨rfl, hsz, hP, hK, hD0, hkw, hX⟩ := hv
  have hx := B.exec
  have hb := B.bytes
  have hr := B.returns
  have hts := fun w hw => atoms_spec (ws := Cond.code y_Wo_numberOf b_Wo_numberOf 2 (some .int) :: gw) B.pre w (List.mem_cons_of_mem _ hw)
  have hown : s.vm.findClass "LineDisk$Workspace" = some m.cls := findClass_of_methodNamed B.named
  have hlocks := B.notSynchronized
  have hin := (name_of_methodNamed B.named B.method).1
  subst hsz
  have hD := hD0.self (sz := s.heap.size)
  generalize hAe : va_A [(h0, .inr (3, [.ref w0, .ref w1, .ref w2, .ref w3, .ref w4, .ref w5, .int 0, .int 0, .int 0]))] s.heap.size = A at hD ⊢
  have hA : ∀ q : Nat, s.heap.size ≤ q → A q := fun q h => by rw [← hAe]; exact Or.inr h
  have hS : va_S A s.heap s.heap [] := va_S.rf
  have hl := lv_entry ([.ref h0, .int (-1)]) (n := 2) (Nat.le_of_ble_eq_true rfl)
  rw [lg_entry_eq]
  generalize (lg_sl ([.ref h0, .int (-1)]) ++ List.replicate (2 - (lg_sl ([.ref h0, .int (-1)])).length) Slot.unset).toArray = ls at hl ⊢
  have hl : lv_has ls 2 [(0, .ref h0), (1, .int (-1))] := hl
  have F : CallFix p m c b_Wo_numberOf 2 s ([.ref h0, .int (-1)]).toArray gw "LineDisk$Workspace" := ⟨hx, hb, hml, hown, hts⟩
  refine lv_iload_n hx hb d_Wo_numberOf_0 rfl (lv_at hl 1 rfl) ?_
  refine lv_if_lt (tgt := 21) hx hb d_Wo_numberOf_1 (by decide) (fun _ => ?_) (fun h => absurd (by decide) h)
  refine lv_iconst (v := 0) hx hb d_Wo_numberOf_21 (by decide) ?_
  refine W.widen (k := 0) (n := 0) (by decide) (by decide) ?_
  exact W.iret (v := 0) hx hb hr (fun t ht hW => ⟨⟨0, (), rfl, rfl, cB.of (hP.sub [0] rfl) (hD.sub [0] (by decide) rfl) (hK.sub [] rfl) ht hW⟩, hS.F ht⟩) hS.2.2 d_Wo_numberOf_22
set_option maxHeartbeats 4000000 in
set_option maxRecDepth 100000 in
theorem c_Ld_outs (l : Launch) (dC : Nat → ClassId) (dI : Nat → Nat → Nat) (h0 o0 o1 o2 o3 o4 : Nat) (sz : Nat) : Met l y_Ld_outs (Cond.code y_Ld_outs b_Ld_outs 1 (some .int) :: gw) ({ frames := 0, cells := 0, slots := 0, locals := 0 }) (cP (dC, dI) [.ref h0] sz [(h0, .inr (0, [.ref o0, .ref o1, .ref o2, .ref o3, .ref o4, .int 0]))] [] xT) (va_Qi (fun (r : Int32) (u : Unit) => r = 0) (fun (u : Unit) t => cB (dC, dI) (va_A [(h0, .inr (0, [.ref o0, .ref o1, .ref o2, .ref o3, .ref o4, .int 0]))] sz) [] [] t) (va_A [(h0, .inr (0, [.ref o0, .ref o1, .ref o2, .ref o3, .ref o4, .int 0]))] sz)) 0 0 (va_A [(h0, .inr (0, [.ref o0, .ref o1, .ref o2, .ref o3, .ref o4, .int 0]))] sz) := by
  refine Met.ofW (cc := b_Ld_outs) (maxL := 1) (ret := (some .int)) (by decide) rfl ?_
  intro p e s m args below meth c s₁ B hml hv
  obtain ⟨rfl, hsz, hP, hK, hD0, hkw, hX⟩ := hv
  have hx := B.exec
  have hb := B.bytes
  have hr := B.returns
  have hts := fun w hw => atoms_spec (ws := Cond.code y_Ld_outs b_Ld_outs 1 (some .int) :: gw) B.pre w (List.mem_cons_of_mem _ hw)
  have hown : s.vm.findClass "LineDisk" = some m.cls := findClass_of_methodNamed B.named
  have hlocks := B.notSynchronized
  have hin := (name_of_methodNamed B.named B.method).1
  subst hsz
  have hD := hD0.self (sz := s.heap.size)
  generalize hAe : va_A [(h0, .inr (0, [.ref o0, .ref o1, .ref o2, .ref o3, .ref o4, .int 0]))] s.heap.size = A at hD ⊢
  have hA : ∀ q : Nat, s.heap.size ≤ q → A q := fun q h => by rw [← hAe]; exact Or.inr h
  have hS : va_S A s.heap s.heap [] := va_S.rf
  have hl := lv_entry ([.ref h0]) (n := 1) (Nat.le_of_ble_eq_true rfl)
  rw [lg_entry_eq]
  generalize (lg_sl ([.ref h0]) ++ List.replicate (1 - (lg_sl ([.ref h0])).length) Slot.unset).toArray = ls at hl ⊢
  have hl : lv_has ls 1 [(0, .ref h0)] := hl
  have F : CallFix p m c b_Ld_outs 1 s ([.ref h0]).toArray gw "LineDisk" := ⟨hx, hb, hml, hown, hts⟩
  refine lv_aload_n hx hb d_Ld_outs_0 rfl (lv_at hl 0 rfl) ?_
  refine va_get (D := (dC, dI)) (ci := 0) (v := .int 0) (C := R_Ld) (T := F_Ld) (N := 6) hx hb hts in_Ld hown hK hP 0 rfl rfl 5 (by decide) (hts _ w_157) (fun _ h9 => h9) rfl d_Ld_outs_1 ?_
  refine W.widen (k := 0) (n := 0) (by decide) (by decide) ?_
  exact W.iret (v := 0) hx hb hr (fun t ht hW => ⟨⟨0, (), rfl, rfl, cB.of (hP.sub [] rfl) (hD.sub [] (by decide) rfl) (hK.sub [] rfl) ht hW⟩, hS.F ht⟩) hS.2.2 d_Ld_outs_4
set_option maxHeartbeats 4000000 in
set_option maxRecDepth 100000 in
theorem c_Ld_oneStep (l : Launch) (dC : Nat → ClassId) (dI : Nat → Nat → Nat) (h0 o0 o1 o2 o3 o4 : Nat) (w0 w1 w2 w3 w4 w5 : Nat) (sz : Nat) : Met l y_Ld_oneStep (Cond.code y_Ld_oneStep b_Ld_oneStep 4 (some .int) :: gw) ({ frames := 2, cells := 0, slots := 0, locals := 43 }) (cP (dC, dI) [.ref h0] sz [(h0, .inr (0, [.ref o0, .ref o1, .ref o2, .ref o3, .ref o4, .int 0])), (o2, .inr (3, [.ref w0, .ref w1, .ref w2, .ref w3, .ref w4, .ref w5, .int 0, .int 0, .int 0]))] [] xT) (va_Qi (fun (r : Int32) (u : Unit) => r = 0) (fun (u : Unit) t => cB (dC, dI) (va_A [(h0, .inr (0, [.ref o0, .ref o1, .ref o2, .ref o3, .ref o4, .int 0])), (o2, .inr (3, [.ref w0, .ref w1, .ref w2, .ref w3, .ref w4, .ref w5, .int 0, .int 0, .int 0]))] sz) [] [] t) (va_A [(h0, .inr (0, [.ref o0, .ref o1, .ref o2, .ref o3, .ref o4, .int 0])), (o2, .inr (3, [.ref w0, .ref w1, .ref w2, .ref w3, .ref w4, .ref w5, .int 0, .int 0, .int 0]))] sz)) 0 0 (va_A [(h0, .inr (0, [.ref o0, .ref o1, .ref o2, .ref o3, .ref o4, .int 0])), (o2, .inr (3, [.ref w0, .ref w1, .ref w2, .ref w3, .ref w4, .ref w5, .int 0, .int 0, .int 0]))] sz) := by
  refine Met.ofW (cc := b_Ld_oneStep) (maxL := 4) (ret := (some .int)) (by decide) rfl ?_
  intro p e s m args below meth c s₁ B hml hv
  obtain ⟨rfl, hsz, hP, hK, hD0, hkw, hX⟩ := hv
  have hx := B.exec
  have hb := B.bytes
  have hr := B.returns
  have hts := fun w hw => atoms_spec (ws := Cond.code y_Ld_oneStep b_Ld_oneStep 4 (some .int) :: gw) B.pre w (List.mem_cons_of_mem _ hw)
  have hown : s.vm.findClass "LineDisk" = some m.cls := findClass_of_methodNamed B.named
  have hlocks := B.notSynchronized
  have hin := (name_of_methodNamed B.named B.method).1
  subst hsz
  have hD := hD0.self (sz := s.heap.size)
  generalize hAe : va_A [(h0, .inr (0, [.ref o0, .ref o1, .ref o2, .ref o3, .ref o4, .int 0])), (o2, .inr (3, [.ref w0, .ref w1, .ref w2, .ref w3, .ref w4, .ref w5, .int 0, .int 0, .int 0]))] s.heap.size = A at hD ⊢
  have hA : ∀ q : Nat, s.heap.size ≤ q → A q := fun q h => by rw [← hAe]; exact Or.inr h
  have hS : va_S A s.heap s.heap [] := va_S.rf
  have hl := lv_entry ([.ref h0]) (n := 4) (Nat.le_of_ble_eq_true rfl)
  rw [lg_entry_eq]
  generalize (lg_sl ([.ref h0]) ++ List.replicate (4 - (lg_sl ([.ref h0])).length) Slot.unset).toArray = ls at hl ⊢
  have hl : lv_has ls 4 [(0, .ref h0)] := hl
  have F : CallFix p m c b_Ld_oneStep 4 s ([.ref h0]).toArray gw "LineDisk" := ⟨hx, hb, hml, hown, hts⟩
  refine lv_aload_n hx hb d_Ld_oneStep_0 rfl (lv_at hl 0 rfl) ?_
  refine va_get (D := (dC, dI)) (ci := 0) (v := .ref o2) (C := R_Ld) (T := F_Ld) (N := 6) hx hb hts in_Ld hown hK hP 0 rfl rfl 2 (by decide) (hts _ w_154) (fun _ h9 => h9) rfl d_Ld_oneStep_1 ?_
  refine go_i (wr := [(h0, .inr (0, [.ref o0, .ref o1, .ref o2, .ref o3, .ref o4, .int 0]))]) (tr := []) (rV (C := "LineDisk$Workspace") (ci := 3) (q0 := 0) (b := o2) (n := 0) (As := []) (rest := []) F hkw (c_Wo_nextLine l dC dI o2 w0 w1 w2 w3 w4 w5 s.heap.size) xT_bl (fun _ _ _ => trivial) w_439 w_440 w_441 w_4 w_442 rfl rfl (by decide +kernel) ⟨Nat.le_of_ble_eq_true rfl, Nat.le_of_ble_eq_true rfl⟩ (hP.sub (ws' := [(o2, .inr (3, [.ref w0, .ref w1, .ref w2, .ref w3, .ref w4, .ref w5, .int 0, .int 0, .int 0]))]) [1] rfl) (hD.sub (ws' := [(o2, .inr (3, [.ref w0, .ref w1, .ref w2, .ref w3, .ref w4, .ref w5, .int 0, .int 0, .int 0]))]) [1] (by decide) rfl) (hK.sub (tys' := []) [] rfl) rfl rfl rfl rfl hl.1 rfl (Nat.le_of_ble_eq_true rfl) d_Ld_oneStep_4 ⟨by decide, by decide⟩) hP hD hK hS hA [1] [0] [] rfl rfl (by decide) (by decide) rfl (fun r u H locs hw hP hD hK hS => ?_)
  have hP : va_P (dC, dI) cls [(h0, .inr (0, [.ref o0, .ref o1, .ref o2, .ref o3, .ref o4, .int 0])), (o2, .inr (3, [.ref w0, .ref w1, .ref w2, .ref w3, .ref w4, .ref w5, .int 0, .int 0, .int 0]))] H := hP
  have hD : va_D A [(h0, .inr (0, [.ref o0, .ref o1, .ref o2, .ref o3, .ref o4, .int 0])), (o2, .inr (3, [.ref w0, .ref w1, .ref w2, .ref w3, .ref w4, .ref w5, .int 0, .int 0, .int 0]))] := hD
  have hK : va_K (dC, dI) cls [] s := hK
  refine W.widen (k := 0) (n := 0) (by omega) (by omega) ?_
  subst hw
  refine lv_istore_n (i := 1) hx hb d_Ld_oneStep_7 rfl hl (by decide) rfl (fun ls hl => ?_)
  have hl : lv_has ls 4 [(1, .int (-1)), (0, .ref h0)] := hl
  refine lv_iload_n hx hb d_Ld_oneStep_8 rfl (lv_at hl 0 rfl) ?_
  refine lv_iconst (v := (-1)) hx hb d_Ld_oneStep_9 (by decide) ?_
  refine lv_icmp_eq (tgt := 54) hx hb d_Ld_oneStep_10 (by decide) (fun _ => ?_) (fun h => absurd (by decide) h)
  refine lv_iconst (v := 0) hx hb d_Ld_oneStep_54 (by decide) ?_
  refine lv_istore_n (i := 2) hx hb d_Ld_oneStep_55 rfl hl (by decide) rfl (fun ls hl => ?_)
  have hl : lv_has ls 4 [(2, .int 0), (1, .int (-1)), (0, .ref h0)] := hl
  refine lv_iload_n hx hb d_Ld_oneStep_56 rfl (lv_at hl 0 rfl) ?_
  refine lv_if_eq (tgt := 72) hx hb d_Ld_oneStep_57 (by decide) (fun _ => ?_) (fun h => absurd (by decide) h)
  refine lv_aload_n hx hb d_Ld_oneStep_72 rfl (lv_at hl 2 rfl) ?_
  refine va_get (D := (dC, dI)) (ci := 0) (v := .ref o2) (C := R_Ld) (T := F_Ld) (N := 6) hx hb hts in_Ld hown hK hP 0 rfl rfl 2 (by decide) (hts _ w_154) (fun _ h9 => h9) rfl d_Ld_oneStep_73 ?_
  refine lv_iconst (v := 0) hx hb d_Ld_oneStep_76 (by decide) ?_
  refine va_putN (D := (dC, dI)) (ci := 3) (v := .int 0) (ty := .int) (C := R_Wo) (T := F_Wo) (N := 9) hx hb hts in_Wo t_Wo t_Wo_ok n_Wo hown hK hP hD hS 1 rfl rfl 7 (by decide) (hkw.use v_81 rfl) (fun _ h9 => h9) rfl (by decide +kernel) (rfl) (rfl) (Nat.le_of_ble_eq_true rfl) d_Ld_oneStep_77 (fun H locs hP hD hS => ?_)
  have hP : va_P (dC, dI) cls [(h0, .inr (0, [.ref o0, .ref o1, .ref o2, .ref o3, .ref o4, .int 0])), (o2, .inr (3, [.ref w0, .ref w1, .ref w2, .ref w3, .ref w4, .ref w5, .int 0, .int 0, .int 0]))] H := hP
  have hD : va_D A [(h0, .inr (0, [.ref o0, .ref o1, .ref o2, .ref o3, .ref o4, .int 0])), (o2, .inr (3, [.ref w0, .ref w1, .ref w2, .ref w3, .ref w4, .ref w5, .int 0, .int 0, .int 0]))] := hD
  refine lv_iconst (v := 0) hx hb d_Ld_oneStep_80 (by decide) ?_
  refine W.widen (k := 0) (n := 0) (by decide) (by decide) ?_
  exact W.iret (v := 0) hx hb hr (fun t ht hW => ⟨⟨0, (), rfl, rfl, cB.of (hP.sub [] rfl) (hD.sub [] (by decide) rfl) (hK.sub [] rfl) ht hW⟩, hS.F ht⟩) hS.2.2 d_Ld_oneStep_81
set_option maxHeartbeats 4000000 in
set_option maxRecDepth 100000 in
theorem c_Ld_step (l : Launch) (dC : Nat → ClassId) (dI : Nat → Nat → Nat) (h0 o0 o1 o2 o3 o4 : Nat) (c0 : Nat) (w0 w1 w2 w3 w4 w5 : Nat) (x : Int32) (sz : Nat) : Met l y_Ld_step (Cond.code y_Ld_step b_Ld_step 5 (some .int) :: gw) ({ frames := 3, cells := 0, slots := 0, locals := 66 }) (cP (dC, dI) [.ref h0, .int x] sz [(h0, .inr (0, [.ref o0, .ref o1, .ref o2, .ref o3, .ref o4, .int 0])), (o0, .inr (1, [.ref c0, .int (-1), .int 0, .int 0])), (o2, .inr (3, [.ref w0, .ref w1, .ref w2, .ref w3, .ref w4, .ref w5, .int 0, .int 0, .int 0]))] [] xT) (va_Qi (fun (r : Int32) (u : Unit) => r = 0) (fun (u : Unit) t => cB (dC, dI) (va_A [(h0, .inr (0, [.ref o0, .ref o1, .ref o2, .ref o3, .ref o4, .int 0])), (o0, .inr (1, [.ref c0, .int (-1), .int 0, .int 0])), (o2, .inr (3, [.ref w0, .ref w1, .ref w2, .ref w3, .ref w4, .ref w5, .int 0, .int 0, .int 0]))] sz) [] [] t) (va_A [(h0, .inr (0, [.ref o0, .ref o1, .ref o2, .ref o3, .ref o4, .int 0])), (o0, .inr (1, [.ref c0, .int (-1), .int 0, .int 0])), (o2, .inr (3, [.ref w0, .ref w1, .ref w2, .ref w3, .ref w4, .ref w5, .int 0, .int 0, .int 0]))] sz)) 0 0 (va_A [(h0, .inr (0, [.ref o0, .ref o1, .ref o2, .ref o3, .ref o4, .int 0])), (o0, .inr (1, [.ref c0, .int (-1), .int 0, .int 0])), (o2, .inr (3, [.ref w0, .ref w1, .ref w2, .ref w3, .ref w4, .ref w5, .int 0, .int 0, .int 0]))] sz) := by
  refine Met.ofW (cc := b_Ld_step) (maxL := 5) (ret := (some .int)) (by decide) rfl ?_
  intro p e s m args below meth c s₁ B hml hv
  obtain ⟨rfl, hsz, hP, hK, hD0, hkw, hX⟩ := hv
  have hx := B.exec
  have hb := B.bytes
  have hr := B.returns
  have hts := fun w hw => atoms_spec (ws := Cond.code y_Ld_step b_Ld_step 5 (some .int) :: gw) B.pre w (List.mem_cons_of_mem _ hw)
  have hown : s.vm.findClass "LineDisk" = some m.cls := findClass_of_methodNamed B.named
  have hlocks := B.notSynchronized
  have hin := (name_of_methodNamed B.named B.method).1
  subst hsz
  have hD := hD0.self (sz := s.heap.size)
  generalize hAe : va_A [(h0, .inr (0, [.ref o0, .ref o1, .ref o2, .ref o3, .ref o4, .int 0])), (o0, .inr (1, [.ref c0, .int (-1), .int 0, .int 0])), (o2, .inr (3, [.ref w0, .ref w1, .ref w2, .ref w3, .ref w4, .ref w5, .int 0, .int 0, .int 0]))] s.heap.size = A at hD ⊢
  have hA : ∀ q : Nat, s.heap.size ≤ q → A q := fun q h => by rw [← hAe]; exact Or.inr h
  have hS : va_S A s.heap s.heap [] := va_S.rf
  have hl := lv_entry ([.ref h0, .int x]) (n := 5) (Nat.le_of_ble_eq_true rfl)
  rw [lg_entry_eq]
  generalize (lg_sl ([.ref h0, .int x]) ++ List.replicate (5 - (lg_sl ([.ref h0, .int x])).length) Slot.unset).toArray = ls at hl ⊢
  have hl : lv_has ls 5 [(0, .ref h0), (1, .int x)] := hl
  have F : CallFix p m c b_Ld_step 5 s ([.ref h0, .int x]).toArray gw "LineDisk" := ⟨hx, hb, hml, hown, hts⟩
  refine lv_aload_n hx hb d_Ld_step_0 rfl (lv_at hl 0 rfl) ?_
  refine va_get (D := (dC, dI)) (ci := 0) (v := .ref o0) (C := R_Ld) (T := F_Ld) (N := 6) hx hb hts in_Ld hown hK hP 0 rfl rfl 0 (by decide) (hts _ w_152) (fun _ h9 => h9) rfl d_Ld_step_1 ?_
  refine va_getN (D := (dC, dI)) (ci := 1) (v := .int 0) (C := R_St) (T := F_St) (N := 4) hx hb hts in_St hown hK hP 1 rfl rfl 2 (by decide) (hkw.use v_33 rfl) (fun _ h9 => h9) rfl d_Ld_step_4 ?_
  refine lv_if_eq (tgt := 13) hx hb d_Ld_step_7 (by decide) (fun _ => ?_) (fun h => absurd (by decide) h)
  refine lv_iconst (v := 1) hx hb d_Ld_step_13 (by decide) ?_
  refine lv_bipush (v := 50) hx hb d_Ld_step_14 (by decide) ?_
  refine lv_iload_n hx hb d_Ld_step_16 rfl (lv_at hl 1 rfl) ?_
  refine va_mmin (rest := [.int 1]) hx hb (by rw [hml]; exact hl.1.symm) hown (hts _ w_429) (hts _ w_430) (hts _ w_9) (hts _ w_431) (Nat.le_of_ble_eq_true rfl) (Nat.le_of_ble_eq_true rfl) (by decide) (by decide) d_Ld_step_17 ?_
  refine va_mmax (rest := []) hx hb (by rw [hml]; exact hl.1.symm) hown (hts _ w_432) (hts _ w_433) (hts _ w_9) (hts _ w_434) (Nat.le_of_ble_eq_true rfl) (Nat.le_of_ble_eq_true rfl) (by decide) (by decide) d_Ld_step_20 ?_
  refine lv_topi (fun mo emo => ?_)
  refine lv_istore_n (i := 2) hx hb d_Ld_step_23 rfl hl (by decide) rfl (fun ls hl => ?_)
  have hl : lv_has ls 5 [(2, .int mo), (0, .ref h0), (1, .int x)] := hl
  refine lv_iconst (v := 0) hx hb d_Ld_step_24 (by decide) ?_
  refine lv_istore_n (i := 3) hx hb d_Ld_step_25 rfl hl (by decide) rfl (fun ls hl => ?_)
  have hl : lv_has ls 5 [(3, .int 0), (2, .int mo), (0, .ref h0), (1, .int x)] := hl
  refine lv_iload_n hx hb d_Ld_step_26 rfl (lv_at hl 0 rfl) ?_
  refine lv_iload_n hx hb d_Ld_step_27 rfl (lv_at hl 1 rfl) ?_
  refine lv_icmp_ge (tgt := 53) hx hb d_Ld_step_28 (by decide) (fun h => absurd h (by rw [emo]; exact mm1 _)) (fun _ => ?_)
  refine lv_aload_n hx hb d_Ld_step_31 rfl (lv_at hl 2 rfl) ?_
  refine go_i (wr := [(o0, .inr (1, [.ref c0, .int (-1), .int 0, .int 0]))]) (tr := []) (rV (C := "LineDisk") (ci := 0) (q0 := 0) (b := h0) (n := 0) (As := []) (rest := []) F hkw (c_Ld_oneStep l dC dI h0 o0 o1 o2 o3 o4 w0 w1 w2 w3 w4 w5 s.heap.size) xT_bl (fun _ _ _ => trivial) w_435 w_437 ws_27 w_1 w_438 rfl rfl (by decide +kernel) ⟨Nat.le_of_ble_eq_true rfl, Nat.le_of_ble_eq_true rfl⟩ (hP.sub (ws' := [(h0, .inr (0, [.ref o0, .ref o1, .ref o2, .ref o3, .ref o4, .int 0])), (o2, .inr (3, [.ref w0, .ref w1, .ref w2, .ref w3, .ref w4, .ref w5, .int 0, .int 0, .int 0]))]) [0, 2] rfl) (hD.sub (ws' := [(h0, .inr (0, [.ref o0, .ref o1, .ref o2, .ref o3, .ref o4, .int 0])), (o2, .inr (3, [.ref w0, .ref w1, .ref w2, .ref w3, .ref w4, .ref w5, .int 0, .int 0, .int 0]))]) [0, 2] (by decide) rfl) (hK.sub (tys' := []) [] rfl) rfl rfl rfl rfl hl.1 rfl (Nat.le_of_ble_eq_true rfl) d_Ld_step_32 ⟨by decide, by decide⟩) hP hD hK hS hA [0, 2] [1] [] rfl rfl (by decide) (by decide) rfl (fun r u H locs hw hP hD hK hS => ?_)
  have hP : va_P (dC, dI) cls [(o0, .inr (1, [.ref c0, .int (-1), .int 0, .int 0]))] H := hP
  have hD : va_D A [(o0, .inr (1, [.ref c0, .int (-1), .int 0, .int 0]))] := hD
  have hK : va_K (dC, dI) cls [] s := hK
  refine W.widen (k := 0) (n := 0) (by omega) (by omega) ?_
  subst hw
  refine lv_istore hx hb d_Ld_step_35 hl (by decide) rfl (fun ls hl => ?_)
  have hl : lv_has ls 5 [(4, .int 0), (3, .int 0), (2, .int mo), (0, .ref h0), (1, .int x)] := hl
  refine lv_iload hx hb d_Ld_step_37 (lv_at hl 0 rfl) ?_
  refine lv_bipush (v := 6) hx hb d_Ld_step_39 (by decide) ?_
  refine lv_icmp_eq (tgt := 47) hx hb d_Ld_step_41 (by decide) (fun h => absurd h (by decide)) (fun _ => ?_)
  refine lv_iload hx hb d_Ld_step_44 (lv_at hl 0 rfl) ?_
  refine W.widen (k := 0) (n := 0) (by decide) (by decide) ?_
  exact W.iret (v := 0) hx hb hr (fun t ht hW => ⟨⟨0, (), rfl, rfl, cB.of (hP.sub [] rfl) (hD.sub [] (by decide) rfl) (hK.sub [] rfl) ht hW⟩, hS.F ht⟩) hS.2.2 d_Ld_step_46
set_option maxHeartbeats 4000000 in
set_option maxRecDepth 100000 in
theorem c_Ld_feed (l : Launch) (dC : Nat → ClassId) (dI : Nat → Nat → Nat) (h0 o0 o1 o2 o3 o4 : Nat) (c0 : Nat) (w0 w1 w2 w3 w4 w5 : Nat) (cA : ClassId) (x : Int32) (sz : Nat) : Met l y_Ld_feed (Cond.code y_Ld_feed b_Ld_feed 4 (some .int) :: gw) ({ frames := 1, cells := 0, slots := 0, locals := 21 }) (cP (dC, dI) [.ref h0, .int x] sz [(h0, .inr (0, [.ref o0, .ref o1, .ref o2, .ref o3, .ref o4, .int 0])), (o0, .inr (1, [.ref c0, .int (-1), .int 0, .int 0])), (o2, .inr (3, [.ref w0, .ref w1, .ref w2, .ref w3, .ref w4, .ref w5, .int 0, .int 0, .int 0])), (w5, .inl (cA, 15, .inl (fun _ => 0)))] [(cA, .int)] xT) (va_Qi (fun (r : Int32) (u : Unit) => r = 0) (fun (u : Unit) t => cB (dC, dI) (va_A [(h0, .inr (0, [.ref o0, .ref o1, .ref o2, .ref o3, .ref o4, .int 0])), (o0, .inr (1, [.ref c0, .int (-1), .int 0, .int 0])), (o2, .inr (3, [.ref w0, .ref w1, .ref w2, .ref w3, .ref w4, .ref w5, .int 0, .int 0, .int 0])), (w5, .inl (cA, 15, .inl (fun _ => 0)))] sz) [] [] t) (va_A [(h0, .inr (0, [.ref o0, .ref o1, .ref o2, .ref o3, .ref o4, .int 0])), (o0, .inr (1, [.ref c0, .int (-1), .int 0, .int 0])), (o2, .inr (3, [.ref w0, .ref w1, .ref w2, .ref w3, .ref w4, .ref w5, .int 0, .int 0, .int 0])), (w5, .inl (cA, 15, .inl (fun _ => 0)))] sz)) 0 0 (va_A [(h0, .inr (0, [.ref o0, .ref o1, .ref o2, .ref o3, .ref o4, .int 0])), (o0, .inr (1, [.ref c0, .int (-1), .int 0, .int 0])), (o2, .inr (3, [.ref w0, .ref w1, .ref w2, .ref w3, .ref w4, .ref w5, .int 0, .int 0, .int 0])), (w5, .inl (cA, 15, .inl (fun _ => 0)))] sz) := by
  refine Met.ofW (cc := b_Ld_feed) (maxL := 4) (ret := (some .int)) (by decide) rfl ?_
  intro p e s m args below meth c s₁ B hml hv
  obtain ⟨rfl, hsz, hP, hK, hD0, hkw, hX⟩ := hv
  have hx := B.exec
  have hb := B.bytes
  have hr := B.returns
  have hts := fun w hw => atoms_spec (ws := Cond.code y_Ld_feed b_Ld_feed 4 (some .int) :: gw) B.pre w (List.mem_cons_of_mem _ hw)
  have hown : s.vm.findClass "LineDisk" = some m.cls := findClass_of_methodNamed B.named
  have hlocks := B.notSynchronized
  have hin := (name_of_methodNamed B.named B.method).1
  subst hsz
  have hD := hD0.self (sz := s.heap.size)
  generalize hAe : va_A [(h0, .inr (0, [.ref o0, .ref o1, .ref o2, .ref o3, .ref o4, .int 0])), (o0, .inr (1, [.ref c0, .int (-1), .int 0, .int 0])), (o2, .inr (3, [.ref w0, .ref w1, .ref w2, .ref w3, .ref w4, .ref w5, .int 0, .int 0, .int 0])), (w5, .inl (cA, 15, .inl (fun _ => 0)))] s.heap.size = A at hD ⊢
  have hA : ∀ q : Nat, s.heap.size ≤ q → A q := fun q h => by rw [← hAe]; exact Or.inr h
  have hS : va_S A s.heap s.heap [] := va_S.rf
  have hl := lv_entry ([.ref h0, .int x]) (n := 4) (Nat.le_of_ble_eq_true rfl)
  rw [lg_entry_eq]
  generalize (lg_sl ([.ref h0, .int x]) ++ List.replicate (4 - (lg_sl ([.ref h0, .int x])).length) Slot.unset).toArray = ls at hl ⊢
  have hl : lv_has ls 4 [(0, .ref h0), (1, .int x)] := hl
  have F : CallFix p m c b_Ld_feed 4 s ([.ref h0, .int x]).toArray gw "LineDisk" := ⟨hx, hb, hml, hown, hts⟩
  refine lv_aload_n hx hb d_Ld_feed_0 rfl (lv_at hl 0 rfl) ?_
  refine va_get (D := (dC, dI)) (ci := 0) (v := .ref o0) (C := R_Ld) (T := F_Ld) (N := 6) hx hb hts in_Ld hown hK hP 0 rfl rfl 0 (by decide) (hts _ w_152) (fun _ h9 => h9) rfl d_Ld_feed_1 ?_
  refine va_getN (D := (dC, dI)) (ci := 1) (v := .int 0) (C := R_St) (T := F_St) (N := 4) hx hb hts in_St hown hK hP 1 rfl rfl 2 (by decide) (hkw.use v_33 rfl) (fun _ h9 => h9) rfl d_Ld_feed_4 ?_
  refine lv_if_eq (tgt := 13) hx hb d_Ld_feed_7 (by decide) (fun _ => ?_) (fun h => absurd (by decide) h)
  refine lv_iload_n hx hb d_Ld_feed_13 rfl (lv_at hl 1 rfl) ?_
  refine lv_bipush (v := 10) hx hb d_Ld_feed_14 (by decide) ?_
  refine lv_icmp_eq (tgt := 29) hx hb d_Ld_feed_16 (by decide) (fun hx10 => ?_) (fun hx10 => ?_)
  · skip
    refine lv_aload_n hx hb d_Ld_feed_29 rfl (lv_at hl 0 rfl) ?_
    refine va_get (D := (dC, dI)) (ci := 0) (v := .ref o2) (C := R_Ld) (T := F_Ld) (N := 6) hx hb hts in_Ld hown hK hP 0 rfl rfl 2 (by decide) (hts _ w_154) (fun _ h9 => h9) rfl d_Ld_feed_30 ?_
    refine va_getN (D := (dC, dI)) (ci := 3) (v := .ref w5) (C := R_Wo) (T := F_Wo) (N := 9) hx hb hts in_Wo hown hK hP 2 rfl rfl 5 (by decide) (hkw.use v_77 rfl) (fun _ h9 => h9) rfl d_Ld_feed_33 ?_
    refine lv_astore_n (i := 2) hx hb d_Ld_feed_36 rfl hl (by decide) rfl (fun ls hl => ?_)
    have hl : lv_has ls 4 [(2, .ref w5), (0, .ref h0), (1, .int x)] := hl
    refine lv_aload_n hx hb d_Ld_feed_37 rfl (lv_at hl 1 rfl) ?_
    refine va_get (D := (dC, dI)) (ci := 0) (v := .ref o2) (C := R_Ld) (T := F_Ld) (N := 6) hx hb hts in_Ld hown hK hP 0 rfl rfl 2 (by decide) (hts _ w_154) (fun _ h9 => h9) rfl d_Ld_feed_38 ?_
    refine va_getN (D := (dC, dI)) (ci := 3) (v := .int 0) (C := R_Wo) (T := F_Wo) (N := 9) hx hb hts in_Wo hown hK hP 2 rfl rfl 8 (by decide) (hkw.use v_83 rfl) (fun _ h9 => h9) rfl d_Ld_feed_41 ?_
    refine lv_istore_n (i := 3) hx hb d_Ld_feed_44 rfl hl (by decide) rfl (fun ls hl => ?_)
    have hl : lv_has ls 4 [(3, .int 0), (2, .ref w5), (0, .ref h0), (1, .int x)] := hl
    refine lv_aload_n hx hb d_Ld_feed_45 rfl (lv_at hl 2 rfl) ?_
    refine va_get (D := (dC, dI)) (ci := 0) (v := .ref o2) (C := R_Ld) (T := F_Ld) (N := 6) hx hb hts in_Ld hown hK hP 0 rfl rfl 2 (by decide) (hts _ w_154) (fun _ h9 => h9) rfl d_Ld_feed_46 ?_
    refine lv_iconst (v := 0) hx hb d_Ld_feed_49 (by decide) ?_
    refine va_putN (D := (dC, dI)) (ci := 3) (v := .int 0) (ty := .int) (C := R_Wo) (T := F_Wo) (N := 9) hx hb hts in_Wo t_Wo t_Wo_ok n_Wo hown hK hP hD hS 2 rfl rfl 8 (by decide) (hkw.use v_83 rfl) (fun _ h9 => h9) rfl (by decide +kernel) (rfl) (rfl) (Nat.le_of_ble_eq_true rfl) d_Ld_feed_50 (fun H locs hP hD hS => ?_)
    have hP : va_P (dC, dI) cls [(h0, .inr (0, [.ref o0, .ref o1, .ref o2, .ref o3, .ref o4, .int 0])), (o0, .inr (1, [.ref c0, .int (-1), .int 0, .int 0])), (o2, .inr (3, [.ref w0, .ref w1, .ref w2, .ref w3, .ref w4, .ref w5, .int 0, .int 0, .int 0])), (w5, .inl (cA, 15, .inl (fun _ => 0)))] H := hP
    have hD : va_D A [(h0, .inr (0, [.ref o0, .ref o1, .ref o2, .ref o3, .ref o4, .int 0])), (o0, .inr (1, [.ref c0, .int (-1), .int 0, .int 0])), (o2, .inr (3, [.ref w0, .ref w1, .ref w2, .ref w3, .ref w4, .ref w5, .int 0, .int 0, .int 0])), (w5, .inl (cA, 15, .inl (fun _ => 0)))] := hD
    refine lv_iload_n hx hb d_Ld_feed_53 rfl (lv_at hl 0 rfl) ?_
    refine lv_if_ne (tgt := 59) hx hb d_Ld_feed_54 (by decide) (fun h => absurd (by decide) h) (fun _ => ?_)
    refine lv_iconst (v := 0) hx hb d_Ld_feed_57 (by decide) ?_
    refine W.widen (k := 0) (n := 0) (by decide) (by decide) ?_
    exact W.iret (v := 0) hx hb hr (fun t ht hW => ⟨⟨0, (), rfl, rfl, cB.of (hP.sub [] rfl) (hD.sub [] (by decide) rfl) (hK.sub [] rfl) ht hW⟩, hS.F ht⟩) hS.2.2 d_Ld_feed_58
  · skip
    refine lv_aload_n hx hb d_Ld_feed_19 rfl (lv_at hl 0 rfl) ?_
    refine va_get (D := (dC, dI)) (ci := 0) (v := .ref o2) (C := R_Ld) (T := F_Ld) (N := 6) hx hb hts in_Ld hown hK hP 0 rfl rfl 2 (by decide) (hts _ w_154) (fun _ h9 => h9) rfl d_Ld_feed_20 ?_
    refine lv_iload_n hx hb d_Ld_feed_23 rfl (lv_at hl 1 rfl) ?_
    refine go_v (wr := [(h0, .inr (0, [.ref o0, .ref o1, .ref o2, .ref o3, .ref o4, .int 0])), (o0, .inr (1, [.ref c0, .int (-1), .int 0, .int 0]))]) (tr := []) (rV (C := "LineDisk$Workspace") (ci := 3) (q0 := 0) (b := o2) (n := 1) (As := [.int x]) (rest := []) F hkw (c_Wo_keep l dC dI o2 w0 w1 w2 w3 w4 w5 cA x s.heap.size) xT_bl (fun _ _ _ => trivial) w_224 w_225 w_226 w_4 w_227 rfl rfl (by decide +kernel) ⟨Nat.le_of_ble_eq_true rfl, Nat.le_of_ble_eq_true rfl⟩ (hP.sub (ws' := [(o2, .inr (3, [.ref w0, .ref w1, .ref w2, .ref w3, .ref w4, .ref w5, .int 0, .int 0, .int 0])), (w5, .inl (cA, 15, .inl (fun _ => 0)))]) [2, 3] rfl) (hD.sub (ws' := [(o2, .inr (3, [.ref w0, .ref w1, .ref w2, .ref w3, .ref w4, .ref w5, .int 0, .int 0, .int 0])), (w5, .inl (cA, 15, .inl (fun _ => 0)))]) [2, 3] (by decide) rfl) (hK.sub (tys' := [(cA, .int)]) [0] rfl) rfl rfl rfl rfl hl.1 rfl (Nat.le_of_ble_eq_true rfl) d_Ld_feed_24 ⟨by decide, by decide⟩) hP hD hK hS hA [2, 3] [0, 1] [] rfl rfl (by decide) (by decide) rfl (fun u H locs _ hP hD hK hS => ?_)
    have hP : va_P (dC, dI) cls [(h0, .inr (0, [.ref o0, .ref o1, .ref o2, .ref o3, .ref o4, .int 0])), (o0, .inr (1, [.ref c0, .int (-1), .int 0, .int 0]))] H := hP
    have hD : va_D A [(h0, .inr (0, [.ref o0, .ref o1, .ref o2, .ref o3, .ref o4, .int 0])), (o0, .inr (1, [.ref c0, .int (-1), .int 0, .int 0]))] := hD
    have hK : va_K (dC, dI) cls [] s := hK
    refine W.widen (k := 0) (n := 0) (by omega) (by omega) ?_
    refine lv_iconst (v := 0) hx hb d_Ld_feed_27 (by decide) ?_
    refine W.widen (k := 0) (n := 0) (by decide) (by decide) ?_
    exact W.iret (v := 0) hx hb hr (fun t ht hW => ⟨⟨0, (), rfl, rfl, cB.of (hP.sub [] rfl) (hD.sub [] (by decide) rfl) (hK.sub [] rfl) ht hW⟩, hS.F ht⟩) hS.2.2 d_Ld_feed_28
set_option maxHeartbeats 4000000 in
set_option maxRecDepth 100000 in
theorem c_Ld_files (l : Launch) (dC : Nat → ClassId) (dI : Nat → Nat → Nat) (h0 o0 o1 o2 o3 o4 : Nat) (c0 : Nat) (cA : ClassId) (sz : Nat) : Met l y_Ld_files (Cond.code y_Ld_files b_Ld_files 3 (some .int) :: gw) ({ frames := 1, cells := 0, slots := 0, locals := 20 }) (cP (dC, dI) [.ref h0] sz [(h0, .inr (0, [.ref o0, .ref o1, .ref o2, .ref o3, .ref o4, .int 0])), (o0, .inr (1, [.ref c0, .int (-1), .int 0, .int 0])), (c0, .inl (cA, 512, .inl (fun _ => 0)))] [(cA, .int)] xT) (va_Qi (fun (r : Int32) (u : Unit) => r = 8) (fun (u : Unit) t => cB (dC, dI) (va_A [(h0, .inr (0, [.ref o0, .ref o1, .ref o2, .ref o3, .ref o4, .int 0])), (o0, .inr (1, [.ref c0, .int (-1), .int 0, .int 0])), (c0, .inl (cA, 512, .inl (fun _ => 0)))] sz) [] [] t) (va_A [(h0, .inr (0, [.ref o0, .ref o1, .ref o2, .ref o3, .ref o4, .int 0])), (o0, .inr (1, [.ref c0, .int (-1), .int 0, .int 0])), (c0, .inl (cA, 512, .inl (fun _ => 0)))] sz)) 0 0 (va_A [(h0, .inr (0, [.ref o0, .ref o1, .ref o2, .ref o3, .ref o4, .int 0])), (o0, .inr (1, [.ref c0, .int (-1), .int 0, .int 0])), (c0, .inl (cA, 512, .inl (fun _ => 0)))] sz) := by
  refine Met.ofW (cc := b_Ld_files) (maxL := 3) (ret := (some .int)) (by decide) rfl ?_
  intro p e s m args below meth c s₁ B hml hv
  obtain ⟨rfl, hsz, hP, hK, hD0, hkw, hX⟩ := hv
  have hx := B.exec
  have hb := B.bytes
  have hr := B.returns
  have hts := fun w hw => atoms_spec (ws := Cond.code y_Ld_files b_Ld_files 3 (some .int) :: gw) B.pre w (List.mem_cons_of_mem _ hw)
  have hown : s.vm.findClass "LineDisk" = some m.cls := findClass_of_methodNamed B.named
  have hlocks := B.notSynchronized
  have hin := (name_of_methodNamed B.named B.method).1
  subst hsz
  have hD := hD0.self (sz := s.heap.size)
  generalize hAe : va_A [(h0, .inr (0, [.ref o0, .ref o1, .ref o2, .ref o3, .ref o4, .int 0])), (o0, .inr (1, [.ref c0, .int (-1), .int 0, .int 0])), (c0, .inl (cA, 512, .inl (fun _ => 0)))] s.heap.size = A at hD ⊢
  have hA : ∀ q : Nat, s.heap.size ≤ q → A q := fun q h => by rw [← hAe]; exact Or.inr h
  have hS : va_S A s.heap s.heap [] := va_S.rf
  have hl := lv_entry ([.ref h0]) (n := 3) (Nat.le_of_ble_eq_true rfl)
  rw [lg_entry_eq]
  generalize (lg_sl ([.ref h0]) ++ List.replicate (3 - (lg_sl ([.ref h0])).length) Slot.unset).toArray = ls at hl ⊢
  have hl : lv_has ls 3 [(0, .ref h0)] := hl
  have F : CallFix p m c b_Ld_files 3 s ([.ref h0]).toArray gw "LineDisk" := ⟨hx, hb, hml, hown, hts⟩
  refine lv_aload_n hx hb d_Ld_files_0 rfl (lv_at hl 0 rfl) ?_
  refine va_get (D := (dC, dI)) (ci := 0) (v := .ref o0) (C := R_Ld) (T := F_Ld) (N := 6) hx hb hts in_Ld hown hK hP 0 rfl rfl 0 (by decide) (hts _ w_152) (fun _ h9 => h9) rfl d_Ld_files_1 ?_
  refine va_getN (D := (dC, dI)) (ci := 1) (v := .int 0) (C := R_St) (T := F_St) (N := 4) hx hb hts in_St hown hK hP 1 rfl rfl 2 (by decide) (hkw.use v_33 rfl) (fun _ h9 => h9) rfl d_Ld_files_4 ?_
  refine lv_if_eq (tgt := 13) hx hb d_Ld_files_7 (by decide) (fun _ => ?_) (fun h => absurd (by decide) h)
  refine lv_aload_n hx hb d_Ld_files_13 rfl (lv_at hl 0 rfl) ?_
  refine va_get (D := (dC, dI)) (ci := 0) (v := .ref o0) (C := R_Ld) (T := F_Ld) (N := 6) hx hb hts in_Ld hown hK hP 0 rfl rfl 0 (by decide) (hts _ w_152) (fun _ h9 => h9) rfl d_Ld_files_14 ?_
  refine go_i (wr := [(h0, .inr (0, [.ref o0, .ref o1, .ref o2, .ref o3, .ref o4, .int 0]))]) (tr := []) (rV (C := "LineDisk$Store") (ci := 1) (q0 := 0) (b := o0) (n := 0) (As := []) (rest := []) F hkw (c_St_isF l dC dI o0 c0 cA s.heap.size) xT_bl (fun _ _ _ => trivial) w_201 w_202 w_203 w_2 w_204 rfl rfl (by decide +kernel) ⟨Nat.le_of_ble_eq_true rfl, Nat.le_of_ble_eq_true rfl⟩ (hP.sub (ws' := [(o0, .inr (1, [.ref c0, .int (-1), .int 0, .int 0])), (c0, .inl (cA, 512, .inl (fun _ => 0)))]) [1, 2] rfl) (hD.sub (ws' := [(o0, .inr (1, [.ref c0, .int (-1), .int 0, .int 0])), (c0, .inl (cA, 512, .inl (fun _ => 0)))]) [1, 2] (by decide) rfl) (hK.sub (tys' := [(cA, .int)]) [0] rfl) rfl rfl rfl rfl hl.1 rfl (Nat.le_of_ble_eq_true rfl) d_Ld_files_17 ⟨by decide, by decide⟩) hP hD hK hS hA [1, 2] [0] [] rfl rfl (by decide) (by decide) rfl (fun r u H locs hw hP hD hK hS => ?_)
  have hP : va_P (dC, dI) cls [(h0, .inr (0, [.ref o0, .ref o1, .ref o2, .ref o3, .ref o4, .int 0])), (o0, .inr (1, [.ref c0, .int (-1), .int 0, .int 0])), (c0, .inl (cA, 512, .inl (fun _ => 0)))] H := hP
  have hD : va_D A [(h0, .inr (0, [.ref o0, .ref o1, .ref o2, .ref o3, .ref o4, .int 0])), (o0, .inr (1, [.ref c0, .int (-1), .int 0, .int 0])), (c0, .inl (cA, 512, .inl (fun _ => 0)))] := hD
  have hK : va_K (dC, dI) cls [(cA, .int)] s := hK
  refine W.widen (k := 0) (n := 0) (by omega) (by omega) ?_
  subst hw
  refine lv_if_ne (tgt := 26) hx hb d_Ld_files_20 (by decide) (fun h => absurd (by decide) h) (fun _ => ?_)
  refine lv_bipush (v := 8) hx hb d_Ld_files_23 (by decide) ?_
  refine W.widen (k := 0) (n := 0) (by decide) (by decide) ?_
  exact W.iret (v := 8) hx hb hr (fun t ht hW => ⟨⟨8, (), rfl, rfl, cB.of (hP.sub [] rfl) (hD.sub [] (by decide) rfl) (hK.sub [] rfl) ht hW⟩, hS.F ht⟩) hS.2.2 d_Ld_files_25
set_option maxHeartbeats 4000000 in
set_option maxRecDepth 100000 in
theorem c_Ld_disk (l : Launch) (dC : Nat → ClassId) (dI : Nat → Nat → Nat) (h0 o0 o1 o2 o3 o4 : Nat) (c0 : Nat) (cA : ClassId) (x : Int32) (h1 : ¬ x < 0) (h2 : x < 512) (sz : Nat) : Met l y_Ld_disk (Cond.code y_Ld_disk b_Ld_disk 2 (some .int) :: gw) ({ frames := 1, cells := 0, slots := 0, locals := 21 }) (cP (dC, dI) [.ref h0, .int x] sz [(h0, .inr (0, [.ref o0, .ref o1, .ref o2, .ref o3, .ref o4, .int 0])), (o0, .inr (1, [.ref c0, .int (-1), .int 0, .int 0])), (c0, .inl (cA, 512, .inl (fun _ => 0)))] [(cA, .int)] xT) (va_Qi (fun (r : Int32) (u : Unit) => r = 0) (fun (u : Unit) t => cB (dC, dI) (va_A [(h0, .inr (0, [.ref o0, .ref o1, .ref o2, .ref o3, .ref o4, .int 0])), (o0, .inr (1, [.ref c0, .int (-1), .int 0, .int 0])), (c0, .inl (cA, 512, .inl (fun _ => 0)))] sz) [] [] t) (va_A [(h0, .inr (0, [.ref o0, .ref o1, .ref o2, .ref o3, .ref o4, .int 0])), (o0, .inr (1, [.ref c0, .int (-1), .int 0, .int 0])), (c0, .inl (cA, 512, .inl (fun _ => 0)))] sz)) 0 0 (va_A [(h0, .inr (0, [.ref o0, .ref o1, .ref o2, .ref o3, .ref o4, .int 0])), (o0, .inr (1, [.ref c0, .int (-1), .int 0, .int 0])), (c0, .inl (cA, 512, .inl (fun _ => 0)))] sz) := by
  refine Met.ofW (cc := b_Ld_disk) (maxL := 2) (ret := (some .int)) (by decide) rfl ?_
  intro p e s m args below meth c s₁ B hml hv
  obtain ⟨rfl, hsz, hP, hK, hD0, hkw, hX⟩ := hv
  have hx := B.exec
  have hb := B.bytes
  have hr := B.returns
  have hts := fun w hw => atoms_spec (ws := Cond.code y_Ld_disk b_Ld_disk 2 (some .int) :: gw) B.pre w (List.mem_cons_of_mem _ hw)
  have hown : s.vm.findClass "LineDisk" = some m.cls := findClass_of_methodNamed B.named
  have hlocks := B.notSynchronized
  have hin := (name_of_methodNamed B.named B.method).1
  subst hsz
  have hD := hD0.self (sz := s.heap.size)
  generalize hAe : va_A [(h0, .inr (0, [.ref o0, .ref o1, .ref o2, .ref o3, .ref o4, .int 0])), (o0, .inr (1, [.ref c0, .int (-1), .int 0, .int 0])), (c0, .inl (cA, 512, .inl (fun _ => 0)))] s.heap.size = A at hD ⊢
  have hA : ∀ q : Nat, s.heap.size ≤ q → A q := fun q h => by rw [← hAe]; exact Or.inr h
  have hS : va_S A s.heap s.heap [] := va_S.rf
  have hl := lv_entry ([.ref h0, .int x]) (n := 2) (Nat.le_of_ble_eq_true rfl)
  rw [lg_entry_eq]
  generalize (lg_sl ([.ref h0, .int x]) ++ List.replicate (2 - (lg_sl ([.ref h0, .int x])).length) Slot.unset).toArray = ls at hl ⊢
  have hl : lv_has ls 2 [(0, .ref h0), (1, .int x)] := hl
  have F : CallFix p m c b_Ld_disk 2 s ([.ref h0, .int x]).toArray gw "LineDisk" := ⟨hx, hb, hml, hown, hts⟩
  refine lv_iload_n hx hb d_Ld_disk_0 rfl (lv_at hl 1 rfl) ?_
  refine lv_if_lt (tgt := 11) hx hb d_Ld_disk_1 (by decide) (fun h => absurd h (h1)) (fun _ => ?_)
  refine lv_iload_n hx hb d_Ld_disk_4 rfl (lv_at hl 1 rfl) ?_
  refine lv_sipush (v := 512) hx hb d_Ld_disk_5 (by decide) ?_
  refine lv_icmp_lt (tgt := 21) hx hb d_Ld_disk_8 (by decide) (fun _ => ?_) (fun h => absurd (h2) h)
  refine lv_aload_n hx hb d_Ld_disk_21 rfl (lv_at hl 0 rfl) ?_
  refine va_get (D := (dC, dI)) (ci := 0) (v := .ref o0) (C := R_Ld) (T := F_Ld) (N := 6) hx hb hts in_Ld hown hK hP 0 rfl rfl 0 (by decide) (hts _ w_152) (fun _ h9 => h9) rfl d_Ld_disk_22 ?_
  refine lv_iload_n hx hb d_Ld_disk_25 rfl (lv_at hl 1 rfl) ?_
  refine go_i (wr := [(h0, .inr (0, [.ref o0, .ref o1, .ref o2, .ref o3, .ref o4, .int 0]))]) (tr := []) (rV (C := "LineDisk$Store") (ci := 1) (q0 := 0) (b := o0) (n := 1) (As := [.int x]) (rest := []) F hkw (c_St_cell l dC dI o0 c0 cA x h1 h2 s.heap.size) xT_bl (fun _ _ _ => trivial) w_411 w_210 w_211 w_2 w_212 rfl rfl (by decide +kernel) ⟨Nat.le_of_ble_eq_true rfl, Nat.le_of_ble_eq_true rfl⟩ (hP.sub (ws' := [(o0, .inr (1, [.ref c0, .int (-1), .int 0, .int 0])), (c0, .inl (cA, 512, .inl (fun _ => 0)))]) [1, 2] rfl) (hD.sub (ws' := [(o0, .inr (1, [.ref c0, .int (-1), .int 0, .int 0])), (c0, .inl (cA, 512, .inl (fun _ => 0)))]) [1, 2] (by decide) rfl) (hK.sub (tys' := [(cA, .int)]) [0] rfl) rfl rfl rfl rfl hl.1 rfl (Nat.le_of_ble_eq_true rfl) d_Ld_disk_26 ⟨by decide, by decide⟩) hP hD hK hS hA [1, 2] [0] [] rfl rfl (by decide) (by decide) rfl (fun r u H locs hw hP hD hK hS => ?_)
  have hP : va_P (dC, dI) cls [(h0, .inr (0, [.ref o0, .ref o1, .ref o2, .ref o3, .ref o4, .int 0])), (o0, .inr (1, [.ref c0, .int (-1), .int 0, .int 0])), (c0, .inl (cA, 512, .inl (fun _ => 0)))] H := hP
  have hD : va_D A [(h0, .inr (0, [.ref o0, .ref o1, .ref o2, .ref o3, .ref o4, .int 0])), (o0, .inr (1, [.ref c0, .int (-1), .int 0, .int 0])), (c0, .inl (cA, 512, .inl (fun _ => 0)))] := hD
  have hK : va_K (dC, dI) cls [(cA, .int)] s := hK
  refine W.widen (k := 0) (n := 0) (by omega) (by omega) ?_
  subst hw
  refine W.widen (k := 0) (n := 0) (by decide) (by decide) ?_
  exact W.iret (v := 0) hx hb hr (fun t ht hW => ⟨⟨0, (), rfl, rfl, cB.of (hP.sub [] rfl) (hD.sub [] (by decide) rfl) (hK.sub [] rfl) ht hW⟩, hS.F ht⟩) hS.2.2 d_Ld_disk_29
set_option maxHeartbeats 4000000 in
set_option maxRecDepth 100000 in
theorem c_Ld_arm (l : Launch) (dC : Nat → ClassId) (dI : Nat → Nat → Nat) (h0 o0 o1 o2 o3 o4 : Nat) (c0 : Nat) (x : Int32) (h1 : ¬ x < 0) (h2 : x ≤ 1000) (sz : Nat) : Met l y_Ld_arm (Cond.code y_Ld_arm b_Ld_arm 2 (some .boolean) :: gw) ({ frames := 0, cells := 0, slots := 0, locals := 0 }) (cP (dC, dI) [.ref h0, .int x] sz [(h0, .inr (0, [.ref o0, .ref o1, .ref o2, .ref o3, .ref o4, .int 0])), (o0, .inr (1, [.ref c0, .int (-1), .int 0, .int 0]))] [] xT) (va_Qi (fun (r : Int32) (u : Unit) => r = 1) (fun (u : Unit) t => cB (dC, dI) (va_A [(h0, .inr (0, [.ref o0, .ref o1, .ref o2, .ref o3, .ref o4, .int 0])), (o0, .inr (1, [.ref c0, .int (-1), .int 0, .int 0]))] sz) [] [] t) (va_A [(h0, .inr (0, [.ref o0, .ref o1, .ref o2, .ref o3, .ref o4, .int 0])), (o0, .inr (1, [.ref c0, .int (-1), .int 0, .int 0]))] sz)) 0 0 (va_A [(h0, .inr (0, [.ref o0, .ref o1, .ref o2, .ref o3, .ref o4, .int 0])), (o0, .inr (1, [.ref c0, .int (-1), .int 0, .int 0]))] sz) := by
  refine Met.ofW (cc := b_Ld_arm) (maxL := 2) (ret := (some .boolean)) (by decide) rfl ?_
  intro p e s m args below meth c s₁ B hml hv
  obtain ⟨rfl, hsz, hP, hK, hD0, hkw, hX⟩ := hv
  have hx := B.exec
  have hb := B.bytes
  have hr := B.returns
  have hts := fun w hw => atoms_spec (ws := Cond.code y_Ld_arm b_Ld_arm 2 (some .boolean) :: gw) B.pre w (List.mem_cons_of_mem _ hw)
  have hown : s.vm.findClass "LineDisk" = some m.cls := findClass_of_methodNamed B.named
  have hlocks := B.notSynchronized
  have hin := (name_of_methodNamed B.named B.method).1
  subst hsz
  have hD := hD0.self (sz := s.heap.size)
  generalize hAe : va_A [(h0, .inr (0, [.ref o0, .ref o1, .ref o2, .ref o3, .ref o4, .int 0])), (o0, .inr (1, [.ref c0, .int (-1), .int 0, .int 0]))] s.heap.size = A at hD ⊢
  have hA : ∀ q : Nat, s.heap.size ≤ q → A q := fun q h => by rw [← hAe]; exact Or.inr h
  have hS : va_S A s.heap s.heap [] := va_S.rf
  have hl := lv_entry ([.ref h0, .int x]) (n := 2) (Nat.le_of_ble_eq_true rfl)
  rw [lg_entry_eq]
  generalize (lg_sl ([.ref h0, .int x]) ++ List.replicate (2 - (lg_sl ([.ref h0, .int x])).length) Slot.unset).toArray = ls at hl ⊢
  have hl : lv_has ls 2 [(0, .ref h0), (1, .int x)] := hl
  have F : CallFix p m c b_Ld_arm 2 s ([.ref h0, .int x]).toArray gw "LineDisk" := ⟨hx, hb, hml, hown, hts⟩
  refine lv_iload_n hx hb d_Ld_arm_0 rfl (lv_at hl 1 rfl) ?_
  refine lv_if_lt (tgt := 11) hx hb d_Ld_arm_1 (by decide) (fun h => absurd h (h1)) (fun _ => ?_)
  refine lv_iload_n hx hb d_Ld_arm_4 rfl (lv_at hl 1 rfl) ?_
  refine lv_sipush (v := 1000) hx hb d_Ld_arm_5 (by decide) ?_
  refine lv_icmp_le (tgt := 21) hx hb d_Ld_arm_8 (by decide) (fun _ => ?_) (fun h => absurd (h2) h)
  refine lv_aload_n hx hb d_Ld_arm_21 rfl (lv_at hl 0 rfl) ?_
  refine va_get (D := (dC, dI)) (ci := 0) (v := .ref o0) (C := R_Ld) (T := F_Ld) (N := 6) hx hb hts in_Ld hown hK hP 0 rfl rfl 0 (by decide) (hts _ w_152) (fun _ h9 => h9) rfl d_Ld_arm_22 ?_
  refine lv_iload_n hx hb d_Ld_arm_25 rfl (lv_at hl 1 rfl) ?_
  refine va_putN (D := (dC, dI)) (ci := 1) (v := .int x) (ty := .int) (C := R_St) (T := F_St) (N := 4) hx hb hts in_St t_St t_St_ok n_St hown hK hP hD hS 1 rfl rfl 1 (by decide) (hkw.use v_31 rfl) (fun _ h9 => h9) rfl (by decide +kernel) (rfl) (rfl) (Nat.le_of_ble_eq_true rfl) d_Ld_arm_26 (fun H locs hP hD hS => ?_)
  have hP : va_P (dC, dI) cls [(h0, .inr (0, [.ref o0, .ref o1, .ref o2, .ref o3, .ref o4, .int 0])), (o0, .inr (1, [.ref c0, .int x, .int 0, .int 0]))] H := hP
  have hD : va_D A [(h0, .inr (0, [.ref o0, .ref o1, .ref o2, .ref o3, .ref o4, .int 0])), (o0, .inr (1, [.ref c0, .int x, .int 0, .int 0]))] := hD
  refine lv_iconst (v := 1) hx hb d_Ld_arm_29 (by decide) ?_
  refine W.widen (k := 0) (n := 0) (by decide) (by decide) ?_
  exact W.zret (v := 1) hx hb hr rfl (fun t ht hW => ⟨⟨1, (), rfl, rfl, cB.of (hP.sub [] rfl) (hD.sub [] (by decide) rfl) (hK.sub [] rfl) ht hW⟩, hS.F ht⟩) hS.2.2 d_Ld_arm_30
set_option maxHeartbeats 4000000 in
set_option maxRecDepth 100000 in
theorem c_Ld_recover (l : Launch) (dC : Nat → ClassId) (dI : Nat → Nat → Nat) (h0 o0 o1 o2 o3 o4 : Nat) (c0 : Nat) (w0 w1 w2 w3 w4 w5 : Nat) (cA cE : ClassId) (sz : Nat) : Met l y_Ld_recover (Cond.code y_Ld_recover b_Ld_recover 2 (some .int) :: gw) ({ frames := 2, cells := 0, slots := 0, locals := 43 }) (cP (dC, dI) [.ref h0] sz [(h0, .inr (0, [.ref o0, .ref o1, .ref o2, .ref o3, .ref o4, .int 0])), (o0, .inr (1, [.ref c0, .int (-1), .int 0, .int 0])), (c0, .inl (cA, 512, .inl (fun _ => 0))), (o2, .inr (3, [.ref w0, .ref w1, .ref w2, .ref w3, .ref w4, .ref w5, .int 0, .int 0, .int 0])), (w4, .inl (cE, 8, .inl (fun _ => 0)))] [(cA, .int), (cE, .int)] xT) (va_Qi (fun (r : Int32) (u : Unit) => r = 8) (fun (u : Unit) t => cB (dC, dI) (va_A [(h0, .inr (0, [.ref o0, .ref o1, .ref o2, .ref o3, .ref o4, .int 0])), (o0, .inr (1, [.ref c0, .int (-1), .int 0, .int 0])), (c0, .inl (cA, 512, .inl (fun _ => 0))), (o2, .inr (3, [.ref w0, .ref w1, .ref w2, .ref w3, .ref w4, .ref w5, .int 0, .int 0, .int 0])), (w4, .inl (cE, 8, .inl (fun _ => 0)))] sz) [] [] t) (va_A [(h0, .inr (0, [.ref o0, .ref o1, .ref o2, .ref o3, .ref o4, .int 0])), (o0, .inr (1, [.ref c0, .int (-1), .int 0, .int 0])), (c0, .inl (cA, 512, .inl (fun _ => 0))), (o2, .inr (3, [.ref w0, .ref w1, .ref w2, .ref w3, .ref w4, .ref w5, .int 0, .int 0, .int 0])), (w4, .inl (cE, 8, .inl (fun _ => 0)))] sz)) 0 0 (va_A [(h0, .inr (0, [.ref o0, .ref o1, .ref o2, .ref o3, .ref o4, .int 0])), (o0, .inr (1, [.ref c0, .int (-1), .int 0, .int 0])), (c0, .inl (cA, 512, .inl (fun _ => 0))), (o2, .inr (3, [.ref w0, .ref w1, .ref w2, .ref w3, .ref w4, .ref w5, .int 0, .int 0, .int 0])), (w4, .inl (cE, 8, .inl (fun _ => 0)))] sz) := by
  refine Met.ofW (cc := b_Ld_recover) (maxL := 2) (ret := (some .int)) (by decide) rfl ?_
  intro p e s m args below meth c s₁ B hml hv
  obtain ⟨rfl, hsz, hP, hK, hD0, hkw, hX⟩ := hv
  have hx := B.exec
  have hb := B.bytes
  have hr := B.returns
  have hts := fun w hw => atoms_spec (ws := Cond.code y_Ld_recover b_Ld_recover 2 (some .int) :: gw) B.pre w (List.mem_cons_of_mem _ hw)
  have hown : s.vm.findClass "LineDisk" = some m.cls := findClass_of_methodNamed B.named
  have hlocks := B.notSynchronized
  have hin := (name_of_methodNamed B.named B.method).1
  subst hsz
  have hD := hD0.self (sz := s.heap.size)
  generalize hAe : va_A [(h0, .inr (0, [.ref o0, .ref o1, .ref o2, .ref o3, .ref o4, .int 0])), (o0, .inr (1, [.ref c0, .int (-1), .int 0, .int 0])), (c0, .inl (cA, 512, .inl (fun _ => 0))), (o2, .inr (3, [.ref w0, .ref w1, .ref w2, .ref w3, .ref w4, .ref w5, .int 0, .int 0, .int 0])), (w4, .inl (cE, 8, .inl (fun _ => 0)))] s.heap.size = A at hD ⊢
  have hA : ∀ q : Nat, s.heap.size ≤ q → A q := fun q h => by rw [← hAe]; exact Or.inr h
  have hS : va_S A s.heap s.heap [] := va_S.rf
  have hl := lv_entry ([.ref h0]) (n := 2) (Nat.le_of_ble_eq_true rfl)
  rw [lg_entry_eq]
  generalize (lg_sl ([.ref h0]) ++ List.replicate (2 - (lg_sl ([.ref h0])).length) Slot.unset).toArray = ls at hl ⊢
  have hl : lv_has ls 2 [(0, .ref h0)] := hl
  have F : CallFix p m c b_Ld_recover 2 s ([.ref h0]).toArray gw "LineDisk" := ⟨hx, hb, hml, hown, hts⟩
  refine lv_aload_n hx hb d_Ld_recover_0 rfl (lv_at hl 0 rfl) ?_
  refine va_get (D := (dC, dI)) (ci := 0) (v := .ref o0) (C := R_Ld) (T := F_Ld) (N := 6) hx hb hts in_Ld hown hK hP 0 rfl rfl 0 (by decide) (hts _ w_152) (fun _ h9 => h9) rfl d_Ld_recover_1 ?_
  refine lv_iconst (v := 0) hx hb d_Ld_recover_4 (by decide) ?_
  refine va_putN (D := (dC, dI)) (ci := 1) (v := .int 0) (ty := .boolean) (C := R_St) (T := F_St) (N := 4) hx hb hts in_St t_St t_St_ok n_St hown hK hP hD hS 1 rfl rfl 2 (by decide) (hkw.use v_33 rfl) (fun _ h9 => h9) rfl (by decide +kernel) (rfl) (rfl) (Nat.le_of_ble_eq_true rfl) d_Ld_recover_5 (fun H locs hP hD hS => ?_)
  have hP : va_P (dC, dI) cls [(h0, .inr (0, [.ref o0, .ref o1, .ref o2, .ref o3, .ref o4, .int 0])), (o0, .inr (1, [.ref c0, .int (-1), .int 0, .int 0])), (c0, .inl (cA, 512, .inl (fun _ => 0))), (o2, .inr (3, [.ref w0, .ref w1, .ref w2, .ref w3, .ref w4, .ref w5, .int 0, .int 0, .int 0])), (w4, .inl (cE, 8, .inl (fun _ => 0)))] H := hP
  have hD : va_D A [(h0, .inr (0, [.ref o0, .ref o1, .ref o2, .ref o3, .ref o4, .int 0])), (o0, .inr (1, [.ref c0, .int (-1), .int 0, .int 0])), (c0, .inl (cA, 512, .inl (fun _ => 0))), (o2, .inr (3, [.ref w0, .ref w1, .ref w2, .ref w3, .ref w4, .ref w5, .int 0, .int 0, .int 0])), (w4, .inl (cE, 8, .inl (fun _ => 0)))] := hD
  refine lv_aload_n hx hb d_Ld_recover_8 rfl (lv_at hl 0 rfl) ?_
  refine va_get (D := (dC, dI)) (ci := 0) (v := .ref o2) (C := R_Ld) (T := F_Ld) (N := 6) hx hb hts in_Ld hown hK hP 0 rfl rfl 2 (by decide) (hts _ w_154) (fun _ h9 => h9) rfl d_Ld_recover_9 ?_
  refine go_v (wr := [(h0, .inr (0, [.ref o0, .ref o1, .ref o2, .ref o3, .ref o4, .int 0])), (o0, .inr (1, [.ref c0, .int (-1), .int 0, .int 0])), (c0, .inl (cA, 512, .inl (fun _ => 0)))]) (tr := [(cA, .int)]) (rV (C := "LineDisk$Workspace") (ci := 3) (q0 := 0) (b := o2) (n := 0) (As := []) (rest := []) F hkw (c_Wo_empty l dC dI o2 w0 w1 w2 w3 w4 w5 cE (fun _ => 0) H.size) xT_bl (fun _ _ _ => trivial) w_190 w_191 w_192 w_4 w_193 rfl rfl (by decide +kernel) ⟨Nat.le_of_ble_eq_true rfl, Nat.le_of_ble_eq_true rfl⟩ (hP.sub (ws' := [(o2, .inr (3, [.ref w0, .ref w1, .ref w2, .ref w3, .ref w4, .ref w5, .int 0, .int 0, .int 0])), (w4, .inl (cE, 8, .inl (fun _ => 0)))]) [3, 4] rfl) (hD.sub (ws' := [(o2, .inr (3, [.ref w0, .ref w1, .ref w2, .ref w3, .ref w4, .ref w5, .int 0, .int 0, .int 0])), (w4, .inl (cE, 8, .inl (fun _ => 0)))]) [3, 4] (by decide) rfl) (hK.sub (tys' := [(cE, .int)]) [1] rfl) rfl rfl rfl rfl hl.1 rfl (Nat.le_of_ble_eq_true rfl) d_Ld_recover_12 ⟨by decide, by decide⟩) hP hD hK hS hA [3, 4] [0, 1, 2] [0] rfl rfl (by decide) (by decide) rfl (fun fv H locs _ hP hD hK hS => ?_)
  have hP : va_P (dC, dI) cls [(h0, .inr (0, [.ref o0, .ref o1, .ref o2, .ref o3, .ref o4, .int 0])), (o0, .inr (1, [.ref c0, .int (-1), .int 0, .int 0])), (c0, .inl (cA, 512, .inl (fun _ => 0))), (o2, .inr (3, [.ref w0, .ref w1, .ref w2, .ref w3, .ref w4, .ref w5, .int 0, .int 0, .int 0])), (w4, .inl (cE, 8, .inl fv))] H := hP
  have hD : va_D A [(h0, .inr (0, [.ref o0, .ref o1, .ref o2, .ref o3, .ref o4, .int 0])), (o0, .inr (1, [.ref c0, .int (-1), .int 0, .int 0])), (c0, .inl (cA, 512, .inl (fun _ => 0))), (o2, .inr (3, [.ref w0, .ref w1, .ref w2, .ref w3, .ref w4, .ref w5, .int 0, .int 0, .int 0])), (w4, .inl (cE, 8, .inl fv))] := hD
  have hK : va_K (dC, dI) cls [(cA, .int), (cE, .int)] s := hK
  refine W.widen (k := 0) (n := 0) (by omega) (by omega) ?_
  refine lv_bipush (v := 8) hx hb d_Ld_recover_15 (by decide) ?_
  refine lv_istore_n (i := 1) hx hb d_Ld_recover_17 rfl hl (by decide) rfl (fun ls hl => ?_)
  have hl : lv_has ls 2 [(1, .int 8), (0, .ref h0)] := hl
  refine lv_aload_n hx hb d_Ld_recover_18 rfl (lv_at hl 1 rfl) ?_
  refine va_get (D := (dC, dI)) (ci := 0) (v := .ref o0) (C := R_Ld) (T := F_Ld) (N := 6) hx hb hts in_Ld hown hK hP 0 rfl rfl 0 (by decide) (hts _ w_152) (fun _ h9 => h9) rfl d_Ld_recover_19 ?_
  refine go_i (wr := [(h0, .inr (0, [.ref o0, .ref o1, .ref o2, .ref o3, .ref o4, .int 0])), (o2, .inr (3, [.ref w0, .ref w1, .ref w2, .ref w3, .ref w4, .ref w5, .int 0, .int 0, .int 0])), (w4, .inl (cE, 8, .inl fv))]) (tr := [(cE, .int)]) (rV (C := "LineDisk$Store") (ci := 1) (q0 := 0) (b := o0) (n := 0) (As := []) (rest := []) F hkw (c_St_isF l dC dI o0 c0 cA H.size) xT_bl (fun _ _ _ => trivial) w_201 w_202 w_203 w_2 w_204 rfl rfl (by decide +kernel) ⟨Nat.le_of_ble_eq_true rfl, Nat.le_of_ble_eq_true rfl⟩ (hP.sub (ws' := [(o0, .inr (1, [.ref c0, .int (-1), .int 0, .int 0])), (c0, .inl (cA, 512, .inl (fun _ => 0)))]) [1, 2] rfl) (hD.sub (ws' := [(o0, .inr (1, [.ref c0, .int (-1), .int 0, .int 0])), (c0, .inl (cA, 512, .inl (fun _ => 0)))]) [1, 2] (by decide) rfl) (hK.sub (tys' := [(cA, .int)]) [0] rfl) rfl rfl rfl rfl hl.1 rfl (Nat.le_of_ble_eq_true rfl) d_Ld_recover_22 ⟨by decide, by decide⟩) hP hD hK hS hA [1, 2] [0, 3, 4] [1] rfl rfl (by decide) (by decide) rfl (fun r u H locs hw hP hD hK hS => ?_)
  have hP : va_P (dC, dI) cls [(h0, .inr (0, [.ref o0, .ref o1, .ref o2, .ref o3, .ref o4, .int 0])), (o2, .inr (3, [.ref w0, .ref w1, .ref w2, .ref w3, .ref w4, .ref w5, .int 0, .int 0, .int 0])), (w4, .inl (cE, 8, .inl fv)), (o0, .inr (1, [.ref c0, .int (-1), .int 0, .int 0])), (c0, .inl (cA, 512, .inl (fun _ => 0)))] H := hP
  have hD : va_D A [(h0, .inr (0, [.ref o0, .ref o1, .ref o2, .ref o3, .ref o4, .int 0])), (o2, .inr (3, [.ref w0, .ref w1, .ref w2, .ref w3, .ref w4, .ref w5, .int 0, .int 0, .int 0])), (w4, .inl (cE, 8, .inl fv)), (o0, .inr (1, [.ref c0, .int (-1), .int 0, .int 0])), (c0, .inl (cA, 512, .inl (fun _ => 0)))] := hD
  have hK : va_K (dC, dI) cls [(cE, .int), (cA, .int)] s := hK
  refine W.widen (k := 0) (n := 0) (by omega) (by omega) ?_
  subst hw
  refine lv_if_eq (tgt := 51) hx hb d_Ld_recover_25 (by decide) (fun _ => ?_) (fun h => absurd (by decide) h)
  refine lv_aload_n hx hb d_Ld_recover_51 rfl (lv_at hl 1 rfl) ?_
  refine va_get (D := (dC, dI)) (ci := 0) (v := .ref o0) (C := R_Ld) (T := F_Ld) (N := 6) hx hb hts in_Ld hown hK hP 0 rfl rfl 0 (by decide) (hts _ w_152) (fun _ h9 => h9) rfl d_Ld_recover_52 ?_
  refine lv_iconst (v := (-1)) hx hb d_Ld_recover_55 (by decide) ?_
  refine va_putN (D := (dC, dI)) (ci := 1) (v := .int (-1)) (ty := .int) (C := R_St) (T := F_St) (N := 4) hx hb hts in_St t_St t_St_ok n_St hown hK hP hD hS 3 rfl rfl 1 (by decide) (hkw.use v_31 rfl) (fun _ h9 => h9) rfl (by decide +kernel) (rfl) (rfl) (Nat.le_of_ble_eq_true rfl) d_Ld_recover_56 (fun H locs hP hD hS => ?_)
  have hP : va_P (dC, dI) cls [(h0, .inr (0, [.ref o0, .ref o1, .ref o2, .ref o3, .ref o4, .int 0])), (o2, .inr (3, [.ref w0, .ref w1, .ref w2, .ref w3, .ref w4, .ref w5, .int 0, .int 0, .int 0])), (w4, .inl (cE, 8, .inl fv)), (o0, .inr (1, [.ref c0, .int (-1), .int 0, .int 0])), (c0, .inl (cA, 512, .inl (fun _ => 0)))] H := hP
  have hD : va_D A [(h0, .inr (0, [.ref o0, .ref o1, .ref o2, .ref o3, .ref o4, .int 0])), (o2, .inr (3, [.ref w0, .ref w1, .ref w2, .ref w3, .ref w4, .ref w5, .int 0, .int 0, .int 0])), (w4, .inl (cE, 8, .inl fv)), (o0, .inr (1, [.ref c0, .int (-1), .int 0, .int 0])), (c0, .inl (cA, 512, .inl (fun _ => 0)))] := hD
  refine lv_iload_n hx hb d_Ld_recover_59 rfl (lv_at hl 0 rfl) ?_
  refine W.widen (k := 0) (n := 0) (by decide) (by decide) ?_
  exact W.iret (v := 8) hx hb hr (fun t ht hW => ⟨⟨8, (), rfl, rfl, cB.of (hP.sub [] rfl) (hD.sub [] (by decide) rfl) (hK.sub [] rfl) ht hW⟩, hS.F ht⟩) hS.2.2 d_Ld_recover_60
