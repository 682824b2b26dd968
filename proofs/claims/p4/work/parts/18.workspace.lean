/-! the workspace -/
def plc (nu : Nat → Int32) (n : Nat) (x : Int32) (p : Nat) : Prop := p ≤ n ∧ (∀ i, i < p → nu i < x) ∧ (p = n ∨ (p < n ∧ ¬ nu p < x))
def numv (nu : Nat → Int32) (n : Nat) (x : Int32) : Int32 := if x < 0 then 0 else if nI n ≤ x then 0 else nu x.toNatClampNeg
theorem in_n {x : Int32} {n N : Nat} (hn : n ≤ N) (hN : N < 2 ^ 31) (h1 : ¬ x < 0) (h2 : ¬ nI n ≤ x) : vp_in x N := by
  obtain ⟨j, hj, rfl⟩ := nI_of h1
  rw [nI_leI (by omega) hj] at h2
  exact vp_in_nI (by omega) hN
set_option maxHeartbeats 4000000 in
set_option maxRecDepth 100000 in
theorem g_Wo_empty (l : Launch) (dC : Nat → ClassId) (dI : Nat → Nat → Nat) (h0 w0 w1 w2 w3 w4 w5 : Nat) (wn : Nat) (nx : Int32) (wc : Nat) (cV : ClassId) (f : Nat → Int32) (sz : Nat) : Met l y_Wo_empty (Cond.code y_Wo_empty b_Wo_empty 1 none :: gw) ({ frames := 1, cells := 0, slots := 0, locals := 23 }) (cP (dC, dI) [.ref h0] sz [(h0, .inr (3, [.ref w0, .ref w1, .ref w2, .ref w3, .ref w4, .ref w5, .int (nI wn), .int nx, .int (nI wc)])), (w4, .inl (cV, 8, .inl f))] [(cV, .int)] xT) (va_Qv (fun (u : Nat → Int32) => ∀ i, i < 8 → u i = 0) (fun (u : Nat → Int32) t => cB (dC, dI) (va_A [(h0, .inr (3, [.ref w0, .ref w1, .ref w2, .ref w3, .ref w4, .ref w5, .int (nI wn), .int nx, .int (nI wc)])), (w4, .inl (cV, 8, .inl f))] sz) [(h0, .inr (3, [.ref w0, .ref w1, .ref w2, .ref w3, .ref w4, .ref w5, .int 0, .int 0, .int 0])), (w4, .inl (cV, 8, .inl u))] [(cV, .int)] t) (va_A [(h0, .inr (3, [.ref w0, .ref w1, .ref w2, .ref w3, .ref w4, .ref w5, .int (nI wn), .int nx, .int (nI wc)])), (w4, .inl (cV, 8, .inl f))] sz)) 0 0 (va_A [(h0, .inr (3, [.ref w0, .ref w1, .ref w2, .ref w3, .ref w4, .ref w5, .int (nI wn), .int nx, .int (nI wc)])), (w4, .inl (cV, 8, .inl f))] sz) := by
  refine Met.ofW (cc := b_Wo_empty) (maxL := 1) (ret := none) (by decide) rfl ?_
  intro p e s m args below meth c s₁ B hml hv
  obtain ⟨rfl, hsz, hP, hK, hD0, hkw, hX⟩ := hv
  have hx := B.exec
  have hb := B.bytes
  have hr := B.returns
  have hts := fun w hw => atoms_spec (ws := Cond.code y_Wo_empty b_Wo_empty 1 none :: gw) B.pre w (List.mem_cons_of_mem _ hw)
  have hown : s.vm.findClass "LineDisk$Workspace" = some m.cls := findClass_of_methodNamed B.named
  have hlocks := B.notSynchronized
  have hin := (name_of_methodNamed B.named B.method).1
  subst hsz
  have hD := hD0.self (sz := s.heap.size)
  generalize hAe : va_A [(h0, .inr (3, [.ref w0, .ref w1, .ref w2, .ref w3, .ref w4, .ref w5, .int (nI wn), .int nx, .int (nI wc)])), (w4, .inl (cV, 8, .inl f))] s.heap.size = A at hD ⊢
  have hA : ∀ q : Nat, s.heap.size ≤ q → A q := fun q h => by rw [← hAe]; exact Or.inr h
  have hS : va_S A s.heap s.heap [] := va_S.rf
  have hl := lv_entry ([.ref h0]) (n := 1) (Nat.le_of_ble_eq_true rfl)
  rw [lg_entry_eq]
  generalize (lg_sl ([.ref h0]) ++ List.replicate (1 - (lg_sl ([.ref h0])).length) Slot.unset).toArray = ls at hl ⊢
  have hl : lv_has ls 1 [(0, .ref h0)] := hl
  have F : CallFix p m c b_Wo_empty 1 s ([.ref h0]).toArray gw "LineDisk$Workspace" := ⟨hx, hb, hml, hown, hts⟩
  refine lv_aload_n hx hb d_Wo_empty_0 rfl (lv_at hl 0 rfl) ?_
  refine lv_iconst (v := 0) hx hb d_Wo_empty_1 (by decide) ?_
  refine va_put (D := (dC, dI)) (ci := 3) (v := .int 0) (ty := .int) (C := R_Wo) (T := F_Wo) (N := 9) hx hb hts in_Wo t_Wo t_Wo_ok n_Wo hown hK hP hD hS 0 rfl rfl 6 (by decide) (hts _ w_78) (fun _ h9 => h9) rfl (by decide +kernel) (rfl) (rfl) (Nat.le_of_ble_eq_true rfl) d_Wo_empty_2 (fun H locs hP hD hS => ?_)
  have hP : va_P (dC, dI) cls [(h0, .inr (3, [.ref w0, .ref w1, .ref w2, .ref w3, .ref w4, .ref w5, .int 0, .int nx, .int (nI wc)])), (w4, .inl (cV, 8, .inl f))] H := hP
  have hD : va_D A [(h0, .inr (3, [.ref w0, .ref w1, .ref w2, .ref w3, .ref w4, .ref w5, .int 0, .int nx, .int (nI wc)])), (w4, .inl (cV, 8, .inl f))] := hD
  refine lv_aload_n hx hb d_Wo_empty_5 rfl (lv_at hl 0 rfl) ?_
  refine lv_iconst (v := 0) hx hb d_Wo_empty_6 (by decide) ?_
  refine va_put (D := (dC, dI)) (ci := 3) (v := .int 0) (ty := .int) (C := R_Wo) (T := F_Wo) (N := 9) hx hb hts in_Wo t_Wo t_Wo_ok n_Wo hown hK hP hD hS 0 rfl rfl 7 (by decide) (hts _ w_80) (fun _ h9 => h9) rfl (by decide +kernel) (rfl) (rfl) (Nat.le_of_ble_eq_true rfl) d_Wo_empty_7 (fun H locs hP hD hS => ?_)
  have hP : va_P (dC, dI) cls [(h0, .inr (3, [.ref w0, .ref w1, .ref w2, .ref w3, .ref w4, .ref w5, .int 0, .int 0, .int (nI wc)])), (w4, .inl (cV, 8, .inl f))] H := hP
  have hD : va_D A [(h0, .inr (3, [.ref w0, .ref w1, .ref w2, .ref w3, .ref w4, .ref w5, .int 0, .int 0, .int (nI wc)])), (w4, .inl (cV, 8, .inl f))] := hD
  refine lv_aload_n hx hb d_Wo_empty_10 rfl (lv_at hl 0 rfl) ?_
  refine lv_iconst (v := 0) hx hb d_Wo_empty_11 (by decide) ?_
  refine va_put (D := (dC, dI)) (ci := 3) (v := .int 0) (ty := .int) (C := R_Wo) (T := F_Wo) (N := 9) hx hb hts in_Wo t_Wo t_Wo_ok n_Wo hown hK hP hD hS 0 rfl rfl 8 (by decide) (hts _ w_82) (fun _ h9 => h9) rfl (by decide +kernel) (rfl) (rfl) (Nat.le_of_ble_eq_true rfl) d_Wo_empty_12 (fun H locs hP hD hS => ?_)
  have hP : va_P (dC, dI) cls [(h0, .inr (3, [.ref w0, .ref w1, .ref w2, .ref w3, .ref w4, .ref w5, .int 0, .int 0, .int 0])), (w4, .inl (cV, 8, .inl f))] H := hP
  have hD : va_D A [(h0, .inr (3, [.ref w0, .ref w1, .ref w2, .ref w3, .ref w4, .ref w5, .int 0, .int 0, .int 0])), (w4, .inl (cV, 8, .inl f))] := hD
  refine lv_aload_n hx hb d_Wo_empty_15 rfl (lv_at hl 0 rfl) ?_
  refine va_get (D := (dC, dI)) (ci := 3) (v := .ref w4) (C := R_Wo) (T := F_Wo) (N := 9) hx hb hts in_Wo hown hK hP 0 rfl rfl 4 (by decide) (hts _ w_74) (fun _ h9 => h9) rfl d_Wo_empty_16 ?_
  refine lv_iconst (v := 0) hx hb d_Wo_empty_19 (by decide) ?_
  refine go_v (wr := [(h0, .inr (3, [.ref w0, .ref w1, .ref w2, .ref w3, .ref w4, .ref w5, .int 0, .int 0, .int 0]))]) (tr := []) (rS (n := 2) (As := [.ref w4, .int 0]) (rest := []) F hkw (g_Ar_fill l dC dI w4 cV 8 (by decide) f 0 H.size) xT_bl (fun _ _ _ => trivial) w_194 w_195 w_8 w_196 rfl rfl (by decide +kernel) ⟨Nat.le_of_ble_eq_true rfl, Nat.le_of_ble_eq_true rfl⟩ (hP.sub (ws' := [(w4, .inl (cV, 8, .inl f))]) [1] rfl) (hD.sub (ws' := [(w4, .inl (cV, 8, .inl f))]) [1] (by decide) rfl) (hK.sub (tys' := [(cV, .int)]) [0] rfl) rfl hl.1 rfl (Nat.le_of_ble_eq_true rfl) d_Wo_empty_20 ⟨by decide, by decide⟩) hP hD hK hS hA [1] [0] [] rfl rfl (by decide) (by decide) rfl (fun u1 H locs p1 hP hD hK hS => ?_)
  have hP : va_P (dC, dI) cls [(h0, .inr (3, [.ref w0, .ref w1, .ref w2, .ref w3, .ref w4, .ref w5, .int 0, .int 0, .int 0])), (w4, .inl (cV, 8, .inl u1))] H := hP
  have hD : va_D A [(h0, .inr (3, [.ref w0, .ref w1, .ref w2, .ref w3, .ref w4, .ref w5, .int 0, .int 0, .int 0])), (w4, .inl (cV, 8, .inl u1))] := hD
  have hK : va_K (dC, dI) cls [(cV, .int)] s := hK
  refine W.widen (k := 0) (n := 0) (by omega) (by omega) ?_
  refine W.widen (k := 0) (n := 0) (by decide) (by decide) ?_
  exact W.vret hx hb hr (fun t ht hW => ⟨⟨u1, rfl, p1, cB.of (hP.sub [0, 1] rfl) (hD.sub [0, 1] (by decide) rfl) (hK.sub [0] rfl) ht hW⟩, hS.F ht⟩) hS.2.2 d_Wo_empty_23
set_option maxHeartbeats 4000000 in
set_option maxRecDepth 100000 in
theorem g_Wo_clear (l : Launch) (dC : Nat → ClassId) (dI : Nat → Nat → Nat) (h0 w0 w1 w2 w3 w4 w5 : Nat) (wn : Nat) (nx : Int32) (wc : Nat) (cV : ClassId) (f : Nat → Int32) (sz : Nat) : Met l y_Wo_clearVariables (Cond.code y_Wo_clearVariables b_Wo_clearVariables 1 none :: gw) ({ frames := 1, cells := 0, slots := 0, locals := 23 }) (cP (dC, dI) [.ref h0] sz [(h0, .inr (3, [.ref w0, .ref w1, .ref w2, .ref w3, .ref w4, .ref w5, .int (nI wn), .int nx, .int (nI wc)])), (w4, .inl (cV, 8, .inl f))] [(cV, .int)] xT) (va_Qv (fun (u : Nat → Int32) => ∀ i, i < 8 → u i = 0) (fun (u : Nat → Int32) t => cB (dC, dI) (va_A [(h0, .inr (3, [.ref w0, .ref w1, .ref w2, .ref w3, .ref w4, .ref w5, .int (nI wn), .int nx, .int (nI wc)])), (w4, .inl (cV, 8, .inl f))] sz) [(h0, .inr (3, [.ref w0, .ref w1, .ref w2, .ref w3, .ref w4, .ref w5, .int (nI wn), .int nx, .int (nI wc)])), (w4, .inl (cV, 8, .inl u))] [(cV, .int)] t) (va_A [(h0, .inr (3, [.ref w0, .ref w1, .ref w2, .ref w3, .ref w4, .ref w5, .int (nI wn), .int nx, .int (nI wc)])), (w4, .inl (cV, 8, .inl f))] sz)) 0 0 (va_A [(h0, .inr (3, [.ref w0, .ref w1, .ref w2, .ref w3, .ref w4, .ref w5, .int (nI wn), .int nx, .int (nI wc)])), (w4, .inl (cV, 8, .inl f))] sz) := by
  refine Met.ofW (cc := b_Wo_clearVariables) (maxL := 1) (ret := none) (by decide) rfl ?_
  intro p e s m args below meth c s₁ B hml hv
  obtain ⟨rfl, hsz, hP, hK, hD0, hkw, hX⟩ := hv
  have hx := B.exec
  have hb := B.bytes
  have hr := B.returns
  have hts := fun w hw => atoms_spec (ws := Cond.code y_Wo_clearVariables b_Wo_clearVariables 1 none :: gw) B.pre w (List.mem_cons_of_mem _ hw)
  have hown : s.vm.findClass "LineDisk$Workspace" = some m.cls := findClass_of_methodNamed B.named
  have hlocks := B.notSynchronized
  have hin := (name_of_methodNamed B.named B.method).1
  subst hsz
  have hD := hD0.self (sz := s.heap.size)
  generalize hAe : va_A [(h0, .inr (3, [.ref w0, .ref w1, .ref w2, .ref w3, .ref w4, .ref w5, .int (nI wn), .int nx, .int (nI wc)])), (w4, .inl (cV, 8, .inl f))] s.heap.size = A at hD ⊢
  have hA : ∀ q : Nat, s.heap.size ≤ q → A q := fun q h => by rw [← hAe]; exact Or.inr h
  have hS : va_S A s.heap s.heap [] := va_S.rf
  have hl := lv_entry ([.ref h0]) (n := 1) (Nat.le_of_ble_eq_true rfl)
  rw [lg_entry_eq]
  generalize (lg_sl ([.ref h0]) ++ List.replicate (1 - (lg_sl ([.ref h0])).length) Slot.unset).toArray = ls at hl ⊢
  have hl : lv_has ls 1 [(0, .ref h0)] := hl
  have F : CallFix p m c b_Wo_clearVariables 1 s ([.ref h0]).toArray gw "LineDisk$Workspace" := ⟨hx, hb, hml, hown, hts⟩
  refine lv_aload_n hx hb d_Wo_clearVariables_0 rfl (lv_at hl 0 rfl) ?_
  refine va_get (D := (dC, dI)) (ci := 3) (v := .ref w4) (C := R_Wo) (T := F_Wo) (N := 9) hx hb hts in_Wo hown hK hP 0 rfl rfl 4 (by decide) (hts _ w_74) (fun _ h9 => h9) rfl d_Wo_clearVariables_1 ?_
  refine lv_iconst (v := 0) hx hb d_Wo_clearVariables_4 (by decide) ?_
  refine go_v (wr := [(h0, .inr (3, [.ref w0, .ref w1, .ref w2, .ref w3, .ref w4, .ref w5, .int (nI wn), .int nx, .int (nI wc)]))]) (tr := []) (rS (n := 2) (As := [.ref w4, .int 0]) (rest := []) F hkw (g_Ar_fill l dC dI w4 cV 8 (by decide) f 0 s.heap.size) xT_bl (fun _ _ _ => trivial) w_194 w_195 w_8 w_196 rfl rfl (by decide +kernel) ⟨Nat.le_of_ble_eq_true rfl, Nat.le_of_ble_eq_true rfl⟩ (hP.sub (ws' := [(w4, .inl (cV, 8, .inl f))]) [1] rfl) (hD.sub (ws' := [(w4, .inl (cV, 8, .inl f))]) [1] (by decide) rfl) (hK.sub (tys' := [(cV, .int)]) [0] rfl) rfl hl.1 rfl (Nat.le_of_ble_eq_true rfl) d_Wo_clearVariables_5 ⟨by decide, by decide⟩) hP hD hK hS hA [1] [0] [] rfl rfl (by decide) (by decide) rfl (fun u1 H locs p1 hP hD hK hS => ?_)
  have hP : va_P (dC, dI) cls [(h0, .inr (3, [.ref w0, .ref w1, .ref w2, .ref w3, .ref w4, .ref w5, .int (nI wn), .int nx, .int (nI wc)])), (w4, .inl (cV, 8, .inl u1))] H := hP
  have hD : va_D A [(h0, .inr (3, [.ref w0, .ref w1, .ref w2, .ref w3, .ref w4, .ref w5, .int (nI wn), .int nx, .int (nI wc)])), (w4, .inl (cV, 8, .inl u1))] := hD
  have hK : va_K (dC, dI) cls [(cV, .int)] s := hK
  refine W.widen (k := 0) (n := 0) (by omega) (by omega) ?_
  refine W.widen (k := 0) (n := 0) (by decide) (by decide) ?_
  exact W.vret hx hb hr (fun t ht hW => ⟨⟨u1, rfl, p1, cB.of (hP.sub [0, 1] rfl) (hD.sub [0, 1] (by decide) rfl) (hK.sub [0] rfl) ht hW⟩, hS.F ht⟩) hS.2.2 d_Wo_clearVariables_8
set_option maxHeartbeats 4000000 in
set_option maxRecDepth 100000 in
theorem g_Wo_removeLines (l : Launch) (dC : Nat → ClassId) (dI : Nat → Nat → Nat) (h0 w0 w1 w2 w3 w4 w5 : Nat) (wn : Nat) (nx : Int32) (wc : Nat) (sz : Nat) : Met l y_Wo_removeLines (Cond.code y_Wo_removeLines b_Wo_removeLines 1 none :: gw) ({ frames := 0, cells := 0, slots := 0, locals := 0 }) (cP (dC, dI) [.ref h0] sz [(h0, .inr (3, [.ref w0, .ref w1, .ref w2, .ref w3, .ref w4, .ref w5, .int (nI wn), .int nx, .int (nI wc)]))] [] xT) (va_Qv (fun (u : Unit) => True) (fun (u : Unit) t => cB (dC, dI) (va_A [(h0, .inr (3, [.ref w0, .ref w1, .ref w2, .ref w3, .ref w4, .ref w5, .int (nI wn), .int nx, .int (nI wc)]))] sz) [(h0, .inr (3, [.ref w0, .ref w1, .ref w2, .ref w3, .ref w4, .ref w5, .int 0, .int 0, .int (nI wc)]))] [] t) (va_A [(h0, .inr (3, [.ref w0, .ref w1, .ref w2, .ref w3, .ref w4, .ref w5, .int (nI wn), .int nx, .int (nI wc)]))] sz)) 0 0 (va_A [(h0, .inr (3, [.ref w0, .ref w1, .ref w2, .ref w3, .ref w4, .ref w5, .int (nI wn), .int nx, .int (nI wc)]))] sz) := by
  refine Met.ofW (cc := b_Wo_removeLines) (maxL := 1) (ret := none) (by decide) rfl ?_
  intro p e s m args below meth c s₁ B hml hv
  obtain ⟨rfl, hsz, hP, hK, hD0, hkw, hX⟩ := hv
  have hx := B.exec
  have hb := B.bytes
  have hr := B.returns
  have hts := fun w hw => atoms_spec (ws := Cond.code y_Wo_removeLines b_Wo_removeLines 1 none :: gw) B.pre w (List.mem_cons_of_mem _ hw)
  have hown : s.vm.findClass "LineDisk$Workspace" = some m.cls := findClass_of_methodNamed B.named
  have hlocks := B.notSynchronized
  have hin := (name_of_methodNamed B.named B.method).1
  subst hsz
  have hD := hD0.self (sz := s.heap.size)
  generalize hAe : va_A [(h0, .inr (3, [.ref w0, .ref w1, .ref w2, .ref w3, .ref w4, .ref w5, .int (nI wn), .int nx, .int (nI wc)]))] s.heap.size = A at hD ⊢
  have hA : ∀ q : Nat, s.heap.size ≤ q → A q := fun q h => by rw [← hAe]; exact Or.inr h
  have hS : va_S A s.heap s.heap [] := va_S.rf
  have hl := lv_entry ([.ref h0]) (n := 1) (Nat.le_of_ble_eq_true rfl)
  rw [lg_entry_eq]
  generalize (lg_sl ([.ref h0]) ++ List.replicate (1 - (lg_sl ([.ref h0])).length) Slot.unset).toArray = ls at hl ⊢
  have hl : lv_has ls 1 [(0, .ref h0)] := hl
  have F : CallFix p m c b_Wo_removeLines 1 s ([.ref h0]).toArray gw "LineDisk$Workspace" := ⟨hx, hb, hml, hown, hts⟩
  refine lv_aload_n hx hb d_Wo_removeLines_0 rfl (lv_at hl 0 rfl) ?_
  refine lv_iconst (v := 0) hx hb d_Wo_removeLines_1 (by decide) ?_
  refine va_put (D := (dC, dI)) (ci := 3) (v := .int 0) (ty := .int) (C := R_Wo) (T := F_Wo) (N := 9) hx hb hts in_Wo t_Wo t_Wo_ok n_Wo hown hK hP hD hS 0 rfl rfl 6 (by decide) (hts _ w_78) (fun _ h9 => h9) rfl (by decide +kernel) (rfl) (rfl) (Nat.le_of_ble_eq_true rfl) d_Wo_removeLines_2 (fun H locs hP hD hS => ?_)
  have hP : va_P (dC, dI) cls [(h0, .inr (3, [.ref w0, .ref w1, .ref w2, .ref w3, .ref w4, .ref w5, .int 0, .int nx, .int (nI wc)]))] H := hP
  have hD : va_D A [(h0, .inr (3, [.ref w0, .ref w1, .ref w2, .ref w3, .ref w4, .ref w5, .int 0, .int nx, .int (nI wc)]))] := hD
  refine lv_aload_n hx hb d_Wo_removeLines_5 rfl (lv_at hl 0 rfl) ?_
  refine lv_iconst (v := 0) hx hb d_Wo_removeLines_6 (by decide) ?_
  refine va_put (D := (dC, dI)) (ci := 3) (v := .int 0) (ty := .int) (C := R_Wo) (T := F_Wo) (N := 9) hx hb hts in_Wo t_Wo t_Wo_ok n_Wo hown hK hP hD hS 0 rfl rfl 7 (by decide) (hts _ w_80) (fun _ h9 => h9) rfl (by decide +kernel) (rfl) (rfl) (Nat.le_of_ble_eq_true rfl) d_Wo_removeLines_7 (fun H locs hP hD hS => ?_)
  have hP : va_P (dC, dI) cls [(h0, .inr (3, [.ref w0, .ref w1, .ref w2, .ref w3, .ref w4, .ref w5, .int 0, .int 0, .int (nI wc)]))] H := hP
  have hD : va_D A [(h0, .inr (3, [.ref w0, .ref w1, .ref w2, .ref w3, .ref w4, .ref w5, .int 0, .int 0, .int (nI wc)]))] := hD
  refine W.widen (k := 0) (n := 0) (by decide) (by decide) ?_
  exact W.vret hx hb hr (fun t ht hW => ⟨⟨(), rfl, trivial, cB.of (hP.sub [0] rfl) (hD.sub [0] (by decide) rfl) (hK.sub [] rfl) ht hW⟩, hS.F ht⟩) hS.2.2 d_Wo_removeLines_10
set_option maxHeartbeats 4000000 in
set_option maxRecDepth 100000 in
theorem g_Wo_keep1 (l : Launch) (dC : Nat → ClassId) (dI : Nat → Nat → Nat) (h0 w0 w1 w2 w3 w4 w5 : Nat) (wn : Nat) (nx : Int32) (wc : Nat) (cT : ClassId) (f : Nat → Int32) (x : Int32) (hc : wc < 15) (sz : Nat) : Met l y_Wo_keepTyped (Cond.code y_Wo_keepTyped b_Wo_keepTyped 2 none :: gw) ({ frames := 0, cells := 0, slots := 0, locals := 0 }) (cP (dC, dI) [.ref h0, .int x] sz [(h0, .inr (3, [.ref w0, .ref w1, .ref w2, .ref w3, .ref w4, .ref w5, .int (nI wn), .int nx, .int (nI wc)])), (w5, .inl (cT, 15, .inl f))] [(cT, .int)] xT) (va_Qv (fun (u : Unit) => True) (fun (u : Unit) t => cB (dC, dI) (va_A [(h0, .inr (3, [.ref w0, .ref w1, .ref w2, .ref w3, .ref w4, .ref w5, .int (nI wn), .int nx, .int (nI wc)])), (w5, .inl (cT, 15, .inl f))] sz) [(h0, .inr (3, [.ref w0, .ref w1, .ref w2, .ref w3, .ref w4, .ref w5, .int (nI wn), .int nx, .int (nI (wc + 1))])), (w5, .inl (cT, 15, .inl (upd f wc x)))] [(cT, .int)] t) (va_A [(h0, .inr (3, [.ref w0, .ref w1, .ref w2, .ref w3, .ref w4, .ref w5, .int (nI wn), .int nx, .int (nI wc)])), (w5, .inl (cT, 15, .inl f))] sz)) 0 0 (va_A [(h0, .inr (3, [.ref w0, .ref w1, .ref w2, .ref w3, .ref w4, .ref w5, .int (nI wn), .int nx, .int (nI wc)])), (w5, .inl (cT, 15, .inl f))] sz) := by
  refine Met.ofW (cc := b_Wo_keepTyped) (maxL := 2) (ret := none) (by decide) rfl ?_
  intro p e s m args below meth c s₁ B hml hv
  obtain ⟨rfl, hsz, hP, hK, hD0, hkw, hX⟩ := hv
  have hx := B.exec
  have hb := B.bytes
  have hr := B.returns
  have hts := fun w hw => atoms_spec (ws := Cond.code y_Wo_keepTyped b_Wo_keepTyped 2 none :: gw) B.pre w (List.mem_cons_of_mem _ hw)
  have hown : s.vm.findClass "LineDisk$Workspace" = some m.cls := findClass_of_methodNamed B.named
  have hlocks := B.notSynchronized
  have hin := (name_of_methodNamed B.named B.method).1
  subst hsz
  have hD := hD0.self (sz := s.heap.size)
  generalize hAe : va_A [(h0, .inr (3, [.ref w0, .ref w1, .ref w2, .ref w3, .ref w4, .ref w5, .int (nI wn), .int nx, .int (nI wc)])), (w5, .inl (cT, 15, .inl f))] s.heap.size = A at hD ⊢
  have hA : ∀ q : Nat, s.heap.size ≤ q → A q := fun q h => by rw [← hAe]; exact Or.inr h
  have hS : va_S A s.heap s.heap [] := va_S.rf
  have hl := lv_entry ([.ref h0, .int x]) (n := 2) (Nat.le_of_ble_eq_true rfl)
  rw [lg_entry_eq]
  generalize (lg_sl ([.ref h0, .int x]) ++ List.replicate (2 - (lg_sl ([.ref h0, .int x])).length) Slot.unset).toArray = ls at hl ⊢
  have hl : lv_has ls 2 [(0, .ref h0), (1, .int x)] := hl
  have F : CallFix p m c b_Wo_keepTyped 2 s ([.ref h0, .int x]).toArray gw "LineDisk$Workspace" := ⟨hx, hb, hml, hown, hts⟩
  refine lv_aload_n hx hb d_Wo_keepTyped_0 rfl (lv_at hl 0 rfl) ?_
  refine va_get (D := (dC, dI)) (ci := 3) (v := .int (nI wc)) (C := R_Wo) (T := F_Wo) (N := 9) hx hb hts in_Wo hown hK hP 0 rfl rfl 8 (by decide) (hts _ w_82) (fun _ h9 => h9) rfl d_Wo_keepTyped_1 ?_
  refine lv_bipush (v := 15) hx hb d_Wo_keepTyped_4 (by decide) ?_
  refine lv_icmp_ge (tgt := 29) hx hb d_Wo_keepTyped_6 (by decide) (fun h => absurd h (nI_ge (b := 15) hc (by decide))) (fun _ => ?_)
  refine lv_aload_n hx hb d_Wo_keepTyped_9 rfl (lv_at hl 0 rfl) ?_
  refine va_get (D := (dC, dI)) (ci := 3) (v := .ref w5) (C := R_Wo) (T := F_Wo) (N := 9) hx hb hts in_Wo hown hK hP 0 rfl rfl 5 (by decide) (hts _ w_76) (fun _ h9 => h9) rfl d_Wo_keepTyped_10 ?_
  refine lv_aload_n hx hb d_Wo_keepTyped_13 rfl (lv_at hl 0 rfl) ?_
  refine va_get (D := (dC, dI)) (ci := 3) (v := .int (nI wc)) (C := R_Wo) (T := F_Wo) (N := 9) hx hb hts in_Wo hown hK hP 0 rfl rfl 8 (by decide) (hts _ w_82) (fun _ h9 => h9) rfl d_Wo_keepTyped_14 ?_
  refine lv_iload_n hx hb d_Wo_keepTyped_17 rfl (lv_at hl 1 rfl) ?_
  refine va_iast hx hb hK hP hD hS 1 0 rfl rfl (vp_in_nI hc (by decide)) d_Wo_keepTyped_18 (fun H locs hP hD hS => ?_)
  have hP : va_P (dC, dI) cls [(h0, .inr (3, [.ref w0, .ref w1, .ref w2, .ref w3, .ref w4, .ref w5, .int (nI wn), .int nx, .int (nI wc)])), (w5, .inl (cT, 15, .inl (upd f (nI wc : Int32).toNatClampNeg x)))] H := hP
  have hD : va_D A [(h0, .inr (3, [.ref w0, .ref w1, .ref w2, .ref w3, .ref w4, .ref w5, .int (nI wn), .int nx, .int (nI wc)])), (w5, .inl (cT, 15, .inl (upd f (nI wc : Int32).toNatClampNeg x)))] := hD
  refine lv_aload_n hx hb d_Wo_keepTyped_19 rfl (lv_at hl 0 rfl) ?_
  refine lv_dup hx hb d_Wo_keepTyped_20 rfl ?_
  refine va_get (D := (dC, dI)) (ci := 3) (v := .int (nI wc)) (C := R_Wo) (T := F_Wo) (N := 9) hx hb hts in_Wo hown hK hP 0 rfl rfl 8 (by decide) (hts _ w_82) (fun _ h9 => h9) rfl d_Wo_keepTyped_21 ?_
  refine lv_iconst (v := 1) hx hb d_Wo_keepTyped_24 (by decide) ?_
  refine lv_iadd hx hb d_Wo_keepTyped_25 ?_
  refine tv (x2 := nI (wc + 1)) (by exact (nI_succ wc).symm) ?_
  refine va_put (D := (dC, dI)) (ci := 3) (v := .int (nI (wc + 1))) (ty := .int) (C := R_Wo) (T := F_Wo) (N := 9) hx hb hts in_Wo t_Wo t_Wo_ok n_Wo hown hK hP hD hS 0 rfl rfl 8 (by decide) (hts _ w_82) (fun _ h9 => h9) rfl (by decide +kernel) (rfl) (rfl) (Nat.le_of_ble_eq_true rfl) d_Wo_keepTyped_26 (fun H locs hP hD hS => ?_)
  have hP : va_P (dC, dI) cls [(h0, .inr (3, [.ref w0, .ref w1, .ref w2, .ref w3, .ref w4, .ref w5, .int (nI wn), .int nx, .int (nI (wc + 1))])), (w5, .inl (cT, 15, .inl (upd f (nI wc : Int32).toNatClampNeg x)))] H := hP
  have hD : va_D A [(h0, .inr (3, [.ref w0, .ref w1, .ref w2, .ref w3, .ref w4, .ref w5, .int (nI wn), .int nx, .int (nI (wc + 1))])), (w5, .inl (cT, 15, .inl (upd f (nI wc : Int32).toNatClampNeg x)))] := hD
  rw [nI_clamp (show wc < 2 ^ 31 by omega)] at hP hD
  have hP : va_P (dC, dI) cls [(h0, .inr (3, [.ref w0, .ref w1, .ref w2, .ref w3, .ref w4, .ref w5, .int (nI wn), .int nx, .int (nI (wc + 1))])), (w5, .inl (cT, 15, .inl (upd f wc x)))] H := hP
  have hD : va_D A [(h0, .inr (3, [.ref w0, .ref w1, .ref w2, .ref w3, .ref w4, .ref w5, .int (nI wn), .int nx, .int (nI (wc + 1))])), (w5, .inl (cT, 15, .inl (upd f wc x)))] := hD
  refine W.widen (k := 0) (n := 0) (by decide) (by decide) ?_
  exact W.vret hx hb hr (fun t ht hW => ⟨⟨(), rfl, trivial, cB.of (hP.sub [0, 1] rfl) (hD.sub [0, 1] (by decide) rfl) (hK.sub [0] rfl) ht hW⟩, hS.F ht⟩) hS.2.2 d_Wo_keepTyped_29
set_option maxHeartbeats 4000000 in
set_option maxRecDepth 100000 in
theorem g_Wo_keep2 (l : Launch) (dC : Nat → ClassId) (dI : Nat → Nat → Nat) (h0 w0 w1 w2 w3 w4 w5 : Nat) (wn : Nat) (nx : Int32) (wc : Nat) (cT : ClassId) (f : Nat → Int32) (x : Int32) (hc : wc = 15) (sz : Nat) : Met l y_Wo_keepTyped (Cond.code y_Wo_keepTyped b_Wo_keepTyped 2 none :: gw) ({ frames := 0, cells := 0, slots := 0, locals := 0 }) (cP (dC, dI) [.ref h0, .int x] sz [(h0, .inr (3, [.ref w0, .ref w1, .ref w2, .ref w3, .ref w4, .ref w5, .int (nI wn), .int nx, .int (nI wc)])), (w5, .inl (cT, 15, .inl f))] [(cT, .int)] xT) (va_Qv (fun (u : Unit) => True) (fun (u : Unit) t => cB (dC, dI) (va_A [(h0, .inr (3, [.ref w0, .ref w1, .ref w2, .ref w3, .ref w4, .ref w5, .int (nI wn), .int nx, .int (nI wc)])), (w5, .inl (cT, 15, .inl f))] sz) [(h0, .inr (3, [.ref w0, .ref w1, .ref w2, .ref w3, .ref w4, .ref w5, .int (nI wn), .int nx, .int (nI wc)])), (w5, .inl (cT, 15, .inl f))] [(cT, .int)] t) (va_A [(h0, .inr (3, [.ref w0, .ref w1, .ref w2, .ref w3, .ref w4, .ref w5, .int (nI wn), .int nx, .int (nI wc)])), (w5, .inl (cT, 15, .inl f))] sz)) 0 0 (va_A [(h0, .inr (3, [.ref w0, .ref w1, .ref w2, .ref w3, .ref w4, .ref w5, .int (nI wn), .int nx, .int (nI wc)])), (w5, .inl (cT, 15, .inl f))] sz) := by
  refine Met.ofW (cc := b_Wo_keepTyped) (maxL := 2) (ret := none) (by decide) rfl ?_
  intro p e s m args below meth c s₁ B hml hv
  obtain ⟨rfl, hsz, hP, hK, hD0, hkw, hX⟩ := hv
  have hx := B.exec
  have hb := B.bytes
  have hr := B.returns
  have hts := fun w hw => atoms_spec (ws := Cond.code y_Wo_keepTyped b_Wo_keepTyped 2 none :: gw) B.pre w (List.mem_cons_of_mem _ hw)
  have hown : s.vm.findClass "LineDisk$Workspace" = some m.cls := findClass_of_methodNamed B.named
  have hlocks := B.notSynchronized
  have hin := (name_of_methodNamed B.named B.method).1
  subst hsz
  have hD := hD0.self (sz := s.heap.size)
  generalize hAe : va_A [(h0, .inr (3, [.ref w0, .ref w1, .ref w2, .ref w3, .ref w4, .ref w5, .int (nI wn), .int nx, .int (nI wc)])), (w5, .inl (cT, 15, .inl f))] s.heap.size = A at hD ⊢
  have hA : ∀ q : Nat, s.heap.size ≤ q → A q := fun q h => by rw [← hAe]; exact Or.inr h
  have hS : va_S A s.heap s.heap [] := va_S.rf
  have hl := lv_entry ([.ref h0, .int x]) (n := 2) (Nat.le_of_ble_eq_true rfl)
  rw [lg_entry_eq]
  generalize (lg_sl ([.ref h0, .int x]) ++ List.replicate (2 - (lg_sl ([.ref h0, .int x])).length) Slot.unset).toArray = ls at hl ⊢
  have hl : lv_has ls 2 [(0, .ref h0), (1, .int x)] := hl
  have F : CallFix p m c b_Wo_keepTyped 2 s ([.ref h0, .int x]).toArray gw "LineDisk$Workspace" := ⟨hx, hb, hml, hown, hts⟩
  refine lv_aload_n hx hb d_Wo_keepTyped_0 rfl (lv_at hl 0 rfl) ?_
  refine va_get (D := (dC, dI)) (ci := 3) (v := .int (nI wc)) (C := R_Wo) (T := F_Wo) (N := 9) hx hb hts in_Wo hown hK hP 0 rfl rfl 8 (by decide) (hts _ w_82) (fun _ h9 => h9) rfl d_Wo_keepTyped_1 ?_
  refine lv_bipush (v := 15) hx hb d_Wo_keepTyped_4 (by decide) ?_
  refine lv_icmp_ge (tgt := 29) hx hb d_Wo_keepTyped_6 (by decide) (fun _ => ?_) (fun h => absurd (by rw [hc]; exact nI_le (a := 15) (b := 15) (Nat.le_refl _) (by decide)) h)
  refine W.widen (k := 0) (n := 0) (by decide) (by decide) ?_
  exact W.vret hx hb hr (fun t ht hW => ⟨⟨(), rfl, trivial, cB.of (hP.sub [0, 1] rfl) (hD.sub [0, 1] (by decide) rfl) (hK.sub [0] rfl) ht hW⟩, hS.F ht⟩) hS.2.2 d_Wo_keepTyped_29
set_option maxHeartbeats 4000000 in
set_option maxRecDepth 100000 in
theorem lp_Wo_place {p : Program} {l : Launch} {e : Env} {R : Room} {s : State} {m : MethodId} {args : Array Value} {below : List Frame} {meth : Method} {c : Code} {cells slots : Nat} {Q : State → Prop} {A : Nat → Prop} {dC : Nat → ClassId} {dI : Nat → Nat → Nat} (hx : p.tables.exec = Jvm.exec) (hb : c.code = b_Wo_placeOf) (hml : c.maxLocals = 3) (hts : ∀ w ∈ gw, w.before args s = true) (hown : s.vm.findClass "LineDisk$Workspace" = some m.cls) (hkw : kw s) (hA : ∀ q : Nat, s.heap.size ≤ q → A q) (h0 w0 w1 w2 w3 w4 w5 : Nat) (wn : Nat) (nx : Int32) (wc : Nat) (cN : ClassId) (nu : Nat → Int32) (x : Int32) (hwn : wn ≤ 10) (hK0 : va_K (dC, dI) cls [(cN, .int)] s) (hRf : 0 ≤ R.frames) (hRl : 0 ≤ R.locals) (hRc : cells ≤ R.cells) (hRs : slots ≤ R.slots)  (k_26 : ∀ (k : Nat), k ≤ wn → ∀ (ls : Array Slot) (H : Heap) (locs : List Loc), lv_has ls 3 [(2, .int (nI k)), (0, .ref h0)] → va_P (dC, dI) cls [(h0, .inr (3, [.ref w0, .ref w1, .ref w2, .ref w3, .ref w4, .ref w5, .int (nI wn), .int nx, .int (nI wc)])), (w0, .inl (cN, 10, .inl nu))] H → va_D A [(h0, .inr (3, [.ref w0, .ref w1, .ref w2, .ref w3, .ref w4, .ref w5, .int (nI wn), .int nx, .int (nI wc)])), (w0, .inl (cN, 10, .inl nu))] → va_S A s.heap H locs → (plc nu wn x k) → W p l e R s m args below meth c H locs cells slots Q (F0 m 26 ls [])) : ∀ (j k : Nat), k + j = wn → ∀ (ls : Array Slot) (H : Heap) (locs : List Loc), lv_has ls 3 [(2, .int (nI k)), (0, .ref h0), (1, .int x)] → va_P (dC, dI) cls [(h0, .inr (3, [.ref w0, .ref w1, .ref w2, .ref w3, .ref w4, .ref w5, .int (nI wn), .int nx, .int (nI wc)])), (w0, .inl (cN, 10, .inl nu))] H → va_D A [(h0, .inr (3, [.ref w0, .ref w1, .ref w2, .ref w3, .ref w4, .ref w5, .int (nI wn), .int nx, .int (nI wc)])), (w0, .inl (cN, 10, .inl nu))] → va_S A s.heap H locs → (∀ i, i < k → nu i < x) → W p l e R s m args below meth c H locs cells slots Q (F0 m 2 ls []) := by
  have F : CallFix p m c b_Wo_placeOf 3 s args gw "LineDisk$Workspace" := ⟨hx, hb, hml, hown, hts⟩
  intro j
  induction j with
  | zero =>
    intro k hk ls H locs hl hP hD hS hf
    have hK := hK0
    have hkN : k = wn := by omega
    refine lv_iload_n hx hb d_Wo_placeOf_2 rfl (lv_at hl 0 rfl) ?_
    refine lv_aload_n hx hb d_Wo_placeOf_3 rfl (lv_at hl 1 rfl) ?_
    refine va_get (D := (dC, dI)) (ci := 3) (v := .int (nI wn)) (C := R_Wo) (T := F_Wo) (N := 9) hx hb hts in_Wo hown hK hP 0 rfl rfl 6 (by decide) (hts _ w_78) (fun _ h9 => h9) rfl d_Wo_placeOf_4 ?_
    refine lv_icmp_ge (tgt := 26) hx hb d_Wo_placeOf_7 (by decide) (fun _ => ?_) (fun h => absurd (by rw [hkN]; exact nI_le (Nat.le_refl _) (by omega)) h)
    exact k_26 k (by omega) ls _ _ (lv_sub hl [0, 1] rfl) (hP.sub [0, 1] rfl) (hD.sub [0, 1] (by decide) rfl) hS (⟨by omega, hf, Or.inl hkN⟩)
  | succ j ih =>
    intro k hk ls H locs hl hP hD hS hf
    have hK := hK0
    have hkN : k < wn := by omega
    refine lv_iload_n hx hb d_Wo_placeOf_2 rfl (lv_at hl 0 rfl) ?_
    refine lv_aload_n hx hb d_Wo_placeOf_3 rfl (lv_at hl 1 rfl) ?_
    refine va_get (D := (dC, dI)) (ci := 3) (v := .int (nI wn)) (C := R_Wo) (T := F_Wo) (N := 9) hx hb hts in_Wo hown hK hP 0 rfl rfl 6 (by decide) (hts _ w_78) (fun _ h9 => h9) rfl d_Wo_placeOf_4 ?_
    refine lv_icmp_ge (tgt := 26) hx hb d_Wo_placeOf_7 (by decide) (fun h => absurd h (nI_ge hkN (by omega))) (fun _ => ?_)
    refine lv_aload_n hx hb d_Wo_placeOf_10 rfl (lv_at hl 1 rfl) ?_
    refine va_get (D := (dC, dI)) (ci := 3) (v := .ref w0) (C := R_Wo) (T := F_Wo) (N := 9) hx hb hts in_Wo hown hK hP 0 rfl rfl 0 (by decide) (hts _ w_68) (fun _ h9 => h9) rfl d_Wo_placeOf_11 ?_
    refine lv_iload_n hx hb d_Wo_placeOf_14 rfl (lv_at hl 0 rfl) ?_
    refine va_iald hx hb hK hP 1 0 rfl rfl (vp_in_nI (by omega) (by decide)) d_Wo_placeOf_15 ?_
    refine tv (x2 := nu k) (by exact by rw [nI_clamp (by omega)]) ?_
    refine lv_iload_n hx hb d_Wo_placeOf_16 rfl (lv_at hl 2 rfl) ?_
    refine lv_icmp_ge (tgt := 26) hx hb d_Wo_placeOf_17 (by decide) (fun c17 => ?_) (fun c17 => ?_)
    · skip
      exact k_26 k (by omega) ls _ _ (lv_sub hl [0, 1] rfl) (hP.sub [0, 1] rfl) (hD.sub [0, 1] (by decide) rfl) hS (⟨by omega, hf, Or.inr ⟨hkN, Int32.not_lt.mpr c17⟩⟩)
    · skip
      refine lv_iinc (k := 0) (v := nI (k + 1)) hx hb d_Wo_placeOf_20 hl rfl (by rw [lit1]; exact (nI_succ k).symm) (by decide) rfl (fun ls hl => ?_)
      have hl : lv_has ls 3 [(2, .int (nI (k + 1))), (0, .ref h0), (1, .int x)] := hl
      refine lv_goto (tgt := 2) hx hb d_Wo_placeOf_23 (by decide) ?_
      exact ih (k + 1) (by omega) ls _ _ (lv_sub hl [0, 1, 2] rfl) (hP.sub [0, 1] rfl) (hD.sub [0, 1] (by decide) rfl) hS (fun i hi => by
        rcases Nat.lt_succ_iff_lt_or_eq.mp hi with h | h
        · exact hf i h
        · subst h; exact Int32.not_le.mp c17)
set_option maxHeartbeats 4000000 in
set_option maxRecDepth 100000 in
theorem g_Wo_placeOf (l : Launch) (dC : Nat → ClassId) (dI : Nat → Nat → Nat) (h0 w0 w1 w2 w3 w4 w5 : Nat) (wn : Nat) (nx : Int32) (wc : Nat) (cN : ClassId) (nu : Nat → Int32) (x : Int32) (hwn : wn ≤ 10) (sz : Nat) : Met l y_Wo_placeOf (Cond.code y_Wo_placeOf b_Wo_placeOf 3 (some .int) :: gw) ({ frames := 0, cells := 0, slots := 0, locals := 0 }) (cP (dC, dI) [.ref h0, .int x] sz [(h0, .inr (3, [.ref w0, .ref w1, .ref w2, .ref w3, .ref w4, .ref w5, .int (nI wn), .int nx, .int (nI wc)])), (w0, .inl (cN, 10, .inl nu))] [(cN, .int)] xT) (va_Qi (fun (r : Int32) (u : Nat) => r = nI u ∧ plc nu wn x u) (fun (u : Nat) t => cB (dC, dI) (va_A [(h0, .inr (3, [.ref w0, .ref w1, .ref w2, .ref w3, .ref w4, .ref w5, .int (nI wn), .int nx, .int (nI wc)])), (w0, .inl (cN, 10, .inl nu))] sz) [(h0, .inr (3, [.ref w0, .ref w1, .ref w2, .ref w3, .ref w4, .ref w5, .int (nI wn), .int nx, .int (nI wc)])), (w0, .inl (cN, 10, .inl nu))] [(cN, .int)] t) (va_A [(h0, .inr (3, [.ref w0, .ref w1, .ref w2, .ref w3, .ref w4, .ref w5, .int (nI wn), .int nx, .int (nI wc)])), (w0, .inl (cN, 10, .inl nu))] sz)) 0 0 (va_A [(h0, .inr (3, [.ref w0, .ref w1, .ref w2, .ref w3, .ref w4, .ref w5, .int (nI wn), .int nx, .int (nI wc)])), (w0, .inl (cN, 10, .inl nu))] sz) := by
  refine Met.ofW (cc := b_Wo_placeOf) (maxL := 3) (ret := (some .int)) (by decide) rfl ?_
  intro p e s m args below meth c s₁ B hml hv
  obtain ⟨rfl, hsz, hP, hK, hD0, hkw, hX⟩ := hv
  have hx := B.exec
  have hb := B.bytes
  have hr := B.returns
  have hts := fun w hw => atoms_spec (ws := Cond.code y_Wo_placeOf b_Wo_placeOf 3 (some .int) :: gw) B.pre w (List.mem_cons_of_mem _ hw)
  have hown : s.vm.findClass "LineDisk$Workspace" = some m.cls := findClass_of_methodNamed B.named
  have hlocks := B.notSynchronized
  have hin := (name_of_methodNamed B.named B.method).1
  subst hsz
  have hD := hD0.self (sz := s.heap.size)
  generalize hAe : va_A [(h0, .inr (3, [.ref w0, .ref w1, .ref w2, .ref w3, .ref w4, .ref w5, .int (nI wn), .int nx, .int (nI wc)])), (w0, .inl (cN, 10, .inl nu))] s.heap.size = A at hD ⊢
  have hA : ∀ q : Nat, s.heap.size ≤ q → A q := fun q h => by rw [← hAe]; exact Or.inr h
  have hS : va_S A s.heap s.heap [] := va_S.rf
  have hl := lv_entry ([.ref h0, .int x]) (n := 3) (Nat.le_of_ble_eq_true rfl)
  rw [lg_entry_eq]
  generalize (lg_sl ([.ref h0, .int x]) ++ List.replicate (3 - (lg_sl ([.ref h0, .int x])).length) Slot.unset).toArray = ls at hl ⊢
  have hl : lv_has ls 3 [(0, .ref h0), (1, .int x)] := hl
  have F : CallFix p m c b_Wo_placeOf 3 s ([.ref h0, .int x]).toArray gw "LineDisk$Workspace" := ⟨hx, hb, hml, hown, hts⟩
  refine lv_iconst (v := 0) hx hb d_Wo_placeOf_0 (by decide) ?_
  refine lv_istore_n (i := 2) hx hb d_Wo_placeOf_1 rfl hl (by decide) rfl (fun ls hl => ?_)
  have hl : lv_has ls 3 [(2, .int 0), (0, .ref h0), (1, .int x)] := hl
  refine lp_Wo_place hx hb hml hts hown hkw hA h0 w0 w1 w2 w3 w4 w5 wn nx wc cN nu x hwn hK (by decide) (by decide) (by decide) (by decide) (fun k _ ls H locs hl hP hD hS hf => ?_) wn 0 (by omega) ls _ _ (lv_sub hl [0, 1, 2] rfl) hP hD hS (fun i hi => absurd hi (by omega))
  refine lv_iload_n hx hb d_Wo_placeOf_26 rfl (lv_at hl 0 rfl) ?_
  refine W.widen (k := 0) (n := 0) (by decide) (by decide) ?_
  exact W.iret (v := nI k) hx hb hr (fun t ht hW => ⟨⟨nI k, k, rfl, ⟨rfl, hf⟩, cB.of (hP.sub [0, 1] rfl) (hD.sub [0, 1] (by decide) rfl) (hK.sub [0] rfl) ht hW⟩, hS.F ht⟩) hS.2.2 d_Wo_placeOf_27
set_option maxHeartbeats 4000000 in
set_option maxRecDepth 100000 in
theorem g_Wo_nextLine (l : Launch) (dC : Nat → ClassId) (dI : Nat → Nat → Nat) (h0 w0 w1 w2 w3 w4 w5 : Nat) (wn : Nat) (nx : Int32) (wc : Nat) (cN : ClassId) (nu : Nat → Int32) (hwn : wn ≤ 10) (sz : Nat) : Met l y_Wo_nextLine (Cond.code y_Wo_nextLine b_Wo_nextLine 2 (some .int) :: gw) ({ frames := 1, cells := 0, slots := 0, locals := 22 }) (cP (dC, dI) [.ref h0] sz [(h0, .inr (3, [.ref w0, .ref w1, .ref w2, .ref w3, .ref w4, .ref w5, .int (nI wn), .int nx, .int (nI wc)])), (w0, .inl (cN, 10, .inl nu))] [(cN, .int)] xT) (va_Qi (fun (r : Int32) (u : Nat) => plc nu wn nx u ∧ r = if u < wn then nI u else -1) (fun (u : Nat) t => cB (dC, dI) (va_A [(h0, .inr (3, [.ref w0, .ref w1, .ref w2, .ref w3, .ref w4, .ref w5, .int (nI wn), .int nx, .int (nI wc)])), (w0, .inl (cN, 10, .inl nu))] sz) [(h0, .inr (3, [.ref w0, .ref w1, .ref w2, .ref w3, .ref w4, .ref w5, .int (nI wn), .int nx, .int (nI wc)])), (w0, .inl (cN, 10, .inl nu))] [(cN, .int)] t) (va_A [(h0, .inr (3, [.ref w0, .ref w1, .ref w2, .ref w3, .ref w4, .ref w5, .int (nI wn), .int nx, .int (nI wc)])), (w0, .inl (cN, 10, .inl nu))] sz)) 0 0 (va_A [(h0, .inr (3, [.ref w0, .ref w1, .ref w2, .ref w3, .ref w4, .ref w5, .int (nI wn), .int nx, .int (nI wc)])), (w0, .inl (cN, 10, .inl nu))] sz) := by
  refine Met.ofW (cc := b_Wo_nextLine) (maxL := 2) (ret := (some .int)) (by decide) rfl ?_
  intro p e s m args below meth c s₁ B hml hv
  obtain ⟨rfl, hsz, hP, hK, hD0, hkw, hX⟩ := hv
  have hx := B.exec
  have hb := B.bytes
  have hr := B.returns
  have hts := fun w hw => atoms_spec (ws := Cond.code y_Wo_nextLine b_Wo_nextLine 2 (some .int) :: gw) B.pre w (List.mem_cons_of_mem _ hw)
  have hown : s.vm.findClass "LineDisk$Workspace" = some m.cls := findClass_of_methodNamed B.named
  have hlocks := B.notSynchronized
  have hin := (name_of_methodNamed B.named B.method).1
  subst hsz
  have hD := hD0.self (sz := s.heap.size)
  generalize hAe : va_A [(h0, .inr (3, [.ref w0, .ref w1, .ref w2, .ref w3, .ref w4, .ref w5, .int (nI wn), .int nx, .int (nI wc)])), (w0, .inl (cN, 10, .inl nu))] s.heap.size = A at hD ⊢
  have hA : ∀ q : Nat, s.heap.size ≤ q → A q := fun q h => by rw [← hAe]; exact Or.inr h
  have hS : va_S A s.heap s.heap [] := va_S.rf
  have hl := lv_entry ([.ref h0]) (n := 2) (Nat.le_of_ble_eq_true rfl)
  rw [lg_entry_eq]
  generalize (lg_sl ([.ref h0]) ++ List.replicate (2 - (lg_sl ([.ref h0])).length) Slot.unset).toArray = ls at hl ⊢
  have hl : lv_has ls 2 [(0, .ref h0)] := hl
  have F : CallFix p m c b_Wo_nextLine 2 s ([.ref h0]).toArray gw "LineDisk$Workspace" := ⟨hx, hb, hml, hown, hts⟩
  refine lv_aload_n hx hb d_Wo_nextLine_0 rfl (lv_at hl 0 rfl) ?_
  refine lv_aload_n hx hb d_Wo_nextLine_1 rfl (lv_at hl 0 rfl) ?_
  refine va_get (D := (dC, dI)) (ci := 3) (v := .int nx) (C := R_Wo) (T := F_Wo) (N := 9) hx hb hts in_Wo hown hK hP 0 rfl rfl 7 (by decide) (hts _ w_80) (fun _ h9 => h9) rfl d_Wo_nextLine_2 ?_
  refine go_i (wr := []) (tr := []) (rV (C := "LineDisk$Workspace") (ci := 3) (q0 := 0) (b := h0) (n := 1) (As := [.int nx]) (rest := []) F hkw (g_Wo_placeOf l dC dI h0 w0 w1 w2 w3 w4 w5 wn nx wc cN nu nx hwn s.heap.size) xT_bl (fun _ _ _ => trivial) w_239 w_241 ws_2 w_4 w_242 rfl rfl (by decide +kernel) ⟨Nat.le_of_ble_eq_true rfl, Nat.le_of_ble_eq_true rfl⟩ (hP.sub (ws' := [(h0, .inr (3, [.ref w0, .ref w1, .ref w2, .ref w3, .ref w4, .ref w5, .int (nI wn), .int nx, .int (nI wc)])), (w0, .inl (cN, 10, .inl nu))]) [0, 1] rfl) (hD.sub (ws' := [(h0, .inr (3, [.ref w0, .ref w1, .ref w2, .ref w3, .ref w4, .ref w5, .int (nI wn), .int nx, .int (nI wc)])), (w0, .inl (cN, 10, .inl nu))]) [0, 1] (by decide) rfl) (hK.sub (tys' := [(cN, .int)]) [0] rfl) rfl rfl rfl rfl hl.1 rfl (Nat.le_of_ble_eq_true rfl) d_Wo_nextLine_5 ⟨by decide, by decide⟩) hP hD hK hS hA [0, 1] [] [] rfl rfl (by decide) (by decide) rfl (fun r p9 H locs h9 hP hD hK hS => ?_)
  have hP : va_P (dC, dI) cls [(h0, .inr (3, [.ref w0, .ref w1, .ref w2, .ref w3, .ref w4, .ref w5, .int (nI wn), .int nx, .int (nI wc)])), (w0, .inl (cN, 10, .inl nu))] H := hP
  have hD : va_D A [(h0, .inr (3, [.ref w0, .ref w1, .ref w2, .ref w3, .ref w4, .ref w5, .int (nI wn), .int nx, .int (nI wc)])), (w0, .inl (cN, 10, .inl nu))] := hD
  have hK : va_K (dC, dI) cls [(cN, .int)] s := hK
  refine W.widen (k := 0) (n := 0) (by omega) (by omega) ?_
  obtain ⟨rfl, h9⟩ := h9
  have hp9 : p9 ≤ wn := h9.1
  refine lv_istore_n (i := 1) hx hb d_Wo_nextLine_8 rfl hl (by decide) rfl (fun ls hl => ?_)
  have hl : lv_has ls 2 [(1, .int (nI p9)), (0, .ref h0)] := hl
  refine lv_iload_n hx hb d_Wo_nextLine_9 rfl (lv_at hl 0 rfl) ?_
  refine lv_aload_n hx hb d_Wo_nextLine_10 rfl (lv_at hl 1 rfl) ?_
  refine va_get (D := (dC, dI)) (ci := 3) (v := .int (nI wn)) (C := R_Wo) (T := F_Wo) (N := 9) hx hb hts in_Wo hown hK hP 0 rfl rfl 6 (by decide) (hts _ w_78) (fun _ h9 => h9) rfl d_Wo_nextLine_11 ?_
  refine lv_icmp_ge (tgt := 21) hx hb d_Wo_nextLine_14 (by decide) (fun c14 => ?_) (fun c14 => ?_)
  · skip
    refine lv_iconst (v := (-1)) hx hb d_Wo_nextLine_21 (by decide) ?_
    refine W.widen (k := 0) (n := 0) (by decide) (by decide) ?_
    exact W.iret (v := (-1)) hx hb hr (fun t ht hW => ⟨⟨(-1), p9, rfl, ⟨h9, by
      rw [nI_leI (by omega) (by omega)] at c14; rw [if_neg (by omega)]⟩, cB.of (hP.sub [0, 1] rfl) (hD.sub [0, 1] (by decide) rfl) (hK.sub [0] rfl) ht hW⟩, hS.F ht⟩) hS.2.2 d_Wo_nextLine_22
  · skip
    refine lv_iload_n hx hb d_Wo_nextLine_17 rfl (lv_at hl 0 rfl) ?_
    refine lv_goto (tgt := 22) hx hb d_Wo_nextLine_18 (by decide) ?_
    refine W.widen (k := 0) (n := 0) (by decide) (by decide) ?_
    exact W.iret (v := nI p9) hx hb hr (fun t ht hW => ⟨⟨nI p9, p9, rfl, ⟨h9, by
      rw [nI_leI (by omega) (by omega)] at c14; rw [if_pos (by omega)]⟩, cB.of (hP.sub [0, 1] rfl) (hD.sub [0, 1] (by decide) rfl) (hK.sub [0] rfl) ht hW⟩, hS.F ht⟩) hS.2.2 d_Wo_nextLine_22
set_option maxHeartbeats 4000000 in
set_option maxRecDepth 100000 in
theorem g_Wo_numberOf (l : Launch) (dC : Nat → ClassId) (dI : Nat → Nat → Nat) (h0 w0 w1 w2 w3 w4 w5 : Nat) (wn : Nat) (nx : Int32) (wc : Nat) (cN : ClassId) (nu : Nat → Int32) (x : Int32) (hwn : wn ≤ 10) (sz : Nat) : Met l y_Wo_numberOf (Cond.code y_Wo_numberOf b_Wo_numberOf 2 (some .int) :: gw) ({ frames := 0, cells := 0, slots := 0, locals := 0 }) (cP (dC, dI) [.ref h0, .int x] sz [(h0, .inr (3, [.ref w0, .ref w1, .ref w2, .ref w3, .ref w4, .ref w5, .int (nI wn), .int nx, .int (nI wc)])), (w0, .inl (cN, 10, .inl nu))] [(cN, .int)] xT) (va_Qi (fun (r : Int32) (u : Unit) => r = numv nu wn x) (fun (u : Unit) t => cB (dC, dI) (va_A [(h0, .inr (3, [.ref w0, .ref w1, .ref w2, .ref w3, .ref w4, .ref w5, .int (nI wn), .int nx, .int (nI wc)])), (w0, .inl (cN, 10, .inl nu))] sz) [(h0, .inr (3, [.ref w0, .ref w1, .ref w2, .ref w3, .ref w4, .ref w5, .int (nI wn), .int nx, .int (nI wc)])), (w0, .inl (cN, 10, .inl nu))] [(cN, .int)] t) (va_A [(h0, .inr (3, [.ref w0, .ref w1, .ref w2, .ref w3, .ref w4, .ref w5, .int (nI wn), .int nx, .int (nI wc)])), (w0, .inl (cN, 10, .inl nu))] sz)) 0 0 (va_A [(h0, .inr (3, [.ref w0, .ref w1, .ref w2, .ref w3, .ref w4, .ref w5, .int (nI wn), .int nx, .int (nI wc)])), (w0, .inl (cN, 10, .inl nu))] sz) := by
  refine Met.ofW (cc := b_Wo_numberOf) (maxL := 2) (ret := (some .int)) (by decide) rfl ?_
  intro p e s m args below meth c s₁ B hml hv
  obtain ⟨rfl, hsz, hP, hK, hD0, hkw, hX⟩ := hv
  have hx := B.exec
  have hb := B.bytes
  have hr := B.returns
  have hts := fun w hw => atoms_spec (ws := Cond.code y_Wo_numberOf b_Wo_numberOf 2 (some .int) :: gw) B.pre w (List.mem_cons_of_mem _ hw)
  have hown : s.vm.findClass "LineDisk$Workspace" = some m.cls := findClass_of_methodNamed B.named
  have hlocks := B.notSynchronized
  have hin := (name_of_methodNamed B.named B.method).1
  subst hsz
  have hD := hD0.self (sz := s.heap.size)
  generalize hAe : va_A [(h0, .inr (3, [.ref w0, .ref w1, .ref w2, .ref w3, .ref w4, .ref w5, .int (nI wn), .int nx, .int (nI wc)])), (w0, .inl (cN, 10, .inl nu))] s.heap.size = A at hD ⊢
  have hA : ∀ q : Nat, s.heap.size ≤ q → A q := fun q h => by rw [← hAe]; exact Or.inr h
  have hS : va_S A s.heap s.heap [] := va_S.rf
  have hl := lv_entry ([.ref h0, .int x]) (n := 2) (Nat.le_of_ble_eq_true rfl)
  rw [lg_entry_eq]
  generalize (lg_sl ([.ref h0, .int x]) ++ List.replicate (2 - (lg_sl ([.ref h0, .int x])).length) Slot.unset).toArray = ls at hl ⊢
  have hl : lv_has ls 2 [(0, .ref h0), (1, .int x)] := hl
  have F : CallFix p m c b_Wo_numberOf 2 s ([.ref h0, .int x]).toArray gw "LineDisk$Workspace" := ⟨hx, hb, hml, hown, hts⟩
  refine lv_iload_n hx hb d_Wo_numberOf_0 rfl (lv_at hl 1 rfl) ?_
  refine lv_if_lt (tgt := 21) hx hb d_Wo_numberOf_1 (by decide) (fun c1 => ?_) (fun c1 => ?_)
  · skip
    refine lv_iconst (v := 0) hx hb d_Wo_numberOf_21 (by decide) ?_
    refine W.widen (k := 0) (n := 0) (by decide) (by decide) ?_
    exact W.iret (v := 0) hx hb hr (fun t ht hW => ⟨⟨0, (), rfl, by (simp only [numv, c1, if_true, if_false, not_true_eq_false, not_false_eq_true, ite_not] <;> try simp), cB.of (hP.sub [0, 1] rfl) (hD.sub [0, 1] (by decide) rfl) (hK.sub [0] rfl) ht hW⟩, hS.F ht⟩) hS.2.2 d_Wo_numberOf_22
  · skip
    refine lv_iload_n hx hb d_Wo_numberOf_4 rfl (lv_at hl 1 rfl) ?_
    refine lv_aload_n hx hb d_Wo_numberOf_5 rfl (lv_at hl 0 rfl) ?_
    refine va_get (D := (dC, dI)) (ci := 3) (v := .int (nI wn)) (C := R_Wo) (T := F_Wo) (N := 9) hx hb hts in_Wo hown hK hP 0 rfl rfl 6 (by decide) (hts _ w_78) (fun _ h9 => h9) rfl d_Wo_numberOf_6 ?_
    refine lv_icmp_ge (tgt := 21) hx hb d_Wo_numberOf_9 (by decide) (fun c9 => ?_) (fun c9 => ?_)
    · skip
      refine lv_iconst (v := 0) hx hb d_Wo_numberOf_21 (by decide) ?_
      refine W.widen (k := 0) (n := 0) (by decide) (by decide) ?_
      exact W.iret (v := 0) hx hb hr (fun t ht hW => ⟨⟨0, (), rfl, by (simp only [numv, c1, c9, if_true, if_false, not_true_eq_false, not_false_eq_true, ite_not] <;> try simp), cB.of (hP.sub [0, 1] rfl) (hD.sub [0, 1] (by decide) rfl) (hK.sub [0] rfl) ht hW⟩, hS.F ht⟩) hS.2.2 d_Wo_numberOf_22
    · skip
      refine lv_aload_n hx hb d_Wo_numberOf_12 rfl (lv_at hl 0 rfl) ?_
      refine va_get (D := (dC, dI)) (ci := 3) (v := .ref w0) (C := R_Wo) (T := F_Wo) (N := 9) hx hb hts in_Wo hown hK hP 0 rfl rfl 0 (by decide) (hts _ w_68) (fun _ h9 => h9) rfl d_Wo_numberOf_13 ?_
      refine lv_iload_n hx hb d_Wo_numberOf_16 rfl (lv_at hl 1 rfl) ?_
      refine va_iald hx hb hK hP 1 0 rfl rfl (in_n hwn (by decide) c1 c9) d_Wo_numberOf_17 ?_
      refine lv_goto (tgt := 22) hx hb d_Wo_numberOf_18 (by decide) ?_
      refine W.widen (k := 0) (n := 0) (by decide) (by decide) ?_
      exact W.iret (v := nu x.toNatClampNeg) hx hb hr (fun t ht hW => ⟨⟨nu x.toNatClampNeg, (), rfl, by (simp only [numv, c1, c9, if_true, if_false, not_true_eq_false, not_false_eq_true, ite_not] <;> try simp), cB.of (hP.sub [0, 1] rfl) (hD.sub [0, 1] (by decide) rfl) (hK.sub [0] rfl) ht hW⟩, hS.F ht⟩) hS.2.2 d_Wo_numberOf_22
set_option maxHeartbeats 4000000 in
set_option maxRecDepth 100000 in
theorem g_Wo_moveLines (l : Launch) (dC : Nat → ClassId) (dI : Nat → Nat → Nat) (h0 w0 w1 w2 w3 w4 w5 : Nat) (wn : Nat) (nx : Int32) (wc : Nat) (cN cL cX : ClassId) (nu le te : Nat → Int32) (a1 b1 : Nat) (ha1 : a1 ≤ wn) (hwn : wn ≤ 10) (hb1 : b1 + (wn - a1) ≤ 10) (sz : Nat) : Met l y_Wo_moveLines (Cond.code y_Wo_moveLines b_Wo_moveLines 4 none :: gw) ({ frames := 1, cells := 0, slots := 0, locals := 100 }) (cP (dC, dI) [.ref h0, .int (nI a1), .int (nI b1)] sz [(h0, .inr (3, [.ref w0, .ref w1, .ref w2, .ref w3, .ref w4, .ref w5, .int (nI wn), .int nx, .int (nI wc)])), (w0, .inl (cN, 10, .inl nu)), (w1, .inl (cL, 10, .inl le)), (w2, .inl (cX, 120, .inl te))] [(cN, .int), (cL, .int), (cX, .int)] xT) (va_Qv (fun (u : Unit) => True) (fun (u : Unit) t => cB (dC, dI) (va_A [(h0, .inr (3, [.ref w0, .ref w1, .ref w2, .ref w3, .ref w4, .ref w5, .int (nI wn), .int nx, .int (nI wc)])), (w0, .inl (cN, 10, .inl nu)), (w1, .inl (cL, 10, .inl le)), (w2, .inl (cX, 120, .inl te))] sz) [(h0, .inr (3, [.ref w0, .ref w1, .ref w2, .ref w3, .ref w4, .ref w5, .int (nI wn), .int nx, .int (nI wc)])), (w0, .inl (cN, 10, .inl (va_cpy nu nu a1 b1 (wn - a1)))), (w1, .inl (cL, 10, .inl (va_cpy le le a1 b1 (wn - a1)))), (w2, .inl (cX, 120, .inl (va_cpy te te (a1 * 12) (b1 * 12) ((wn - a1) * 12))))] [(cN, .int), (cL, .int), (cX, .int)] t) (va_A [(h0, .inr (3, [.ref w0, .ref w1, .ref w2, .ref w3, .ref w4, .ref w5, .int (nI wn), .int nx, .int (nI wc)])), (w0, .inl (cN, 10, .inl nu)), (w1, .inl (cL, 10, .inl le)), (w2, .inl (cX, 120, .inl te))] sz)) 0 0 (va_A [(h0, .inr (3, [.ref w0, .ref w1, .ref w2, .ref w3, .ref w4, .ref w5, .int (nI wn), .int nx, .int (nI wc)])), (w0, .inl (cN, 10, .inl nu)), (w1, .inl (cL, 10, .inl le)), (w2, .inl (cX, 120, .inl te))] sz) := by
  refine Met.ofW (cc := b_Wo_moveLines) (maxL := 4) (ret := none) (by decide) rfl ?_
  intro p e s m args below meth c s₁ B hml hv
  obtain ⟨rfl, hsz, hP, hK, hD0, hkw, hX⟩ := hv
  have hx := B.exec
  have hb := B.bytes
  have hr := B.returns
  have hts := fun w hw => atoms_spec (ws := Cond.code y_Wo_moveLines b_Wo_moveLines 4 none :: gw) B.pre w (List.mem_cons_of_mem _ hw)
  have hown : s.vm.findClass "LineDisk$Workspace" = some m.cls := findClass_of_methodNamed B.named
  have hlocks := B.notSynchronized
  have hin := (name_of_methodNamed B.named B.method).1
  subst hsz
  have hD := hD0.self (sz := s.heap.size)
  generalize hAe : va_A [(h0, .inr (3, [.ref w0, .ref w1, .ref w2, .ref w3, .ref w4, .ref w5, .int (nI wn), .int nx, .int (nI wc)])), (w0, .inl (cN, 10, .inl nu)), (w1, .inl (cL, 10, .inl le)), (w2, .inl (cX, 120, .inl te))] s.heap.size = A at hD ⊢
  have hA : ∀ q : Nat, s.heap.size ≤ q → A q := fun q h => by rw [← hAe]; exact Or.inr h
  have hS : va_S A s.heap s.heap [] := va_S.rf
  have hl := lv_entry ([.ref h0, .int (nI a1), .int (nI b1)]) (n := 4) (Nat.le_of_ble_eq_true rfl)
  rw [lg_entry_eq]
  generalize (lg_sl ([.ref h0, .int (nI a1), .int (nI b1)]) ++ List.replicate (4 - (lg_sl ([.ref h0, .int (nI a1), .int (nI b1)])).length) Slot.unset).toArray = ls at hl ⊢
  have hl : lv_has ls 4 [(0, .ref h0), (1, .int (nI a1)), (2, .int (nI b1))] := hl
  have F : CallFix p m c b_Wo_moveLines 4 s ([.ref h0, .int (nI a1), .int (nI b1)]).toArray gw "LineDisk$Workspace" := ⟨hx, hb, hml, hown, hts⟩
  refine lv_aload_n hx hb d_Wo_moveLines_0 rfl (lv_at hl 0 rfl) ?_
  refine va_get (D := (dC, dI)) (ci := 3) (v := .int (nI wn)) (C := R_Wo) (T := F_Wo) (N := 9) hx hb hts in_Wo hown hK hP 0 rfl rfl 6 (by decide) (hts _ w_78) (fun _ h9 => h9) rfl d_Wo_moveLines_1 ?_
  refine lv_iload_n hx hb d_Wo_moveLines_4 rfl (lv_at hl 1 rfl) ?_
  refine lv_isub hx hb d_Wo_moveLines_5 ?_
  refine tv (x2 := nI (wn - a1)) (by exact pk_sub ha1) ?_
  refine lv_istore_n (i := 3) hx hb d_Wo_moveLines_6 rfl hl (by decide) rfl (fun ls hl => ?_)
  have hl : lv_has ls 4 [(3, .int (nI (wn - a1))), (0, .ref h0), (1, .int (nI a1)), (2, .int (nI b1))] := hl
  refine lv_aload_n hx hb d_Wo_moveLines_7 rfl (lv_at hl 1 rfl) ?_
  refine va_get (D := (dC, dI)) (ci := 3) (v := .ref w0) (C := R_Wo) (T := F_Wo) (N := 9) hx hb hts in_Wo hown hK hP 0 rfl rfl 0 (by decide) (hts _ w_68) (fun _ h9 => h9) rfl d_Wo_moveLines_8 ?_
  refine lv_iload_n hx hb d_Wo_moveLines_11 rfl (lv_at hl 2 rfl) ?_
  refine lv_aload_n hx hb d_Wo_moveLines_12 rfl (lv_at hl 1 rfl) ?_
  refine va_get (D := (dC, dI)) (ci := 3) (v := .ref w0) (C := R_Wo) (T := F_Wo) (N := 9) hx hb hts in_Wo hown hK hP 0 rfl rfl 0 (by decide) (hts _ w_68) (fun _ h9 => h9) rfl d_Wo_moveLines_13 ?_
  refine lv_iload_n hx hb d_Wo_moveLines_16 rfl (lv_at hl 3 rfl) ?_
  refine lv_iload_n hx hb d_Wo_moveLines_17 rfl (lv_at hl 0 rfl) ?_
  refine va_copyi (rest := []) hx hb (by rw [hml]; exact hl.1.symm) hown (hts _ w_251) (hts _ w_183) (hts _ w_182) (hts _ w_7) hK hP hD hS 1 1 0 0 rfl rfl rfl rfl rfl (nI_pos (by omega)) (nI_pos (by omega)) (nI_pos (by omega)) (by rw [nI_clamp (by omega), nI_clamp (by omega)]; omega) (by rw [nI_clamp (by omega), nI_clamp (by omega)]; omega) (fun _ _ => rfl) (by decide) (by decide) d_Wo_moveLines_18 (fun H locs hP hD hS => ?_)
  rw [nI_clamp (show a1 < 2 ^ 31 by omega), nI_clamp (show b1 < 2 ^ 31 by omega), nI_clamp (show wn - a1 < 2 ^ 31 by omega)] at hP hD
  have hP : va_P (dC, dI) cls [(h0, .inr (3, [.ref w0, .ref w1, .ref w2, .ref w3, .ref w4, .ref w5, .int (nI wn), .int nx, .int (nI wc)])), (w0, .inl (cN, 10, .inl (va_cpy nu nu a1 b1 (wn - a1)))), (w1, .inl (cL, 10, .inl le)), (w2, .inl (cX, 120, .inl te))] H := hP
  have hD : va_D A [(h0, .inr (3, [.ref w0, .ref w1, .ref w2, .ref w3, .ref w4, .ref w5, .int (nI wn), .int nx, .int (nI wc)])), (w0, .inl (cN, 10, .inl (va_cpy nu nu a1 b1 (wn - a1)))), (w1, .inl (cL, 10, .inl le)), (w2, .inl (cX, 120, .inl te))] := hD
  refine lv_aload_n hx hb d_Wo_moveLines_21 rfl (lv_at hl 1 rfl) ?_
  refine va_get (D := (dC, dI)) (ci := 3) (v := .ref w1) (C := R_Wo) (T := F_Wo) (N := 9) hx hb hts in_Wo hown hK hP 0 rfl rfl 1 (by decide) (hts _ w_69) (fun _ h9 => h9) rfl d_Wo_moveLines_22 ?_
  refine lv_iload_n hx hb d_Wo_moveLines_25 rfl (lv_at hl 2 rfl) ?_
  refine lv_aload_n hx hb d_Wo_moveLines_26 rfl (lv_at hl 1 rfl) ?_
  refine va_get (D := (dC, dI)) (ci := 3) (v := .ref w1) (C := R_Wo) (T := F_Wo) (N := 9) hx hb hts in_Wo hown hK hP 0 rfl rfl 1 (by decide) (hts _ w_69) (fun _ h9 => h9) rfl d_Wo_moveLines_27 ?_
  refine lv_iload_n hx hb d_Wo_moveLines_30 rfl (lv_at hl 3 rfl) ?_
  refine lv_iload_n hx hb d_Wo_moveLines_31 rfl (lv_at hl 0 rfl) ?_
  refine va_copyi (rest := []) hx hb (by rw [hml]; exact hl.1.symm) hown (hts _ w_251) (hts _ w_183) (hts _ w_182) (hts _ w_7) hK hP hD hS 2 2 1 1 rfl rfl rfl rfl rfl (nI_pos (by omega)) (nI_pos (by omega)) (nI_pos (by omega)) (by rw [nI_clamp (by omega), nI_clamp (by omega)]; omega) (by rw [nI_clamp (by omega), nI_clamp (by omega)]; omega) (fun _ _ => rfl) (by decide) (by decide) d_Wo_moveLines_32 (fun H locs hP hD hS => ?_)
  rw [nI_clamp (show a1 < 2 ^ 31 by omega), nI_clamp (show b1 < 2 ^ 31 by omega), nI_clamp (show wn - a1 < 2 ^ 31 by omega)] at hP hD
  have hP : va_P (dC, dI) cls [(h0, .inr (3, [.ref w0, .ref w1, .ref w2, .ref w3, .ref w4, .ref w5, .int (nI wn), .int nx, .int (nI wc)])), (w0, .inl (cN, 10, .inl (va_cpy nu nu a1 b1 (wn - a1)))), (w1, .inl (cL, 10, .inl (va_cpy le le a1 b1 (wn - a1)))), (w2, .inl (cX, 120, .inl te))] H := hP
  have hD : va_D A [(h0, .inr (3, [.ref w0, .ref w1, .ref w2, .ref w3, .ref w4, .ref w5, .int (nI wn), .int nx, .int (nI wc)])), (w0, .inl (cN, 10, .inl (va_cpy nu nu a1 b1 (wn - a1)))), (w1, .inl (cL, 10, .inl (va_cpy le le a1 b1 (wn - a1)))), (w2, .inl (cX, 120, .inl te))] := hD
  refine lv_aload_n hx hb d_Wo_moveLines_35 rfl (lv_at hl 1 rfl) ?_
  refine va_get (D := (dC, dI)) (ci := 3) (v := .ref w2) (C := R_Wo) (T := F_Wo) (N := 9) hx hb hts in_Wo hown hK hP 0 rfl rfl 2 (by decide) (hts _ w_71) (fun _ h9 => h9) rfl d_Wo_moveLines_36 ?_
  refine lv_iload_n hx hb d_Wo_moveLines_39 rfl (lv_at hl 2 rfl) ?_
  refine lv_bipush (v := 12) hx hb d_Wo_moveLines_40 (by decide) ?_
  refine lv_imul hx hb d_Wo_moveLines_42 ?_
  refine tv (x2 := nI (a1 * 12)) (by exact pk_mul a1 12) ?_
  refine lv_aload_n hx hb d_Wo_moveLines_43 rfl (lv_at hl 1 rfl) ?_
  refine va_get (D := (dC, dI)) (ci := 3) (v := .ref w2) (C := R_Wo) (T := F_Wo) (N := 9) hx hb hts in_Wo hown hK hP 0 rfl rfl 2 (by decide) (hts _ w_71) (fun _ h9 => h9) rfl d_Wo_moveLines_44 ?_
  refine lv_iload_n hx hb d_Wo_moveLines_47 rfl (lv_at hl 3 rfl) ?_
  refine lv_bipush (v := 12) hx hb d_Wo_moveLines_48 (by decide) ?_
  refine lv_imul hx hb d_Wo_moveLines_50 ?_
  refine tv (x2 := nI (b1 * 12)) (by exact pk_mul b1 12) ?_
  refine lv_iload_n hx hb d_Wo_moveLines_51 rfl (lv_at hl 0 rfl) ?_
  refine lv_bipush (v := 12) hx hb d_Wo_moveLines_52 (by decide) ?_
  refine lv_imul hx hb d_Wo_moveLines_54 ?_
  refine tv (x2 := nI ((wn - a1) * 12)) (by exact pk_mul (wn - a1) 12) ?_
  refine va_copyi (rest := []) hx hb (by rw [hml]; exact hl.1.symm) hown (hts _ w_251) (hts _ w_183) (hts _ w_182) (hts _ w_7) hK hP hD hS 3 3 2 2 rfl rfl rfl rfl rfl (nI_pos (by omega)) (nI_pos (by omega)) (nI_pos (by omega)) (by rw [nI_clamp (by omega), nI_clamp (by omega)]; omega) (by rw [nI_clamp (by omega), nI_clamp (by omega)]; omega) (fun _ _ => rfl) (by decide) (by decide) d_Wo_moveLines_55 (fun H locs hP hD hS => ?_)
  rw [nI_clamp (show a1 * 12 < 2 ^ 31 by omega), nI_clamp (show b1 * 12 < 2 ^ 31 by omega), nI_clamp (show (wn - a1) * 12 < 2 ^ 31 by omega)] at hP hD
  have hP : va_P (dC, dI) cls [(h0, .inr (3, [.ref w0, .ref w1, .ref w2, .ref w3, .ref w4, .ref w5, .int (nI wn), .int nx, .int (nI wc)])), (w0, .inl (cN, 10, .inl (va_cpy nu nu a1 b1 (wn - a1)))), (w1, .inl (cL, 10, .inl (va_cpy le le a1 b1 (wn - a1)))), (w2, .inl (cX, 120, .inl (va_cpy te te (a1 * 12) (b1 * 12) ((wn - a1) * 12))))] H := hP
  have hD : va_D A [(h0, .inr (3, [.ref w0, .ref w1, .ref w2, .ref w3, .ref w4, .ref w5, .int (nI wn), .int nx, .int (nI wc)])), (w0, .inl (cN, 10, .inl (va_cpy nu nu a1 b1 (wn - a1)))), (w1, .inl (cL, 10, .inl (va_cpy le le a1 b1 (wn - a1)))), (w2, .inl (cX, 120, .inl (va_cpy te te (a1 * 12) (b1 * 12) ((wn - a1) * 12))))] := hD
  refine W.widen (k := 0) (n := 0) (by decide) (by decide) ?_
  exact W.vret hx hb hr (fun t ht hW => ⟨⟨(), rfl, trivial, cB.of (hP.sub [0, 1, 2, 3] rfl) (hD.sub [0, 1, 2, 3] (by decide) rfl) (hK.sub [0, 1, 2] rfl) ht hW⟩, hS.F ht⟩) hS.2.2 d_Wo_moveLines_58
