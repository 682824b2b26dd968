def rmv (nu le te : Nat → Int32) (n : Nat) (x : Int32) (p : Nat) : Nat × (Nat → Int32) × (Nat → Int32) × (Nat → Int32) :=
  if p < n ∧ nu p = x then (n - 1, va_cpy nu nu (p + 1) p (n - (p + 1)), va_cpy le le (p + 1) p (n - (p + 1)), va_cpy te te ((p + 1) * 12) (p * 12) ((n - (p + 1)) * 12)) else (n, nu, le, te)
theorem numv_at {nu : Nat → Int32} {n p : Nat} {x : Int32} (hn : n ≤ 10) (hp : p ≤ n) (hx0 : ¬ x = 0) (h : numv nu n (nI p) = x) : p < n ∧ nu p = x := by
  unfold numv at h
  rw [if_neg (nI_pos (by omega))] at h
  by_cases g : nI n ≤ nI p
  · rw [if_pos g] at h; exact absurd h.symm hx0
  · rw [if_neg g, nI_clamp (by omega)] at h
    rw [nI_leI (by omega) (by omega)] at g
    exact ⟨by omega, h⟩
theorem numv_lt {nu : Nat → Int32} {n p : Nat} (hn : n ≤ 10) (hp : p < n) : numv nu n (nI p) = nu p := by
  unfold numv
  rw [if_neg (nI_pos (by omega)), if_neg (by rw [nI_leI (by omega) (by omega)]; omega), nI_clamp (by omega)]
set_option maxHeartbeats 4000000 in
set_option maxRecDepth 100000 in
theorem g_Wo_remove (l : Launch) (dC : Nat → ClassId) (dI : Nat → Nat → Nat) (h0 w0 w1 w2 w3 w4 w5 : Nat) (wn : Nat) (nx : Int32) (wc : Nat) (cN cL cX : ClassId) (nu le te : Nat → Int32) (x : Int32) (hwn : wn ≤ 10) (hx0 : ¬ x = 0) (sz : Nat) : Met l y_Wo_remove (Cond.code y_Wo_remove b_Wo_remove 3 none :: gw) ({ frames := 2, cells := 0, slots := 0, locals := 123 }) (cP (dC, dI) [.ref h0, .int x] sz [(h0, .inr (3, [.ref w0, .ref w1, .ref w2, .ref w3, .ref w4, .ref w5, .int (nI wn), .int nx, .int (nI wc)])), (w0, .inl (cN, 10, .inl nu)), (w1, .inl (cL, 10, .inl le)), (w2, .inl (cX, 120, .inl te))] [(cN, .int), (cL, .int), (cX, .int)] xT) (va_Qv (fun (u : Nat × (Nat × (Nat → Int32) × (Nat → Int32) × (Nat → Int32))) => plc nu wn x u.1 ∧ u.2 = rmv nu le te wn x u.1) (fun (u : Nat × (Nat × (Nat → Int32) × (Nat → Int32) × (Nat → Int32))) t => cB (dC, dI) (va_A [(h0, .inr (3, [.ref w0, .ref w1, .ref w2, .ref w3, .ref w4, .ref w5, .int (nI wn), .int nx, .int (nI wc)])), (w0, .inl (cN, 10, .inl nu)), (w1, .inl (cL, 10, .inl le)), (w2, .inl (cX, 120, .inl te))] sz) [(h0, .inr (3, [.ref w0, .ref w1, .ref w2, .ref w3, .ref w4, .ref w5, .int (nI u.2.1), .int nx, .int (nI wc)])), (w0, .inl (cN, 10, .inl u.2.2.1)), (w1, .inl (cL, 10, .inl u.2.2.2.1)), (w2, .inl (cX, 120, .inl u.2.2.2.2))] [(cN, .int), (cL, .int), (cX, .int)] t) (va_A [(h0, .inr (3, [.ref w0, .ref w1, .ref w2, .ref w3, .ref w4, .ref w5, .int (nI wn), .int nx, .int (nI wc)])), (w0, .inl (cN, 10, .inl nu)), (w1, .inl (cL, 10, .inl le)), (w2, .inl (cX, 120, .inl te))] sz)) 0 0 (va_A [(h0, .inr (3, [.ref w0, .ref w1, .ref w2, .ref w3, .ref w4, .ref w5, .int (nI wn), .int nx, .int (nI wc)])), (w0, .inl (cN, 10, .inl nu)), (w1, .inl (cL, 10, .inl le)), (w2, .inl (cX, 120, .inl te))] sz) := by
  refine Met.ofW (cc := b_Wo_remove) (maxL := 3) (ret := none) (by decide) rfl ?_
  intro p e s m args below meth c s₁ B hml hv
  obtain ⟨rfl, hsz, hP, hK, hD0, hkw, hX⟩ := hv
  have hx := B.exec
  have hb := B.bytes
  have hr := B.returns
  have hts := fun w hw => atoms_spec (ws := Cond.code y_Wo_remove b_Wo_remove 3 none :: gw) B.pre w (List.mem_cons_of_mem _ hw)
  have hown : s.vm.findClass "LineDisk$Workspace" = some m.cls := findClass_of_methodNamed B.named
  have hlocks := B.notSynchronized
  have hin := (name_of_methodNamed B.named B.method).1
  subst hsz
  have hD := hD0.self (sz := s.heap.size)
  generalize hAe : va_A [(h0, .inr (3, [.ref w0, .ref w1, .ref w2, .ref w3, .ref w4, .ref w5, .int (nI wn), .int nx, .int (nI wc)])), (w0, .inl (cN, 10, .inl nu)), (w1, .inl (cL, 10, .inl le)), (w2, .inl (cX, 120, .inl te))] s.heap.size = A at hD ⊢
  have hA : ∀ q : Nat, s.heap.size ≤ q → A q := fun q h => by rw [← hAe]; exact Or.inr h
  have hS : va_S A s.heap s.heap [] := va_S.rf
  have hl := lv_entry ([.ref h0, .int x]) (n := 3) (Nat.le_of_ble_eq_true rfl)
  rw [lg_entry_eq]
  generalize (lg_sl ([.ref h0, .int x]) ++ List.replicate (3 - (lg_sl ([.ref h0, .int x])).length) Slot.unset).toArray = ls at hl ⊢
  have hl : lv_has ls 3 [(0, .ref h0), (1, .int x)] := hl
  have F : CallFix p m c b_Wo_remove 3 s ([.ref h0, .int x]).toArray gw "LineDisk$Workspace" := ⟨hx, hb, hml, hown, hts⟩
  refine lv_aload_n hx hb d_Wo_remove_0 rfl (lv_at hl 0 rfl) ?_
  refine lv_iload_n hx hb d_Wo_remove_1 rfl (lv_at hl 1 rfl) ?_
  refine go_i (wr := [(w1, .inl (cL, 10, .inl le)), (w2, .inl (cX, 120, .inl te))]) (tr := [(cL, .int), (cX, .int)]) (rV (C := "LineDisk$Workspace") (ci := 3) (q0 := 0) (b := h0) (n := 1) (As := [.int x]) (rest := []) F hkw (g_Wo_placeOf l dC dI h0 w0 w1 w2 w3 w4 w5 wn nx wc cN nu x hwn s.heap.size) xT_bl (fun _ _ _ => trivial) w_239 w_241 ws_2 w_4 w_242 rfl rfl (by decide +kernel) ⟨Nat.le_of_ble_eq_true rfl, Nat.le_of_ble_eq_true rfl⟩ (hP.sub (ws' := [(h0, .inr (3, [.ref w0, .ref w1, .ref w2, .ref w3, .ref w4, .ref w5, .int (nI wn), .int nx, .int (nI wc)])), (w0, .inl (cN, 10, .inl nu))]) [0, 1] rfl) (hD.sub (ws' := [(h0, .inr (3, [.ref w0, .ref w1, .ref w2, .ref w3, .ref w4, .ref w5, .int (nI wn), .int nx, .int (nI wc)])), (w0, .inl (cN, 10, .inl nu))]) [0, 1] (by decide) rfl) (hK.sub (tys' := [(cN, .int)]) [0] rfl) rfl rfl rfl rfl hl.1 rfl (Nat.le_of_ble_eq_true rfl) d_Wo_remove_2 ⟨by decide, by decide⟩) hP hD hK hS hA [0, 1] [2, 3] [1, 2] rfl rfl (by decide) (by decide) rfl (fun r p9 H locs h9 hP hD hK hS => ?_)
  have hP : va_P (dC, dI) cls [(w1, .inl (cL, 10, .inl le)), (w2, .inl (cX, 120, .inl te)), (h0, .inr (3, [.ref w0, .ref w1, .ref w2, .ref w3, .ref w4, .ref w5, .int (nI wn), .int nx, .int (nI wc)])), (w0, .inl (cN, 10, .inl nu))] H := hP
  have hD : va_D A [(w1, .inl (cL, 10, .inl le)), (w2, .inl (cX, 120, .inl te)), (h0, .inr (3, [.ref w0, .ref w1, .ref w2, .ref w3, .ref w4, .ref w5, .int (nI wn), .int nx, .int (nI wc)])), (w0, .inl (cN, 10, .inl nu))] := hD
  have hK : va_K (dC, dI) cls [(cL, .int), (cX, .int), (cN, .int)] s := hK
  refine W.widen (k := 0) (n := 0) (by omega) (by omega) ?_
  obtain ⟨rfl, h9⟩ := h9
  have hp9 : p9 ≤ wn := h9.1
  refine lv_istore_n (i := 2) hx hb d_Wo_remove_5 rfl hl (by decide) rfl (fun ls hl => ?_)
  have hl : lv_has ls 3 [(2, .int (nI p9)), (0, .ref h0), (1, .int x)] := hl
  refine lv_aload_n hx hb d_Wo_remove_6 rfl (lv_at hl 1 rfl) ?_
  refine lv_iload_n hx hb d_Wo_remove_7 rfl (lv_at hl 0 rfl) ?_
  refine go_i (wr := [(w1, .inl (cL, 10, .inl le)), (w2, .inl (cX, 120, .inl te))]) (tr := [(cL, .int), (cX, .int)]) (rV (C := "LineDisk$Workspace") (ci := 3) (q0 := 0) (b := h0) (n := 1) (As := [.int (nI p9)]) (rest := []) F hkw (g_Wo_numberOf l dC dI h0 w0 w1 w2 w3 w4 w5 wn nx wc cN nu (nI p9) hwn H.size) xT_bl (fun _ _ _ => trivial) w_243 w_244 w_245 w_4 w_246 rfl rfl (by decide +kernel) ⟨Nat.le_of_ble_eq_true rfl, Nat.le_of_ble_eq_true rfl⟩ (hP.sub (ws' := [(h0, .inr (3, [.ref w0, .ref w1, .ref w2, .ref w3, .ref w4, .ref w5, .int (nI wn), .int nx, .int (nI wc)])), (w0, .inl (cN, 10, .inl nu))]) [2, 3] rfl) (hD.sub (ws' := [(h0, .inr (3, [.ref w0, .ref w1, .ref w2, .ref w3, .ref w4, .ref w5, .int (nI wn), .int nx, .int (nI wc)])), (w0, .inl (cN, 10, .inl nu))]) [2, 3] (by decide) rfl) (hK.sub (tys' := [(cN, .int)]) [2] rfl) rfl rfl rfl rfl hl.1 rfl (Nat.le_of_ble_eq_true rfl) d_Wo_remove_8 ⟨by decide, by decide⟩) hP hD hK hS hA [2, 3] [0, 1] [0, 1] rfl rfl (by decide) (by decide) rfl (fun r u H locs hw hP hD hK hS => ?_)
  have hP : va_P (dC, dI) cls [(w1, .inl (cL, 10, .inl le)), (w2, .inl (cX, 120, .inl te)), (h0, .inr (3, [.ref w0, .ref w1, .ref w2, .ref w3, .ref w4, .ref w5, .int (nI wn), .int nx, .int (nI wc)])), (w0, .inl (cN, 10, .inl nu))] H := hP
  have hD : va_D A [(w1, .inl (cL, 10, .inl le)), (w2, .inl (cX, 120, .inl te)), (h0, .inr (3, [.ref w0, .ref w1, .ref w2, .ref w3, .ref w4, .ref w5, .int (nI wn), .int nx, .int (nI wc)])), (w0, .inl (cN, 10, .inl nu))] := hD
  have hK : va_K (dC, dI) cls [(cL, .int), (cX, .int), (cN, .int)] s := hK
  refine W.widen (k := 0) (n := 0) (by omega) (by omega) ?_
  subst hw
  refine lv_iload_n hx hb d_Wo_remove_11 rfl (lv_at hl 2 rfl) ?_
  refine lv_icmp_ne (tgt := 33) hx hb d_Wo_remove_12 (by decide) (fun c12 => ?_) (fun c12 => ?_)
  · skip
    refine W.widen (k := 0) (n := 0) (by decide) (by decide) ?_
    exact W.vret hx hb hr (fun t ht hW => ⟨⟨(p9, wn, nu, le, te), rfl, ⟨h9, by
      unfold rmv
      rw [if_neg (fun h => c12 ((numv_lt hwn h.1).trans h.2))]⟩, cB.of (hP.sub [2, 3, 0, 1] rfl) (hD.sub [2, 3, 0, 1] (by decide) rfl) (hK.sub [2, 0, 1] rfl) ht hW⟩, hS.F ht⟩) hS.2.2 d_Wo_remove_33
  · skip
    obtain ⟨hlt, heq⟩ := numv_at hwn hp9 hx0 c12
    refine lv_aload_n hx hb d_Wo_remove_15 rfl (lv_at hl 1 rfl) ?_
    refine lv_iload_n hx hb d_Wo_remove_16 rfl (lv_at hl 0 rfl) ?_
    refine lv_iconst (v := 1) hx hb d_Wo_remove_17 (by decide) ?_
    refine lv_iadd hx hb d_Wo_remove_18 ?_
    refine tv (x2 := nI (p9 + 1)) (by exact (nI_succ p9).symm) ?_
    refine lv_iload_n hx hb d_Wo_remove_19 rfl (lv_at hl 0 rfl) ?_
    refine go_v (wr := []) (tr := []) (rV (C := "LineDisk$Workspace") (ci := 3) (q0 := 0) (b := h0) (n := 2) (As := [.int (nI (p9 + 1)), .int (nI p9)]) (rest := []) F hkw (g_Wo_moveLines l dC dI h0 w0 w1 w2 w3 w4 w5 wn nx wc cN cL cX nu le te (p9 + 1) p9 (by omega) hwn (by omega) H.size) xT_bl (fun _ _ _ => trivial) w_247 w_249 ws_3 w_4 w_250 rfl rfl (by decide +kernel) ⟨Nat.le_of_ble_eq_true rfl, Nat.le_of_ble_eq_true rfl⟩ (hP.sub (ws' := [(h0, .inr (3, [.ref w0, .ref w1, .ref w2, .ref w3, .ref w4, .ref w5, .int (nI wn), .int nx, .int (nI wc)])), (w0, .inl (cN, 10, .inl nu)), (w1, .inl (cL, 10, .inl le)), (w2, .inl (cX, 120, .inl te))]) [2, 3, 0, 1] rfl) (hD.sub (ws' := [(h0, .inr (3, [.ref w0, .ref w1, .ref w2, .ref w3, .ref w4, .ref w5, .int (nI wn), .int nx, .int (nI wc)])), (w0, .inl (cN, 10, .inl nu)), (w1, .inl (cL, 10, .inl le)), (w2, .inl (cX, 120, .inl te))]) [2, 3, 0, 1] (by decide) rfl) (hK.sub (tys' := [(cN, .int), (cL, .int), (cX, .int)]) [2, 0, 1] rfl) rfl rfl rfl rfl hl.1 rfl (Nat.le_of_ble_eq_true rfl) d_Wo_remove_20 ⟨by decide, by decide⟩) hP hD hK hS hA [2, 3, 0, 1] [] [] rfl rfl (by decide) (by decide) rfl (fun u H locs _ hP hD hK hS => ?_)
    have hP : va_P (dC, dI) cls [(h0, .inr (3, [.ref w0, .ref w1, .ref w2, .ref w3, .ref w4, .ref w5, .int (nI wn), .int nx, .int (nI wc)])), (w0, .inl (cN, 10, .inl (va_cpy nu nu (p9 + 1) p9 (wn - (p9 + 1))))), (w1, .inl (cL, 10, .inl (va_cpy le le (p9 + 1) p9 (wn - (p9 + 1))))), (w2, .inl (cX, 120, .inl (va_cpy te te ((p9 + 1) * 12) (p9 * 12) ((wn - (p9 + 1)) * 12))))] H := hP
    have hD : va_D A [(h0, .inr (3, [.ref w0, .ref w1, .ref w2, .ref w3, .ref w4, .ref w5, .int (nI wn), .int nx, .int (nI wc)])), (w0, .inl (cN, 10, .inl (va_cpy nu nu (p9 + 1) p9 (wn - (p9 + 1))))), (w1, .inl (cL, 10, .inl (va_cpy le le (p9 + 1) p9 (wn - (p9 + 1))))), (w2, .inl (cX, 120, .inl (va_cpy te te ((p9 + 1) * 12) (p9 * 12) ((wn - (p9 + 1)) * 12))))] := hD
    have hK : va_K (dC, dI) cls [(cN, .int), (cL, .int), (cX, .int)] s := hK
    refine W.widen (k := 0) (n := 0) (by omega) (by omega) ?_
    refine lv_aload_n hx hb d_Wo_remove_23 rfl (lv_at hl 1 rfl) ?_
    refine lv_dup hx hb d_Wo_remove_24 rfl ?_
    refine va_get (D := (dC, dI)) (ci := 3) (v := .int (nI wn)) (C := R_Wo) (T := F_Wo) (N := 9) hx hb hts in_Wo hown hK hP 0 rfl rfl 6 (by decide) (hts _ w_78) (fun _ h9 => h9) rfl d_Wo_remove_25 ?_
    refine lv_iconst (v := 1) hx hb d_Wo_remove_28 (by decide) ?_
    refine lv_isub hx hb d_Wo_remove_29 ?_
    refine tv (x2 := nI (wn - 1)) (by exact pk_sub (b := 1) (by omega)) ?_
    refine va_put (D := (dC, dI)) (ci := 3) (v := .int (nI (wn - 1))) (ty := .int) (C := R_Wo) (T := F_Wo) (N := 9) hx hb hts in_Wo t_Wo t_Wo_ok n_Wo hown hK hP hD hS 0 rfl rfl 6 (by decide) (hts _ w_78) (fun _ h9 => h9) rfl (by decide +kernel) (rfl) (rfl) (Nat.le_of_ble_eq_true rfl) d_Wo_remove_30 (fun H locs hP hD hS => ?_)
    have hP : va_P (dC, dI) cls [(h0, .inr (3, [.ref w0, .ref w1, .ref w2, .ref w3, .ref w4, .ref w5, .int (nI (wn - 1)), .int nx, .int (nI wc)])), (w0, .inl (cN, 10, .inl (va_cpy nu nu (p9 + 1) p9 (wn - (p9 + 1))))), (w1, .inl (cL, 10, .inl (va_cpy le le (p9 + 1) p9 (wn - (p9 + 1))))), (w2, .inl (cX, 120, .inl (va_cpy te te ((p9 + 1) * 12) (p9 * 12) ((wn - (p9 + 1)) * 12))))] H := hP
    have hD : va_D A [(h0, .inr (3, [.ref w0, .ref w1, .ref w2, .ref w3, .ref w4, .ref w5, .int (nI (wn - 1)), .int nx, .int (nI wc)])), (w0, .inl (cN, 10, .inl (va_cpy nu nu (p9 + 1) p9 (wn - (p9 + 1))))), (w1, .inl (cL, 10, .inl (va_cpy le le (p9 + 1) p9 (wn - (p9 + 1))))), (w2, .inl (cX, 120, .inl (va_cpy te te ((p9 + 1) * 12) (p9 * 12) ((wn - (p9 + 1)) * 12))))] := hD
    refine W.widen (k := 0) (n := 0) (by decide) (by decide) ?_
    exact W.vret hx hb hr (fun t ht hW => ⟨⟨(p9, wn - 1, va_cpy nu nu (p9 + 1) p9 (wn - (p9 + 1)), va_cpy le le (p9 + 1) p9 (wn - (p9 + 1)), va_cpy te te ((p9 + 1) * 12) (p9 * 12) ((wn - (p9 + 1)) * 12)), rfl, ⟨h9, by
      unfold rmv
      rw [if_pos ⟨hlt, heq⟩]⟩, cB.of (hP.sub [0, 1, 2, 3] rfl) (hD.sub [0, 1, 2, 3] (by decide) rfl) (hK.sub [0, 1, 2] rfl) ht hW⟩, hS.F ht⟩) hS.2.2 d_Wo_remove_33
set_option maxHeartbeats 4000000 in
set_option maxRecDepth 100000 in
theorem g_Wo_tag (l : Launch) (dC : Nat → ClassId) (dI : Nat → Nat → Nat) (h0 w0 w1 w2 w3 w4 w5 : Nat) (wn : Nat) (nx : Int32) (wc : Nat) (cN cL cX : ClassId) (nu le te : Nat → Int32) (i : Nat) (hi : i < 10) (sz : Nat) : Met l y_Wo_tag (Cond.code y_Wo_tag b_Wo_tag 2 (some .int) :: gw) ({ frames := 0, cells := 0, slots := 0, locals := 0 }) (cP (dC, dI) [.ref h0, .int (nI i)] sz [(h0, .inr (3, [.ref w0, .ref w1, .ref w2, .ref w3, .ref w4, .ref w5, .int (nI wn), .int nx, .int (nI wc)])), (w0, .inl (cN, 10, .inl nu)), (w1, .inl (cL, 10, .inl le)), (w2, .inl (cX, 120, .inl te))] [(cN, .int), (cL, .int), (cX, .int)] xT) (va_Qi (fun (r : Int32) (u : Unit) => r = 16 * nu i + le i) (fun (u : Unit) t => cB (dC, dI) (va_A [(h0, .inr (3, [.ref w0, .ref w1, .ref w2, .ref w3, .ref w4, .ref w5, .int (nI wn), .int nx, .int (nI wc)])), (w0, .inl (cN, 10, .inl nu)), (w1, .inl (cL, 10, .inl le)), (w2, .inl (cX, 120, .inl te))] sz) [(h0, .inr (3, [.ref w0, .ref w1, .ref w2, .ref w3, .ref w4, .ref w5, .int (nI wn), .int nx, .int (nI wc)])), (w0, .inl (cN, 10, .inl nu)), (w1, .inl (cL, 10, .inl le)), (w2, .inl (cX, 120, .inl te))] [(cN, .int), (cL, .int), (cX, .int)] t) (va_A [(h0, .inr (3, [.ref w0, .ref w1, .ref w2, .ref w3, .ref w4, .ref w5, .int (nI wn), .int nx, .int (nI wc)])), (w0, .inl (cN, 10, .inl nu)), (w1, .inl (cL, 10, .inl le)), (w2, .inl (cX, 120, .inl te))] sz)) 0 0 (va_A [(h0, .inr (3, [.ref w0, .ref w1, .ref w2, .ref w3, .ref w4, .ref w5, .int (nI wn), .int nx, .int (nI wc)])), (w0, .inl (cN, 10, .inl nu)), (w1, .inl (cL, 10, .inl le)), (w2, .inl (cX, 120, .inl te))] sz) := by
  refine Met.ofW (cc := b_Wo_tag) (maxL := 2) (ret := (some .int)) (by decide) rfl ?_
  intro p e s m args below meth c s₁ B hml hv
  obtain ⟨rfl, hsz, hP, hK, hD0, hkw, hX⟩ := hv
  have hx := B.exec
  have hb := B.bytes
  have hr := B.returns
  have hts := fun w hw => atoms_spec (ws := Cond.code y_Wo_tag b_Wo_tag 2 (some .int) :: gw) B.pre w (List.mem_cons_of_mem _ hw)
  have hown : s.vm.findClass "LineDisk$Workspace" = some m.cls := findClass_of_methodNamed B.named
  have hlocks := B.notSynchronized
  have hin := (name_of_methodNamed B.named B.method).1
  subst hsz
  have hD := hD0.self (sz := s.heap.size)
  generalize hAe : va_A [(h0, .inr (3, [.ref w0, .ref w1, .ref w2, .ref w3, .ref w4, .ref w5, .int (nI wn), .int nx, .int (nI wc)])), (w0, .inl (cN, 10, .inl nu)), (w1, .inl (cL, 10, .inl le)), (w2, .inl (cX, 120, .inl te))] s.heap.size = A at hD ⊢
  have hA : ∀ q : Nat, s.heap.size ≤ q → A q := fun q h => by rw [← hAe]; exact Or.inr h
  have hS : va_S A s.heap s.heap [] := va_S.rf
  have hl := lv_entry ([.ref h0, .int (nI i)]) (n := 2) (Nat.le_of_ble_eq_true rfl)
  rw [lg_entry_eq]
  generalize (lg_sl ([.ref h0, .int (nI i)]) ++ List.replicate (2 - (lg_sl ([.ref h0, .int (nI i)])).length) Slot.unset).toArray = ls at hl ⊢
  have hl : lv_has ls 2 [(0, .ref h0), (1, .int (nI i))] := hl
  have F : CallFix p m c b_Wo_tag 2 s ([.ref h0, .int (nI i)]).toArray gw "LineDisk$Workspace" := ⟨hx, hb, hml, hown, hts⟩
  refine lv_bipush (v := 16) hx hb d_Wo_tag_0 (by decide) ?_
  refine lv_aload_n hx hb d_Wo_tag_2 rfl (lv_at hl 0 rfl) ?_
  refine va_get (D := (dC, dI)) (ci := 3) (v := .ref w0) (C := R_Wo) (T := F_Wo) (N := 9) hx hb hts in_Wo hown hK hP 0 rfl rfl 0 (by decide) (hts _ w_68) (fun _ h9 => h9) rfl d_Wo_tag_3 ?_
  refine lv_iload_n hx hb d_Wo_tag_6 rfl (lv_at hl 1 rfl) ?_
  refine va_iald hx hb hK hP 1 0 rfl rfl (vp_in_nI hi (by decide)) d_Wo_tag_7 ?_
  refine tv (x2 := nu i) (by exact by rw [nI_clamp (by omega)]) ?_
  refine lv_imul hx hb d_Wo_tag_8 ?_
  refine lv_aload_n hx hb d_Wo_tag_9 rfl (lv_at hl 0 rfl) ?_
  refine va_get (D := (dC, dI)) (ci := 3) (v := .ref w1) (C := R_Wo) (T := F_Wo) (N := 9) hx hb hts in_Wo hown hK hP 0 rfl rfl 1 (by decide) (hts _ w_69) (fun _ h9 => h9) rfl d_Wo_tag_10 ?_
  refine lv_iload_n hx hb d_Wo_tag_13 rfl (lv_at hl 1 rfl) ?_
  refine va_iald hx hb hK hP 2 1 rfl rfl (vp_in_nI hi (by decide)) d_Wo_tag_14 ?_
  refine tv (x2 := le i) (by exact by rw [nI_clamp (by omega)]) ?_
  refine lv_iadd hx hb d_Wo_tag_15 ?_
  refine W.widen (k := 0) (n := 0) (by decide) (by decide) ?_
  exact W.iret (v := (16 * (nu i)) + (le i)) hx hb hr (fun t ht hW => ⟨⟨(16 * (nu i)) + (le i), (), rfl, rfl, cB.of (hP.sub [0, 1, 2, 3] rfl) (hD.sub [0, 1, 2, 3] (by decide) rfl) (hK.sub [0, 1, 2] rfl) ht hW⟩, hS.F ht⟩) hS.2.2 d_Wo_tag_16
def pkv (le te : Nat → Int32) (i pt : Nat) : Nat → Int32
  | 0 => 0
  | k + 1 => (pkv le te i pt k <<< ((8 : Int32) &&& 31)) ||| (if le i ≤ nI (4 * pt + k) then 0 else te (i * 12 + (4 * pt + k)))
set_option maxHeartbeats 4000000 in
set_option maxRecDepth 100000 in
theorem lp_Wo_packed {p : Program} {l : Launch} {e : Env} {R : Room} {s : State} {m : MethodId} {args : Array Value} {below : List Frame} {meth : Method} {c : Code} {cells slots : Nat} {Q : State → Prop} {A : Nat → Prop} {dC : Nat → ClassId} {dI : Nat → Nat → Nat} (hx : p.tables.exec = Jvm.exec) (hb : c.code = b_Wo_packed) (hml : c.maxLocals = 6) (hts : ∀ w ∈ gw, w.before args s = true) (hown : s.vm.findClass "LineDisk$Workspace" = some m.cls) (hkw : kw s) (hA : ∀ q : Nat, s.heap.size ≤ q → A q) (h0 w0 w1 w2 w3 w4 w5 : Nat) (wn : Nat) (nx : Int32) (wc : Nat) (cN cL cX : ClassId) (nu le te : Nat → Int32) (i pt : Nat) (hi : i < 10) (hpt : pt < 3) (hK0 : va_K (dC, dI) cls [(cN, .int), (cL, .int), (cX, .int)] s) (hRf : 0 ≤ R.frames) (hRl : 0 ≤ R.locals) (hRc : cells ≤ R.cells) (hRs : slots ≤ R.slots)  (k_58 : ∀ (k : Nat), k ≤ 4 → ∀ (ls : Array Slot) (H : Heap) (locs : List Loc) (cl : Int32), lv_has ls 6 [(3, .int cl), (0, .ref h0)] → va_P (dC, dI) cls [(h0, .inr (3, [.ref w0, .ref w1, .ref w2, .ref w3, .ref w4, .ref w5, .int (nI wn), .int nx, .int (nI wc)])), (w0, .inl (cN, 10, .inl nu)), (w1, .inl (cL, 10, .inl le)), (w2, .inl (cX, 120, .inl te))] H → va_D A [(h0, .inr (3, [.ref w0, .ref w1, .ref w2, .ref w3, .ref w4, .ref w5, .int (nI wn), .int nx, .int (nI wc)])), (w0, .inl (cN, 10, .inl nu)), (w1, .inl (cL, 10, .inl le)), (w2, .inl (cX, 120, .inl te))] → va_S A s.heap H locs → (cl = pkv le te i pt 4) → W p l e R s m args below meth c H locs cells slots Q (F0 m 58 ls [])) : ∀ (j k : Nat), k + j = 4 → ∀ (ls : Array Slot) (H : Heap) (locs : List Loc) (cl : Int32), lv_has ls 6 [(4, .int (nI k)), (3, .int cl), (0, .ref h0), (1, .int (nI i)), (2, .int (nI pt))] → va_P (dC, dI) cls [(h0, .inr (3, [.ref w0, .ref w1, .ref w2, .ref w3, .ref w4, .ref w5, .int (nI wn), .int nx, .int (nI wc)])), (w0, .inl (cN, 10, .inl nu)), (w1, .inl (cL, 10, .inl le)), (w2, .inl (cX, 120, .inl te))] H → va_D A [(h0, .inr (3, [.ref w0, .ref w1, .ref w2, .ref w3, .ref w4, .ref w5, .int (nI wn), .int nx, .int (nI wc)])), (w0, .inl (cN, 10, .inl nu)), (w1, .inl (cL, 10, .inl le)), (w2, .inl (cX, 120, .inl te))] → va_S A s.heap H locs → (cl = pkv le te i pt k) → W p l e R s m args below meth c H locs cells slots Q (F0 m 5 ls []) := by
  have F : CallFix p m c b_Wo_packed 6 s args gw "LineDisk$Workspace" := ⟨hx, hb, hml, hown, hts⟩
  intro j
  induction j with
  | zero =>
    intro k hk ls H locs cl hl hP hD hS hf
    have hK := hK0
    have hkN : k = 4 := by omega
    refine lv_iload hx hb d_Wo_packed_5 (lv_at hl 0 rfl) ?_
    refine lv_iconst (v := 4) hx hb d_Wo_packed_7 (by decide) ?_
    refine lv_icmp_ge (tgt := 58) hx hb d_Wo_packed_8 (by decide) (fun _ => ?_) (fun h => absurd (by rw [hkN]; exact nI_le (a := 4) (b := 4) (Nat.le_refl _) (by decide)) h)
    exact k_58 k (by omega) ls _ _ cl (lv_sub hl [1, 2] rfl) (hP.sub [0, 1, 2, 3] rfl) (hD.sub [0, 1, 2, 3] (by decide) rfl) hS (by rw [hkN] at hf; exact hf)
  | succ j ih =>
    intro k hk ls H locs cl hl hP hD hS hf
    have hK := hK0
    have hkN : k < 4 := by omega
    refine lv_iload hx hb d_Wo_packed_5 (lv_at hl 0 rfl) ?_
    refine lv_iconst (v := 4) hx hb d_Wo_packed_7 (by decide) ?_
    refine lv_icmp_ge (tgt := 58) hx hb d_Wo_packed_8 (by decide) (fun h => absurd h (nI_ge (b := 4) hkN (by decide))) (fun _ => ?_)
    refine lv_iconst (v := 4) hx hb d_Wo_packed_11 (by decide) ?_
    refine lv_iload_n hx hb d_Wo_packed_12 rfl (lv_at hl 4 rfl) ?_
    refine lv_imul hx hb d_Wo_packed_13 ?_
    refine tv (x2 := nI (4 * pt)) (by exact pk_mul 4 pt) ?_
    refine lv_iload hx hb d_Wo_packed_14 (lv_at hl 0 rfl) ?_
    refine lv_iadd hx hb d_Wo_packed_16 ?_
    refine tv (x2 := nI (4 * pt + k)) (by exact nI_add _ _) ?_
    refine lv_istore hx hb d_Wo_packed_17 hl (by decide) rfl (fun ls hl => ?_)
    have hl : lv_has ls 6 [(5, .int (nI (4 * pt + k))), (4, .int (nI k)), (3, .int cl), (0, .ref h0), (1, .int (nI i)), (2, .int (nI pt))] := hl
    refine lv_iload_n hx hb d_Wo_packed_19 rfl (lv_at hl 2 rfl) ?_
    refine lv_bipush (v := 8) hx hb d_Wo_packed_20 (by decide) ?_
    refine lv_ishl hx hb d_Wo_packed_22 ?_
    refine lv_iload hx hb d_Wo_packed_23 (lv_at hl 0 rfl) ?_
    refine lv_aload_n hx hb d_Wo_packed_25 rfl (lv_at hl 3 rfl) ?_
    refine va_get (D := (dC, dI)) (ci := 3) (v := .ref w1) (C := R_Wo) (T := F_Wo) (N := 9) hx hb hts in_Wo hown hK hP 0 rfl rfl 1 (by decide) (hts _ w_69) (fun _ h9 => h9) rfl d_Wo_packed_26 ?_
    refine lv_iload_n hx hb d_Wo_packed_29 rfl (lv_at hl 4 rfl) ?_
    refine va_iald hx hb hK hP 2 1 rfl rfl (vp_in_nI hi (by decide)) d_Wo_packed_30 ?_
    refine tv (x2 := le i) (by exact by rw [nI_clamp (by omega)]) ?_
    refine lv_icmp_ge (tgt := 49) hx hb d_Wo_packed_31 (by decide) (fun c31 => ?_) (fun c31 => ?_)
    · skip
      refine lv_iconst (v := 0) hx hb d_Wo_packed_49 (by decide) ?_
      refine lv_ior hx hb d_Wo_packed_50 ?_
      refine lv_topi (fun c9 e9 => ?_)
      refine lv_istore_n (i := 3) hx hb d_Wo_packed_51 rfl hl (by decide) rfl (fun ls hl => ?_)
      have hl : lv_has ls 6 [(3, .int c9), (5, .int (nI (4 * pt + k))), (4, .int (nI k)), (0, .ref h0), (1, .int (nI i)), (2, .int (nI pt))] := hl
      refine lv_iinc (k := 2) (v := nI (k + 1)) hx hb d_Wo_packed_52 hl rfl (by rw [lit1]; exact (nI_succ k).symm) (by decide) rfl (fun ls hl => ?_)
      have hl : lv_has ls 6 [(4, .int (nI (k + 1))), (3, .int c9), (5, .int (nI (4 * pt + k))), (0, .ref h0), (1, .int (nI i)), (2, .int (nI pt))] := hl
      refine lv_goto (tgt := 5) hx hb d_Wo_packed_55 (by decide) ?_
      exact ih (k + 1) (by omega) ls _ _ c9 (lv_sub hl [0, 1, 3, 4, 5] rfl) (hP.sub [0, 1, 2, 3] rfl) (hD.sub [0, 1, 2, 3] (by decide) rfl) hS (by
        rw [e9, hf]
        show _ = (pkv le te i pt k <<< ((8 : Int32) &&& 31)) ||| (if le i ≤ nI (4 * pt + k) then 0 else te (i * 12 + (4 * pt + k)))
        rw [if_pos c31])
    · skip
      refine lv_aload_n hx hb d_Wo_packed_34 rfl (lv_at hl 3 rfl) ?_
      refine va_get (D := (dC, dI)) (ci := 3) (v := .ref w2) (C := R_Wo) (T := F_Wo) (N := 9) hx hb hts in_Wo hown hK hP 0 rfl rfl 2 (by decide) (hts _ w_71) (fun _ h9 => h9) rfl d_Wo_packed_35 ?_
      refine lv_iload_n hx hb d_Wo_packed_38 rfl (lv_at hl 4 rfl) ?_
      refine lv_bipush (v := 12) hx hb d_Wo_packed_39 (by decide) ?_
      refine lv_imul hx hb d_Wo_packed_41 ?_
      refine tv (x2 := nI (i * 12)) (by exact pk_mul i 12) ?_
      refine lv_iload hx hb d_Wo_packed_42 (lv_at hl 0 rfl) ?_
      refine lv_iadd hx hb d_Wo_packed_44 ?_
      refine tv (x2 := nI (i * 12 + (4 * pt + k))) (by exact nI_add _ _) ?_
      refine va_iald hx hb hK hP 3 2 rfl rfl (vp_in_nI (by omega) (by decide)) d_Wo_packed_45 ?_
      refine tv (x2 := te (i * 12 + (4 * pt + k))) (by exact by rw [nI_clamp (by omega)]) ?_
      refine lv_goto (tgt := 50) hx hb d_Wo_packed_46 (by decide) ?_
      refine lv_ior hx hb d_Wo_packed_50 ?_
      refine lv_topi (fun c9 e9 => ?_)
      refine lv_istore_n (i := 3) hx hb d_Wo_packed_51 rfl hl (by decide) rfl (fun ls hl => ?_)
      have hl : lv_has ls 6 [(3, .int c9), (5, .int (nI (4 * pt + k))), (4, .int (nI k)), (0, .ref h0), (1, .int (nI i)), (2, .int (nI pt))] := hl
      refine lv_iinc (k := 2) (v := nI (k + 1)) hx hb d_Wo_packed_52 hl rfl (by rw [lit1]; exact (nI_succ k).symm) (by decide) rfl (fun ls hl => ?_)
      have hl : lv_has ls 6 [(4, .int (nI (k + 1))), (3, .int c9), (5, .int (nI (4 * pt + k))), (0, .ref h0), (1, .int (nI i)), (2, .int (nI pt))] := hl
      refine lv_goto (tgt := 5) hx hb d_Wo_packed_55 (by decide) ?_
      exact ih (k + 1) (by omega) ls _ _ c9 (lv_sub hl [0, 1, 3, 4, 5] rfl) (hP.sub [0, 1, 2, 3] rfl) (hD.sub [0, 1, 2, 3] (by decide) rfl) hS (by
        rw [e9, hf]
        show _ = (pkv le te i pt k <<< ((8 : Int32) &&& 31)) ||| (if le i ≤ nI (4 * pt + k) then 0 else te (i * 12 + (4 * pt + k)))
        rw [if_neg c31])
set_option maxHeartbeats 4000000 in
set_option maxRecDepth 100000 in
theorem g_Wo_packed (l : Launch) (dC : Nat → ClassId) (dI : Nat → Nat → Nat) (h0 w0 w1 w2 w3 w4 w5 : Nat) (wn : Nat) (nx : Int32) (wc : Nat) (cN cL cX : ClassId) (nu le te : Nat → Int32) (i pt : Nat) (hi : i < 10) (hpt : pt < 3) (sz : Nat) : Met l y_Wo_packed (Cond.code y_Wo_packed b_Wo_packed 6 (some .int) :: gw) ({ frames := 0, cells := 0, slots := 0, locals := 0 }) (cP (dC, dI) [.ref h0, .int (nI i), .int (nI pt)] sz [(h0, .inr (3, [.ref w0, .ref w1, .ref w2, .ref w3, .ref w4, .ref w5, .int (nI wn), .int nx, .int (nI wc)])), (w0, .inl (cN, 10, .inl nu)), (w1, .inl (cL, 10, .inl le)), (w2, .inl (cX, 120, .inl te))] [(cN, .int), (cL, .int), (cX, .int)] xT) (va_Qi (fun (r : Int32) (u : Unit) => r = pkv le te i pt 4) (fun (u : Unit) t => cB (dC, dI) (va_A [(h0, .inr (3, [.ref w0, .ref w1, .ref w2, .ref w3, .ref w4, .ref w5, .int (nI wn), .int nx, .int (nI wc)])), (w0, .inl (cN, 10, .inl nu)), (w1, .inl (cL, 10, .inl le)), (w2, .inl (cX, 120, .inl te))] sz) [(h0, .inr (3, [.ref w0, .ref w1, .ref w2, .ref w3, .ref w4, .ref w5, .int (nI wn), .int nx, .int (nI wc)])), (w0, .inl (cN, 10, .inl nu)), (w1, .inl (cL, 10, .inl le)), (w2, .inl (cX, 120, .inl te))] [(cN, .int), (cL, .int), (cX, .int)] t) (va_A [(h0, .inr (3, [.ref w0, .ref w1, .ref w2, .ref w3, .ref w4, .ref w5, .int (nI wn), .int nx, .int (nI wc)])), (w0, .inl (cN, 10, .inl nu)), (w1, .inl (cL, 10, .inl le)), (w2, .inl (cX, 120, .inl te))] sz)) 0 0 (va_A [(h0, .inr (3, [.ref w0, .ref w1, .ref w2, .ref w3, .ref w4, .ref w5, .int (nI wn), .int nx, .int (nI wc)])), (w0, .inl (cN, 10, .inl nu)), (w1, .inl (cL, 10, .inl le)), (w2, .inl (cX, 120, .inl te))] sz) := by
  refine Met.ofW (cc := b_Wo_packed) (maxL := 6) (ret := (some .int)) (by decide) rfl ?_
  intro p e s m args below meth c s₁ B hml hv
  obtain ⟨rfl, hsz, hP, hK, hD0, hkw, hX⟩ := hv
  have hx := B.exec
  have hb := B.bytes
  have hr := B.returns
  have hts := fun w hw => atoms_spec (ws := Cond.code y_Wo_packed b_Wo_packed 6 (some .int) :: gw) B.pre w (List.mem_cons_of_mem _ hw)
  have hown : s.vm.findClass "LineDisk$Workspace" = some m.cls := findClass_of_methodNamed B.named
  have hlocks := B.notSynchronized
  have hin := (name_of_methodNamed B.named B.method).1
  subst hsz
  have hD := hD0.self (sz := s.heap.size)
  generalize hAe : va_A [(h0, .inr (3, [.ref w0, .ref w1, .ref w2, .ref w3, .ref w4, .ref w5, .int (nI wn), .int nx, .int (nI wc)])), (w0, .inl (cN, 10, .inl nu)), (w1, .inl (cL, 10, .inl le)), (w2, .inl (cX, 120, .inl te))] s.heap.size = A at hD ⊢
  have hA : ∀ q : Nat, s.heap.size ≤ q → A q := fun q h => by rw [← hAe]; exact Or.inr h
  have hS : va_S A s.heap s.heap [] := va_S.rf
  have hl := lv_entry ([.ref h0, .int (nI i), .int (nI pt)]) (n := 6) (Nat.le_of_ble_eq_true rfl)
  rw [lg_entry_eq]
  generalize (lg_sl ([.ref h0, .int (nI i), .int (nI pt)]) ++ List.replicate (6 - (lg_sl ([.ref h0, .int (nI i), .int (nI pt)])).length) Slot.unset).toArray = ls at hl ⊢
  have hl : lv_has ls 6 [(0, .ref h0), (1, .int (nI i)), (2, .int (nI pt))] := hl
  have F : CallFix p m c b_Wo_packed 6 s ([.ref h0, .int (nI i), .int (nI pt)]).toArray gw "LineDisk$Workspace" := ⟨hx, hb, hml, hown, hts⟩
  refine lv_iconst (v := 0) hx hb d_Wo_packed_0 (by decide) ?_
  refine lv_istore_n (i := 3) hx hb d_Wo_packed_1 rfl hl (by decide) rfl (fun ls hl => ?_)
  have hl : lv_has ls 6 [(3, .int 0), (0, .ref h0), (1, .int (nI i)), (2, .int (nI pt))] := hl
  refine lv_iconst (v := 0) hx hb d_Wo_packed_2 (by decide) ?_
  refine lv_istore hx hb d_Wo_packed_3 hl (by decide) rfl (fun ls hl => ?_)
  have hl : lv_has ls 6 [(4, .int 0), (3, .int 0), (0, .ref h0), (1, .int (nI i)), (2, .int (nI pt))] := hl
  refine lp_Wo_packed hx hb hml hts hown hkw hA h0 w0 w1 w2 w3 w4 w5 wn nx wc cN cL cX nu le te i pt hi hpt hK (by decide) (by decide) (by decide) (by decide) (fun k _ ls H locs cl hl hP hD hS hf => ?_) 4 0 (by decide) ls _ _ 0 (lv_sub hl [0, 1, 2, 3, 4] rfl) hP hD hS rfl
  refine lv_iload_n hx hb d_Wo_packed_58 rfl (lv_at hl 0 rfl) ?_
  refine W.widen (k := 0) (n := 0) (by decide) (by decide) ?_
  exact W.iret (v := cl) hx hb hr (fun t ht hW => ⟨⟨cl, (), rfl, hf, cB.of (hP.sub [0, 1, 2, 3] rfl) (hD.sub [0, 1, 2, 3] (by decide) rfl) (hK.sub [0, 1, 2] rfl) ht hW⟩, hS.F ht⟩) hS.2.2 d_Wo_packed_59
def upk (c : Int32) (a : Nat) (un : Nat → Int32) : Nat → (Nat → Int32)
  | 0 => un
  | k + 1 => upd (upk c a un k) (a + k) ((c >>> ((8 * (3 - nI k)) &&& 31)) &&& 255)
set_option maxHeartbeats 4000000 in
set_option maxRecDepth 100000 in
theorem lp_Wo_unpack {p : Program} {l : Launch} {e : Env} {R : Room} {s : State} {m : MethodId} {args : Array Value} {below : List Frame} {meth : Method} {c : Code} {cells slots : Nat} {Q : State → Prop} {A : Nat → Prop} {dC : Nat → ClassId} {dI : Nat → Nat → Nat} (hx : p.tables.exec = Jvm.exec) (hb : c.code = b_Wo_unpack) (hml : c.maxLocals = 4) (hts : ∀ w ∈ gw, w.before args s = true) (hown : s.vm.findClass "LineDisk$Workspace" = some m.cls) (hkw : kw s) (hA : ∀ q : Nat, s.heap.size ≤ q → A q) (h0 w0 w1 w2 w3 w4 w5 : Nat) (wn : Nat) (nx : Int32) (wc : Nat) (cU : ClassId) (un0 : Nat → Int32) (c1 : Int32) (a1 : Nat) (ha1 : a1 ≤ 8) (hK0 : va_K (dC, dI) cls [(cU, .int)] s) (hRf : 0 ≤ R.frames) (hRl : 0 ≤ R.locals) (hRc : cells ≤ R.cells) (hRs : slots ≤ R.slots)  (k_33 : ∀ (k : Nat), k ≤ 4 → ∀ (ls : Array Slot) (H : Heap) (locs : List Loc) (un : Nat → Int32), lv_has ls 4 [(0, .ref h0)] → va_P (dC, dI) cls [(h0, .inr (3, [.ref w0, .ref w1, .ref w2, .ref w3, .ref w4, .ref w5, .int (nI wn), .int nx, .int (nI wc)])), (w3, .inl (cU, 12, .inl un))] H → va_D A [(h0, .inr (3, [.ref w0, .ref w1, .ref w2, .ref w3, .ref w4, .ref w5, .int (nI wn), .int nx, .int (nI wc)])), (w3, .inl (cU, 12, .inl un))] → va_S A s.heap H locs → (un = upk c1 a1 un0 4) → W p l e R s m args below meth c H locs cells slots Q (F0 m 33 ls [])) : ∀ (j k : Nat), k + j = 4 → ∀ (ls : Array Slot) (H : Heap) (locs : List Loc) (un : Nat → Int32), lv_has ls 4 [(3, .int (nI k)), (0, .ref h0), (1, .int c1), (2, .int (nI a1))] → va_P (dC, dI) cls [(h0, .inr (3, [.ref w0, .ref w1, .ref w2, .ref w3, .ref w4, .ref w5, .int (nI wn), .int nx, .int (nI wc)])), (w3, .inl (cU, 12, .inl un))] H → va_D A [(h0, .inr (3, [.ref w0, .ref w1, .ref w2, .ref w3, .ref w4, .ref w5, .int (nI wn), .int nx, .int (nI wc)])), (w3, .inl (cU, 12, .inl un))] → va_S A s.heap H locs → (un = upk c1 a1 un0 k) → W p l e R s m args below meth c H locs cells slots Q (F0 m 2 ls []) := by
  have F : CallFix p m c b_Wo_unpack 4 s args gw "LineDisk$Workspace" := ⟨hx, hb, hml, hown, hts⟩
  intro j
  induction j with
  | zero =>
    intro k hk ls H locs un hl hP hD hS hf
    have hK := hK0
    have hkN : k = 4 := by omega
    refine lv_iload_n hx hb d_Wo_unpack_2 rfl (lv_at hl 0 rfl) ?_
    refine lv_iconst (v := 4) hx hb d_Wo_unpack_3 (by decide) ?_
    refine lv_icmp_ge (tgt := 33) hx hb d_Wo_unpack_4 (by decide) (fun _ => ?_) (fun h => absurd (by rw [hkN]; exact nI_le (a := 4) (b := 4) (Nat.le_refl _) (by decide)) h)
    exact k_33 k (by omega) ls _ _ un (lv_sub hl [1] rfl) (hP.sub [0, 1] rfl) (hD.sub [0, 1] (by decide) rfl) hS (by rw [hkN] at hf; exact hf)
  | succ j ih =>
    intro k hk ls H locs un hl hP hD hS hf
    have hK := hK0
    have hkN : k < 4 := by omega
    refine lv_iload_n hx hb d_Wo_unpack_2 rfl (lv_at hl 0 rfl) ?_
    refine lv_iconst (v := 4) hx hb d_Wo_unpack_3 (by decide) ?_
    refine lv_icmp_ge (tgt := 33) hx hb d_Wo_unpack_4 (by decide) (fun h => absurd h (nI_ge (b := 4) hkN (by decide))) (fun _ => ?_)
    refine lv_aload_n hx hb d_Wo_unpack_7 rfl (lv_at hl 1 rfl) ?_
    refine va_get (D := (dC, dI)) (ci := 3) (v := .ref w3) (C := R_Wo) (T := F_Wo) (N := 9) hx hb hts in_Wo hown hK hP 0 rfl rfl 3 (by decide) (hts _ w_73) (fun _ h9 => h9) rfl d_Wo_unpack_8 ?_
    refine lv_iload_n hx hb d_Wo_unpack_11 rfl (lv_at hl 3 rfl) ?_
    refine lv_iload_n hx hb d_Wo_unpack_12 rfl (lv_at hl 0 rfl) ?_
    refine lv_iadd hx hb d_Wo_unpack_13 ?_
    refine tv (x2 := nI (a1 + k)) (by exact nI_add _ _) ?_
    refine lv_iload_n hx hb d_Wo_unpack_14 rfl (lv_at hl 2 rfl) ?_
    refine lv_bipush (v := 8) hx hb d_Wo_unpack_15 (by decide) ?_
    refine lv_iconst (v := 3) hx hb d_Wo_unpack_17 (by decide) ?_
    refine lv_iload_n hx hb d_Wo_unpack_18 rfl (lv_at hl 0 rfl) ?_
    refine lv_isub hx hb d_Wo_unpack_19 ?_
    refine lv_imul hx hb d_Wo_unpack_20 ?_
    refine lv_ishr hx hb d_Wo_unpack_21 ?_
    refine lv_sipush (v := 255) hx hb d_Wo_unpack_22 (by decide) ?_
    refine lv_iand hx hb d_Wo_unpack_25 ?_
    refine va_iast hx hb hK hP hD hS 1 0 rfl rfl (vp_in_nI (by omega) (by decide)) d_Wo_unpack_26 (fun H locs hP hD hS => ?_)
    have hP : va_P (dC, dI) cls [(h0, .inr (3, [.ref w0, .ref w1, .ref w2, .ref w3, .ref w4, .ref w5, .int (nI wn), .int nx, .int (nI wc)])), (w3, .inl (cU, 12, .inl (upd un (nI (a1 + k) : Int32).toNatClampNeg ((c1 >>> ((8 * (3 - (nI k))) &&& 31)) &&& 255))))] H := hP
    have hD : va_D A [(h0, .inr (3, [.ref w0, .ref w1, .ref w2, .ref w3, .ref w4, .ref w5, .int (nI wn), .int nx, .int (nI wc)])), (w3, .inl (cU, 12, .inl (upd un (nI (a1 + k) : Int32).toNatClampNeg ((c1 >>> ((8 * (3 - (nI k))) &&& 31)) &&& 255))))] := hD
    rw [nI_clamp (show a1 + k < 2 ^ 31 by omega)] at hP hD
    have hP : va_P (dC, dI) cls [(h0, .inr (3, [.ref w0, .ref w1, .ref w2, .ref w3, .ref w4, .ref w5, .int (nI wn), .int nx, .int (nI wc)])), (w3, .inl (cU, 12, .inl (upd un (a1 + k) ((c1 >>> ((8 * (3 - nI k)) &&& 31)) &&& 255))))] H := hP
    have hD : va_D A [(h0, .inr (3, [.ref w0, .ref w1, .ref w2, .ref w3, .ref w4, .ref w5, .int (nI wn), .int nx, .int (nI wc)])), (w3, .inl (cU, 12, .inl (upd un (a1 + k) ((c1 >>> ((8 * (3 - nI k)) &&& 31)) &&& 255))))] := hD
    refine lv_iinc (k := 0) (v := nI (k + 1)) hx hb d_Wo_unpack_27 hl rfl (by rw [lit1]; exact (nI_succ k).symm) (by decide) rfl (fun ls hl => ?_)
    have hl : lv_has ls 4 [(3, .int (nI (k + 1))), (0, .ref h0), (1, .int c1), (2, .int (nI a1))] := hl
    refine lv_goto (tgt := 2) hx hb d_Wo_unpack_30 (by decide) ?_
    exact ih (k + 1) (by omega) ls _ _ (upd un (a1 + k) ((c1 >>> ((8 * (3 - nI k)) &&& 31)) &&& 255)) (lv_sub hl [0, 1, 2, 3] rfl) (hP.sub [0, 1] rfl) (hD.sub [0, 1] (by decide) rfl) hS (by rw [hf]; rfl)
set_option maxHeartbeats 4000000 in
set_option maxRecDepth 100000 in
theorem g_Wo_unpack (l : Launch) (dC : Nat → ClassId) (dI : Nat → Nat → Nat) (h0 w0 w1 w2 w3 w4 w5 : Nat) (wn : Nat) (nx : Int32) (wc : Nat) (cU : ClassId) (un : Nat → Int32) (c1 : Int32) (a1 : Nat) (ha1 : a1 ≤ 8) (sz : Nat) : Met l y_Wo_unpack (Cond.code y_Wo_unpack b_Wo_unpack 4 none :: gw) ({ frames := 0, cells := 0, slots := 0, locals := 0 }) (cP (dC, dI) [.ref h0, .int c1, .int (nI a1)] sz [(h0, .inr (3, [.ref w0, .ref w1, .ref w2, .ref w3, .ref w4, .ref w5, .int (nI wn), .int nx, .int (nI wc)])), (w3, .inl (cU, 12, .inl un))] [(cU, .int)] xT) (va_Qv (fun (u : Unit) => True) (fun (u : Unit) t => cB (dC, dI) (va_A [(h0, .inr (3, [.ref w0, .ref w1, .ref w2, .ref w3, .ref w4, .ref w5, .int (nI wn), .int nx, .int (nI wc)])), (w3, .inl (cU, 12, .inl un))] sz) [(h0, .inr (3, [.ref w0, .ref w1, .ref w2, .ref w3, .ref w4, .ref w5, .int (nI wn), .int nx, .int (nI wc)])), (w3, .inl (cU, 12, .inl (upk c1 a1 un 4)))] [(cU, .int)] t) (va_A [(h0, .inr (3, [.ref w0, .ref w1, .ref w2, .ref w3, .ref w4, .ref w5, .int (nI wn), .int nx, .int (nI wc)])), (w3, .inl (cU, 12, .inl un))] sz)) 0 0 (va_A [(h0, .inr (3, [.ref w0, .ref w1, .ref w2, .ref w3, .ref w4, .ref w5, .int (nI wn), .int nx, .int (nI wc)])), (w3, .inl (cU, 12, .inl un))] sz) := by
  refine Met.ofW (cc := b_Wo_unpack) (maxL := 4) (ret := none) (by decide) rfl ?_
  intro p e s m args below meth c s₁ B hml hv
  obtain ⟨rfl, hsz, hP, hK, hD0, hkw, hX⟩ := hv
  have hx := B.exec
  have hb := B.bytes
  have hr := B.returns
  have hts := fun w hw => atoms_spec (ws := Cond.code y_Wo_unpack b_Wo_unpack 4 none :: gw) B.pre w (List.mem_cons_of_mem _ hw)
  have hown : s.vm.findClass "LineDisk$Workspace" = some m.cls := findClass_of_methodNamed B.named
  have hlocks := B.notSynchronized
  have hin := (name_of_methodNamed B.named B.method).1
  subst hsz
  have hD := hD0.self (sz := s.heap.size)
  generalize hAe : va_A [(h0, .inr (3, [.ref w0, .ref w1, .ref w2, .ref w3, .ref w4, .ref w5, .int (nI wn), .int nx, .int (nI wc)])), (w3, .inl (cU, 12, .inl un))] s.heap.size = A at hD ⊢
  have hA : ∀ q : Nat, s.heap.size ≤ q → A q := fun q h => by rw [← hAe]; exact Or.inr h
  have hS : va_S A s.heap s.heap [] := va_S.rf
  have hl := lv_entry ([.ref h0, .int c1, .int (nI a1)]) (n := 4) (Nat.le_of_ble_eq_true rfl)
  rw [lg_entry_eq]
  generalize (lg_sl ([.ref h0, .int c1, .int (nI a1)]) ++ List.replicate (4 - (lg_sl ([.ref h0, .int c1, .int (nI a1)])).length) Slot.unset).toArray = ls at hl ⊢
  have hl : lv_has ls 4 [(0, .ref h0), (1, .int c1), (2, .int (nI a1))] := hl
  have F : CallFix p m c b_Wo_unpack 4 s ([.ref h0, .int c1, .int (nI a1)]).toArray gw "LineDisk$Workspace" := ⟨hx, hb, hml, hown, hts⟩
  refine lv_iconst (v := 0) hx hb d_Wo_unpack_0 (by decide) ?_
  refine lv_istore_n (i := 3) hx hb d_Wo_unpack_1 rfl hl (by decide) rfl (fun ls hl => ?_)
  have hl : lv_has ls 4 [(3, .int 0), (0, .ref h0), (1, .int c1), (2, .int (nI a1))] := hl
  refine lp_Wo_unpack hx hb hml hts hown hkw hA h0 w0 w1 w2 w3 w4 w5 wn nx wc cU un c1 a1 ha1 hK (by decide) (by decide) (by decide) (by decide) (fun k _ ls H locs un2 hl hP hD hS hf => ?_) 4 0 (by decide) ls _ _ un (lv_sub hl [0, 1, 2, 3] rfl) hP hD hS rfl
  subst hf
  refine W.widen (k := 0) (n := 0) (by decide) (by decide) ?_
  exact W.vret hx hb hr (fun t ht hW => ⟨⟨(), rfl, trivial, cB.of (hP.sub [0, 1] rfl) (hD.sub [0, 1] (by decide) rfl) (hK.sub [0] rfl) ht hW⟩, hS.F ht⟩) hS.2.2 d_Wo_unpack_33
