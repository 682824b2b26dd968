def xP (row n0 : Nat) (f : Nat → Int32) (ws : va_W) : State → Prop := fun U => va_X row n0 f U U.heap ∧ row < U.heap.size ∧ ¬ va_A ws U.heap.size row
theorem xP_bl {row n0 : Nat} {f : Nat → Int32} {ws : va_W} : xBl (xP row n0 f ws) := fun U g mk a h => ⟨va_X.moved (u := U) (U := U.calling g mk a) (Vm.Alike.refl U.vm) h.1, h.2⟩
theorem xP_in {row n0 i t : Nat} {cR : ClassId} {f : Nat → Int32} {D : va_G} {A : Nat → Prop} {ws wc : va_W} {tys : List (ClassId × FieldType)} {s : State} {H : Heap} (hP : va_P D cls ws H) (hD : va_D A ws) (hK : va_K D cls tys s) (hi : ws[i]? = some (row, .inl (cR, n0, .inl f))) (ht : tys[t]? = some (cR, .int)) (isC : List Nat) (hC : isC.map (fun i => ws[i]?) = wc.map some) (hn : i ∉ isC) : ∀ U : State, U.heap = H → s.WarmedH U.vm → xP row n0 f wc U := by
  intro U hU hW
  have hc : H[row]? = some (vp_cell cR (n0, .inl f)) := hP i _ hi
  refine ⟨⟨vp_cell cR (n0, .inl f), by rw [hU]; exact hc, State.isArrayOf_alike hW.alike ((hK.2 t _ ht).1 n0 (fun j => .int (f j))), (fun h => by cases h), by rw [vp_cell_i, arrV_size], fun j hj => by rw [vp_cell_i, arrV_read _ _ hj]⟩, by rw [hU]; exact (Array.getElem?_eq_some_iff.mp hc).1, ?_⟩
  rw [hU]
  rintro (⟨k, e, h⟩ | h)
  · have h1 : (isC.map (fun i => ws[i]?))[k]? = some (some (row, e)) := by rw [hC, List.getElem?_map, h]; rfl
    rw [List.getElem?_map] at h1
    cases hk : isC[k]? with
    | none => rw [hk] at h1; cases h1
    | some j =>
      rw [hk] at h1
      have hj : ws[j]? = some (row, e) := Option.some.inj h1
      have := hD.1 i j _ _ hi hj rfl
      subst this
      exact hn (List.mem_of_getElem? hk)
  · exact absurd (Array.getElem?_eq_some_iff.mp hc).1 (Nat.not_lt.mpr h)
theorem ln12 {ln : Int32} (h1 : ¬ ln < 1) (h2 : ¬ 12 < ln) : ¬ ln < 0 ∧ ln.toNatClampNeg ≤ 12 := by
  have h0 : ¬ ln < 0 := fun h => h1 (Int32.lt_of_lt_of_le h (by decide))
  obtain ⟨j, hj, rfl⟩ := nI_of2 (M := 12) (n := 12) (by decide) h0 (Int32.not_lt.mp h2)
  exact ⟨h0, by rw [nI_clamp (by omega)]; exact hj⟩
theorem frl {fr ln : Int32} {n0 : Nat} (hn2 : n0 < 2 ^ 30) (h1 : ¬ ln < 1) (h2 : ¬ 12 < ln) (h3 : ¬ fr < 0) (h4 : fr ≤ Int32.ofNat n0 - ln) : fr.toNatClampNeg + ln.toNatClampNeg ≤ n0 := by
  have h0 : ¬ ln < 0 := fun h => h1 (Int32.lt_of_lt_of_le h (by decide))
  obtain ⟨j, hj, rfl⟩ := nI_of2 (M := 12) (n := 12) (by decide) h0 (Int32.not_lt.mp h2)
  obtain ⟨a, ha, rfl⟩ := nI_of h3
  rw [nI_clamp ha, nI_clamp (by omega)]
  by_cases hc : j ≤ n0
  · have e : Int32.ofNat n0 - nI j = nI (n0 - j) := pk_sub hc
    rw [e, nI_leI ha (by omega)] at h4
    omega
  · have e : nI n0 - nI j < 0 := pk_sneg (by omega) (by omega)
    exact absurd (Int32.lt_of_le_of_lt h4 e) h3
def badT (n0 : Nat) (fr ln : Int32) : Prop := ln < 1 ∨ 12 < ln ∨ fr < 0 ∨ ¬ fr ≤ Int32.ofNat n0 - ln
def ptv (nu le te : Nat → Int32) (n : Nat) (x : Int32) (n0 : Nat) (f : Nat → Int32) (fr ln : Int32) (p : Nat) : Int32 × Nat × (Nat → Int32) × (Nat → Int32) × (Nat → Int32) :=
  if ln < 1 then (0, n, nu, le, te) else if 12 < ln then (0, n, nu, le, te) else if fr < 0 then (0, n, nu, le, te) else
  if fr ≤ Int32.ofNat n0 - ln then
    if numv nu n (nI p) = x then (1, n, upd nu p x, upd le p ln, va_cpy f te fr.toNatClampNeg (p * 12) ln.toNatClampNeg)
    else if ¬ nI n = 10 then (1, n + 1, upd (va_cpy nu nu p (p + 1) (n - p)) p x, upd (va_cpy le le p (p + 1) (n - p)) p ln, va_cpy f (va_cpy te te (p * 12) ((p + 1) * 12) ((n - p) * 12)) fr.toNatClampNeg (p * 12) ln.toNatClampNeg)
    else (0, n, nu, le, te)
  else (0, n, nu, le, te)
set_option maxHeartbeats 4000000 in
set_option maxRecDepth 100000 in
theorem g_Wo_put (l : Launch) (dC : Nat → ClassId) (dI : Nat → Nat → Nat) (h0 w0 w1 w2 w3 w4 w5 : Nat) (wn : Nat) (nx : Int32) (wc : Nat) (cN cL cX : ClassId) (nu le te : Nat → Int32) (x : Int32) (row n0 : Nat) (f : Nat → Int32) (fr ln : Int32) (hn0 : n0 < 2 ^ 30) (hwn : wn ≤ 10) (hw0 : wn ≤ 9 ∨ ¬ x = 0) (sz : Nat) : Met l y_Wo_put (Cond.code y_Wo_put b_Wo_put 6 (some .boolean) :: gw) ({ frames := 2, cells := 0, slots := 0, locals := 123 }) (cP (dC, dI) [.ref h0, .int x, .ref row, .int fr, .int ln] sz [(h0, .inr (3, [.ref w0, .ref w1, .ref w2, .ref w3, .ref w4, .ref w5, .int (nI wn), .int nx, .int (nI wc)])), (w0, .inl (cN, 10, .inl nu)), (w1, .inl (cL, 10, .inl le)), (w2, .inl (cX, 120, .inl te))] [(cN, .int), (cL, .int), (cX, .int)] (xP row n0 f [(h0, .inr (3, [.ref w0, .ref w1, .ref w2, .ref w3, .ref w4, .ref w5, .int (nI wn), .int nx, .int (nI wc)])), (w0, .inl (cN, 10, .inl nu)), (w1, .inl (cL, 10, .inl le)), (w2, .inl (cX, 120, .inl te))])) (va_Qi (fun (r : Int32) (u : Nat × (Nat × (Nat → Int32) × (Nat → Int32) × (Nat → Int32))) => (r, u.2) = ptv nu le te wn x n0 f fr ln u.1 ∧ (badT n0 fr ln ∨ plc nu wn x u.1) ∧ u.2.1 ≤ 10 ∧ u.2.1 ≤ wn + 1) (fun (u : Nat × (Nat × (Nat → Int32) × (Nat → Int32) × (Nat → Int32))) t => cB (dC, dI) (va_A [(h0, .inr (3, [.ref w0, .ref w1, .ref w2, .ref w3, .ref w4, .ref w5, .int (nI wn), .int nx, .int (nI wc)])), (w0, .inl (cN, 10, .inl nu)), (w1, .inl (cL, 10, .inl le)), (w2, .inl (cX, 120, .inl te))] sz) [(h0, .inr (3, [.ref w0, .ref w1, .ref w2, .ref w3, .ref w4, .ref w5, .int (nI u.2.1), .int nx, .int (nI wc)])), (w0, .inl (cN, 10, .inl u.2.2.1)), (w1, .inl (cL, 10, .inl u.2.2.2.1)), (w2, .inl (cX, 120, .inl u.2.2.2.2))] [(cN, .int), (cL, .int), (cX, .int)] t) (va_A [(h0, .inr (3, [.ref w0, .ref w1, .ref w2, .ref w3, .ref w4, .ref w5, .int (nI wn), .int nx, .int (nI wc)])), (w0, .inl (cN, 10, .inl nu)), (w1, .inl (cL, 10, .inl le)), (w2, .inl (cX, 120, .inl te))] sz)) 0 0 (va_A [(h0, .inr (3, [.ref w0, .ref w1, .ref w2, .ref w3, .ref w4, .ref w5, .int (nI wn), .int nx, .int (nI wc)])), (w0, .inl (cN, 10, .inl nu)), (w1, .inl (cL, 10, .inl le)), (w2, .inl (cX, 120, .inl te))] sz) := by
  refine Met.ofW (cc := b_Wo_put) (maxL := 6) (ret := (some .boolean)) (by decide) rfl ?_
  intro p e s m args below meth c s₁ B hml hv
  obtain ⟨rfl, hsz, hP, hK, hD0, hkw, hX⟩ := hv
  have hx := B.exec
  have hb := B.bytes
  have hr := B.returns
  have hts := fun w hw => atoms_spec (ws := Cond.code y_Wo_put b_Wo_put 6 (some .boolean) :: gw) B.pre w (List.mem_cons_of_mem _ hw)
  have hown : s.vm.findClass "LineDisk$Workspace" = some m.cls := findClass_of_methodNamed B.named
  have hlocks := B.notSynchronized
  have hin := (name_of_methodNamed B.named B.method).1
  subst hsz
  have hD := hD0.self (sz := s.heap.size)
  generalize hAe : va_A [(h0, .inr (3, [.ref w0, .ref w1, .ref w2, .ref w3, .ref w4, .ref w5, .int (nI wn), .int nx, .int (nI wc)])), (w0, .inl (cN, 10, .inl nu)), (w1, .inl (cL, 10, .inl le)), (w2, .inl (cX, 120, .inl te))] s.heap.size = A at hD ⊢
  have hA : ∀ q : Nat, s.heap.size ≤ q → A q := fun q h => by rw [← hAe]; exact Or.inr h
  have hS : va_S A s.heap s.heap [] := va_S.rf
  have hl := lv_entry ([.ref h0, .int x, .ref row, .int fr, .int ln]) (n := 6) (Nat.le_of_ble_eq_true rfl)
  rw [lg_entry_eq]
  generalize (lg_sl ([.ref h0, .int x, .ref row, .int fr, .int ln]) ++ List.replicate (6 - (lg_sl ([.ref h0, .int x, .ref row, .int fr, .int ln])).length) Slot.unset).toArray = ls at hl ⊢
  have hl : lv_has ls 6 [(0, .ref h0), (1, .int x), (2, .ref row), (3, .int fr), (4, .int ln)] := hl
  have F : CallFix p m c b_Wo_put 6 s ([.ref h0, .int x, .ref row, .int fr, .int ln]).toArray gw "LineDisk$Workspace" := ⟨hx, hb, hml, hown, hts⟩
  obtain ⟨hXr, hrl, hbA⟩ := hX
  rw [hAe] at hbA
  refine lv_iload hx hb d_Wo_put_0 (lv_at hl 4 rfl) ?_
  refine lv_iconst (v := 1) hx hb d_Wo_put_2 (by decide) ?_
  refine lv_icmp_lt (tgt := 26) hx hb d_Wo_put_3 (by decide) (fun c3 => ?_) (fun c3 => ?_)
  · skip
    refine lv_iconst (v := 0) hx hb d_Wo_put_26 (by decide) ?_
    refine W.widen (k := 0) (n := 0) (by decide) (by decide) ?_
    exact W.zret (v := 0) hx hb hr (rfl) (fun t ht hW => ⟨⟨0, (0, wn, nu, le, te), rfl, ⟨by (simp only [ptv, c3, if_true, if_false, not_true_eq_false, not_false_eq_true, ite_not] <;> try simp), Or.inl (Or.inl c3), by exact hwn, by show wn ≤ wn + 1; omega⟩, cB.of (hP.sub [0, 1, 2, 3] rfl) (hD.sub [0, 1, 2, 3] (by decide) rfl) (hK.sub [0, 1, 2] rfl) ht hW⟩, hS.F ht⟩) hS.2.2 d_Wo_put_27
  · skip
    refine lv_iload hx hb d_Wo_put_6 (lv_at hl 4 rfl) ?_
    refine lv_bipush (v := 12) hx hb d_Wo_put_8 (by decide) ?_
    refine lv_icmp_gt (tgt := 26) hx hb d_Wo_put_10 (by decide) (fun c10 => ?_) (fun c10 => ?_)
    · skip
      refine lv_iconst (v := 0) hx hb d_Wo_put_26 (by decide) ?_
      refine W.widen (k := 0) (n := 0) (by decide) (by decide) ?_
      exact W.zret (v := 0) hx hb hr (rfl) (fun t ht hW => ⟨⟨0, (0, wn, nu, le, te), rfl, ⟨by (simp only [ptv, c3, c10, if_true, if_false, not_true_eq_false, not_false_eq_true, ite_not] <;> try simp), Or.inl (Or.inr (Or.inl c10)), by exact hwn, by show wn ≤ wn + 1; omega⟩, cB.of (hP.sub [0, 1, 2, 3] rfl) (hD.sub [0, 1, 2, 3] (by decide) rfl) (hK.sub [0, 1, 2] rfl) ht hW⟩, hS.F ht⟩) hS.2.2 d_Wo_put_27
    · skip
      refine lv_iload_n hx hb d_Wo_put_13 rfl (lv_at hl 3 rfl) ?_
      refine lv_if_lt (tgt := 26) hx hb d_Wo_put_14 (by decide) (fun c14 => ?_) (fun c14 => ?_)
      · skip
        refine lv_iconst (v := 0) hx hb d_Wo_put_26 (by decide) ?_
        refine W.widen (k := 0) (n := 0) (by decide) (by decide) ?_
        exact W.zret (v := 0) hx hb hr (rfl) (fun t ht hW => ⟨⟨0, (0, wn, nu, le, te), rfl, ⟨by (simp only [ptv, c3, c10, c14, if_true, if_false, not_true_eq_false, not_false_eq_true, ite_not] <;> try simp), Or.inl (Or.inr (Or.inr (Or.inl c14))), by exact hwn, by show wn ≤ wn + 1; omega⟩, cB.of (hP.sub [0, 1, 2, 3] rfl) (hD.sub [0, 1, 2, 3] (by decide) rfl) (hK.sub [0, 1, 2] rfl) ht hW⟩, hS.F ht⟩) hS.2.2 d_Wo_put_27
      · skip
        refine lv_iload_n hx hb d_Wo_put_17 rfl (lv_at hl 3 rfl) ?_
        refine lv_aload_n hx hb d_Wo_put_18 rfl (lv_at hl 2 rfl) ?_
        refine va_slen hx hb hXr hrl hbA hS d_Wo_put_19 ?_
        refine lv_iload hx hb d_Wo_put_20 (lv_at hl 4 rfl) ?_
        refine lv_isub hx hb d_Wo_put_22 ?_
        refine lv_icmp_le (tgt := 28) hx hb d_Wo_put_23 (by decide) (fun c23 => ?_) (fun c23 => ?_)
        · skip
          refine lv_aload_n hx hb d_Wo_put_28 rfl (lv_at hl 0 rfl) ?_
          refine lv_iload_n hx hb d_Wo_put_29 rfl (lv_at hl 1 rfl) ?_
          refine go_i (wr := [(w1, .inl (cL, 10, .inl le)), (w2, .inl (cX, 120, .inl te))]) (tr := [(cL, .int), (cX, .int)]) (rV (C := "LineDisk$Workspace") (ci := 3) (q0 := 0) (b := h0) (n := 1) (As := [.int x]) (rest := []) F hkw (g_Wo_placeOf l dC dI h0 w0 w1 w2 w3 w4 w5 wn nx wc cN nu x hwn s.heap.size) xT_bl (fun _ _ _ => trivial) w_239 w_241 ws_2 w_4 w_242 rfl rfl (by decide +kernel) ⟨Nat.le_of_ble_eq_true rfl, Nat.le_of_ble_eq_true rfl⟩ (hP.sub (ws' := [(h0, .inr (3, [.ref w0, .ref w1, .ref w2, .ref w3, .ref w4, .ref w5, .int (nI wn), .int nx, .int (nI wc)])), (w0, .inl (cN, 10, .inl nu))]) [0, 1] rfl) (hD.sub (ws' := [(h0, .inr (3, [.ref w0, .ref w1, .ref w2, .ref w3, .ref w4, .ref w5, .int (nI wn), .int nx, .int (nI wc)])), (w0, .inl (cN, 10, .inl nu))]) [0, 1] (by decide) rfl) (hK.sub (tys' := [(cN, .int)]) [0] rfl) rfl rfl rfl rfl hl.1 rfl (Nat.le_of_ble_eq_true rfl) d_Wo_put_30 ⟨by decide, by decide⟩) hP hD hK hS hA [0, 1] [2, 3] [1, 2] rfl rfl (by decide) (by decide) rfl (fun r p9 H locs h9 hP hD hK hS => ?_)
          have hP : va_P (dC, dI) cls [(w1, .inl (cL, 10, .inl le)), (w2, .inl (cX, 120, .inl te)), (h0, .inr (3, [.ref w0, .ref w1, .ref w2, .ref w3, .ref w4, .ref w5, .int (nI wn), .int nx, .int (nI wc)])), (w0, .inl (cN, 10, .inl nu))] H := hP
          have hD : va_D A [(w1, .inl (cL, 10, .inl le)), (w2, .inl (cX, 120, .inl te)), (h0, .inr (3, [.ref w0, .ref w1, .ref w2, .ref w3, .ref w4, .ref w5, .int (nI wn), .int nx, .int (nI wc)])), (w0, .inl (cN, 10, .inl nu))] := hD
          have hK : va_K (dC, dI) cls [(cL, .int), (cX, .int), (cN, .int)] s := hK
          refine W.widen (k := 0) (n := 0) (by omega) (by omega) ?_
          obtain ⟨rfl, h9⟩ := h9
          have hp9 : p9 ≤ wn := h9.1
          refine lv_istore hx hb d_Wo_put_33 hl (by decide) rfl (fun ls hl => ?_)
          have hl : lv_has ls 6 [(5, .int (nI p9)), (0, .ref h0), (1, .int x), (2, .ref row), (3, .int fr), (4, .int ln)] := hl
          refine lv_aload_n hx hb d_Wo_put_35 rfl (lv_at hl 1 rfl) ?_
          refine lv_iload hx hb d_Wo_put_36 (lv_at hl 0 rfl) ?_
          refine go_i (wr := [(w1, .inl (cL, 10, .inl le)), (w2, .inl (cX, 120, .inl te))]) (tr := [(cL, .int), (cX, .int)]) (rV (C := "LineDisk$Workspace") (ci := 3) (q0 := 0) (b := h0) (n := 1) (As := [.int (nI p9)]) (rest := []) F hkw (g_Wo_numberOf l dC dI h0 w0 w1 w2 w3 w4 w5 wn nx wc cN nu (nI p9) hwn H.size) xT_bl (fun _ _ _ => trivial) w_243 w_244 w_245 w_4 w_246 rfl rfl (by decide +kernel) ⟨Nat.le_of_ble_eq_true rfl, Nat.le_of_ble_eq_true rfl⟩ (hP.sub (ws' := [(h0, .inr (3, [.ref w0, .ref w1, .ref w2, .ref w3, .ref w4, .ref w5, .int (nI wn), .int nx, .int (nI wc)])), (w0, .inl (cN, 10, .inl nu))]) [2, 3] rfl) (hD.sub (ws' := [(h0, .inr (3, [.ref w0, .ref w1, .ref w2, .ref w3, .ref w4, .ref w5, .int (nI wn), .int nx, .int (nI wc)])), (w0, .inl (cN, 10, .inl nu))]) [2, 3] (by decide) rfl) (hK.sub (tys' := [(cN, .int)]) [2] rfl) rfl rfl rfl rfl hl.1 rfl (Nat.le_of_ble_eq_true rfl) d_Wo_put_38 ⟨by decide, by decide⟩) hP hD hK hS hA [2, 3] [0, 1] [0, 1] rfl rfl (by decide) (by decide) rfl (fun r u H locs hw hP hD hK hS => ?_)
          have hP : va_P (dC, dI) cls [(w1, .inl (cL, 10, .inl le)), (w2, .inl (cX, 120, .inl te)), (h0, .inr (3, [.ref w0, .ref w1, .ref w2, .ref w3, .ref w4, .ref w5, .int (nI wn), .int nx, .int (nI wc)])), (w0, .inl (cN, 10, .inl nu))] H := hP
          have hD : va_D A [(w1, .inl (cL, 10, .inl le)), (w2, .inl (cX, 120, .inl te)), (h0, .inr (3, [.ref w0, .ref w1, .ref w2, .ref w3, .ref w4, .ref w5, .int (nI wn), .int nx, .int (nI wc)])), (w0, .inl (cN, 10, .inl nu))] := hD
          have hK : va_K (dC, dI) cls [(cL, .int), (cX, .int), (cN, .int)] s := hK
          refine W.widen (k := 0) (n := 0) (by omega) (by omega) ?_
          subst hw
          refine lv_iload_n hx hb d_Wo_put_41 rfl (lv_at hl 2 rfl) ?_
          refine lv_icmp_eq (tgt := 76) hx hb d_Wo_put_42 (by decide) (fun c42 => ?_) (fun c42 => ?_)
          · skip
            have hp10 : p9 < 10 := hw0.elim (fun h => by omega) (fun h => by have := (numv_at hwn hp9 h c42).1; omega)
            refine lv_aload_n hx hb d_Wo_put_76 rfl (lv_at hl 1 rfl) ?_
            refine va_get (D := (dC, dI)) (ci := 3) (v := .ref w0) (C := R_Wo) (T := F_Wo) (N := 9) hx hb hts in_Wo hown hK hP 2 rfl rfl 0 (by decide) (hts _ w_68) (fun _ h9 => h9) rfl d_Wo_put_77 ?_
            refine lv_iload hx hb d_Wo_put_80 (lv_at hl 0 rfl) ?_
            refine lv_iload_n hx hb d_Wo_put_82 rfl (lv_at hl 2 rfl) ?_
            refine va_iast hx hb hK hP hD hS 3 2 rfl rfl (vp_in_nI hp10 (by decide)) d_Wo_put_83 (fun H locs hP hD hS => ?_)
            have hP : va_P (dC, dI) cls [(w1, .inl (cL, 10, .inl le)), (w2, .inl (cX, 120, .inl te)), (h0, .inr (3, [.ref w0, .ref w1, .ref w2, .ref w3, .ref w4, .ref w5, .int (nI wn), .int nx, .int (nI wc)])), (w0, .inl (cN, 10, .inl (upd nu (nI p9 : Int32).toNatClampNeg x)))] H := hP
            have hD : va_D A [(w1, .inl (cL, 10, .inl le)), (w2, .inl (cX, 120, .inl te)), (h0, .inr (3, [.ref w0, .ref w1, .ref w2, .ref w3, .ref w4, .ref w5, .int (nI wn), .int nx, .int (nI wc)])), (w0, .inl (cN, 10, .inl (upd nu (nI p9 : Int32).toNatClampNeg x)))] := hD
            rw [nI_clamp (show p9 < 2 ^ 31 by omega)] at hP hD
            have hP : va_P (dC, dI) cls [(w1, .inl (cL, 10, .inl le)), (w2, .inl (cX, 120, .inl te)), (h0, .inr (3, [.ref w0, .ref w1, .ref w2, .ref w3, .ref w4, .ref w5, .int (nI wn), .int nx, .int (nI wc)])), (w0, .inl (cN, 10, .inl (upd nu p9 x)))] H := hP
            have hD : va_D A [(w1, .inl (cL, 10, .inl le)), (w2, .inl (cX, 120, .inl te)), (h0, .inr (3, [.ref w0, .ref w1, .ref w2, .ref w3, .ref w4, .ref w5, .int (nI wn), .int nx, .int (nI wc)])), (w0, .inl (cN, 10, .inl (upd nu p9 x)))] := hD
            refine lv_aload_n hx hb d_Wo_put_84 rfl (lv_at hl 1 rfl) ?_
            refine va_get (D := (dC, dI)) (ci := 3) (v := .ref w1) (C := R_Wo) (T := F_Wo) (N := 9) hx hb hts in_Wo hown hK hP 2 rfl rfl 1 (by decide) (hts _ w_69) (fun _ h9 => h9) rfl d_Wo_put_85 ?_
            refine lv_iload hx hb d_Wo_put_88 (lv_at hl 0 rfl) ?_
            refine lv_iload hx hb d_Wo_put_90 (lv_at hl 5 rfl) ?_
            refine va_iast hx hb hK hP hD hS 0 0 rfl rfl (vp_in_nI hp10 (by decide)) d_Wo_put_92 (fun H locs hP hD hS => ?_)
            have hP : va_P (dC, dI) cls [(w1, .inl (cL, 10, .inl (upd le (nI p9 : Int32).toNatClampNeg ln))), (w2, .inl (cX, 120, .inl te)), (h0, .inr (3, [.ref w0, .ref w1, .ref w2, .ref w3, .ref w4, .ref w5, .int (nI wn), .int nx, .int (nI wc)])), (w0, .inl (cN, 10, .inl (upd nu p9 x)))] H := hP
            have hD : va_D A [(w1, .inl (cL, 10, .inl (upd le (nI p9 : Int32).toNatClampNeg ln))), (w2, .inl (cX, 120, .inl te)), (h0, .inr (3, [.ref w0, .ref w1, .ref w2, .ref w3, .ref w4, .ref w5, .int (nI wn), .int nx, .int (nI wc)])), (w0, .inl (cN, 10, .inl (upd nu p9 x)))] := hD
            rw [nI_clamp (show p9 < 2 ^ 31 by omega)] at hP hD
            have hP : va_P (dC, dI) cls [(w1, .inl (cL, 10, .inl (upd le p9 ln))), (w2, .inl (cX, 120, .inl te)), (h0, .inr (3, [.ref w0, .ref w1, .ref w2, .ref w3, .ref w4, .ref w5, .int (nI wn), .int nx, .int (nI wc)])), (w0, .inl (cN, 10, .inl (upd nu p9 x)))] H := hP
            have hD : va_D A [(w1, .inl (cL, 10, .inl (upd le p9 ln))), (w2, .inl (cX, 120, .inl te)), (h0, .inr (3, [.ref w0, .ref w1, .ref w2, .ref w3, .ref w4, .ref w5, .int (nI wn), .int nx, .int (nI wc)])), (w0, .inl (cN, 10, .inl (upd nu p9 x)))] := hD
            refine lv_aload_n hx hb d_Wo_put_93 rfl (lv_at hl 3 rfl) ?_
            refine lv_iload_n hx hb d_Wo_put_94 rfl (lv_at hl 4 rfl) ?_
            refine lv_aload_n hx hb d_Wo_put_95 rfl (lv_at hl 1 rfl) ?_
            refine va_get (D := (dC, dI)) (ci := 3) (v := .ref w2) (C := R_Wo) (T := F_Wo) (N := 9) hx hb hts in_Wo hown hK hP 2 rfl rfl 2 (by decide) (hts _ w_71) (fun _ h9 => h9) rfl d_Wo_put_96 ?_
            refine lv_iload hx hb d_Wo_put_99 (lv_at hl 0 rfl) ?_
            refine lv_bipush (v := 12) hx hb d_Wo_put_101 (by decide) ?_
            refine lv_imul hx hb d_Wo_put_103 ?_
            refine tv (x2 := nI (p9 * 12)) (by exact pk_mul p9 12) ?_
            refine lv_iload hx hb d_Wo_put_104 (lv_at hl 5 rfl) ?_
            refine va_copyx (rest := []) hx hb (by rw [hml]; exact hl.1.symm) hown (hts _ w_251) (hts _ w_183) (hts _ w_182) (hts _ w_7) hK hP hD hS hXr hrl hbA 1 1 rfl rfl c14 (nI_pos (by omega)) (ln12 c3 c10).1 (frl hn0 c3 c10 c14 c23) (by rw [nI_clamp (by omega)]; have := (ln12 c3 c10).2; omega) (by decide) (by decide) d_Wo_put_106 (fun H locs hP hD hS => ?_)
            rw [nI_clamp (show p9 * 12 < 2 ^ 31 by omega)] at hP hD
            have hP : va_P (dC, dI) cls [(w1, .inl (cL, 10, .inl (upd le p9 ln))), (w2, .inl (cX, 120, .inl (va_cpy f te fr.toNatClampNeg (p9 * 12) ln.toNatClampNeg))), (h0, .inr (3, [.ref w0, .ref w1, .ref w2, .ref w3, .ref w4, .ref w5, .int (nI wn), .int nx, .int (nI wc)])), (w0, .inl (cN, 10, .inl (upd nu p9 x)))] H := hP
            have hD : va_D A [(w1, .inl (cL, 10, .inl (upd le p9 ln))), (w2, .inl (cX, 120, .inl (va_cpy f te fr.toNatClampNeg (p9 * 12) ln.toNatClampNeg))), (h0, .inr (3, [.ref w0, .ref w1, .ref w2, .ref w3, .ref w4, .ref w5, .int (nI wn), .int nx, .int (nI wc)])), (w0, .inl (cN, 10, .inl (upd nu p9 x)))] := hD
            refine lv_iconst (v := 1) hx hb d_Wo_put_109 (by decide) ?_
            refine W.widen (k := 0) (n := 0) (by decide) (by decide) ?_
            exact W.zret (v := 1) hx hb hr (rfl) (fun t ht hW => ⟨⟨1, (p9, wn, upd nu p9 x, upd le p9 ln, va_cpy f te fr.toNatClampNeg (p9 * 12) ln.toNatClampNeg), rfl, ⟨by (simp only [ptv, c3, c10, c14, c23, c42, if_true, if_false, not_true_eq_false, not_false_eq_true, ite_not] <;> try simp), Or.inr h9, by exact hwn, by show wn ≤ wn + 1; omega⟩, cB.of (hP.sub [2, 3, 0, 1] rfl) (hD.sub [2, 3, 0, 1] (by decide) rfl) (hK.sub [2, 0, 1] rfl) ht hW⟩, hS.F ht⟩) hS.2.2 d_Wo_put_110
          · skip
            refine lv_aload_n hx hb d_Wo_put_45 rfl (lv_at hl 1 rfl) ?_
            refine va_get (D := (dC, dI)) (ci := 3) (v := .int (nI wn)) (C := R_Wo) (T := F_Wo) (N := 9) hx hb hts in_Wo hown hK hP 2 rfl rfl 6 (by decide) (hts _ w_78) (fun _ h9 => h9) rfl d_Wo_put_46 ?_
            refine lv_bipush (v := 10) hx hb d_Wo_put_49 (by decide) ?_
            refine lv_icmp_ne (tgt := 56) hx hb d_Wo_put_51 (by decide) (fun c51 => ?_) (fun c51 => ?_)
            · skip
              refine lv_aload_n hx hb d_Wo_put_56 rfl (lv_at hl 1 rfl) ?_
              refine lv_iload hx hb d_Wo_put_57 (lv_at hl 0 rfl) ?_
              refine lv_iload hx hb d_Wo_put_59 (lv_at hl 0 rfl) ?_
              refine lv_iconst (v := 1) hx hb d_Wo_put_61 (by decide) ?_
              refine lv_iadd hx hb d_Wo_put_62 ?_
              refine tv (x2 := nI (p9 + 1)) (by exact (nI_succ p9).symm) ?_
              have hwn9 : wn ≤ 9 := by
                rcases Nat.lt_or_ge wn 10 with h | h
                · omega
                · exact absurd (by rw [show wn = 10 by omega]; rfl) c51
              have hp10 : p9 < 10 := by omega
              refine go_v (wr := []) (tr := []) (rV (C := "LineDisk$Workspace") (ci := 3) (q0 := 0) (b := h0) (n := 2) (As := [.int (nI p9), .int (nI (p9 + 1))]) (rest := []) F hkw (g_Wo_moveLines l dC dI h0 w0 w1 w2 w3 w4 w5 wn nx wc cN cL cX nu le te p9 (p9 + 1) hp9 hwn (by omega) H.size) xT_bl (fun _ _ _ => trivial) w_247 w_249 ws_3 w_4 w_250 rfl rfl (by decide +kernel) ⟨Nat.le_of_ble_eq_true rfl, Nat.le_of_ble_eq_true rfl⟩ (hP.sub (ws' := [(h0, .inr (3, [.ref w0, .ref w1, .ref w2, .ref w3, .ref w4, .ref w5, .int (nI wn), .int nx, .int (nI wc)])), (w0, .inl (cN, 10, .inl nu)), (w1, .inl (cL, 10, .inl le)), (w2, .inl (cX, 120, .inl te))]) [2, 3, 0, 1] rfl) (hD.sub (ws' := [(h0, .inr (3, [.ref w0, .ref w1, .ref w2, .ref w3, .ref w4, .ref w5, .int (nI wn), .int nx, .int (nI wc)])), (w0, .inl (cN, 10, .inl nu)), (w1, .inl (cL, 10, .inl le)), (w2, .inl (cX, 120, .inl te))]) [2, 3, 0, 1] (by decide) rfl) (hK.sub (tys' := [(cN, .int), (cL, .int), (cX, .int)]) [2, 0, 1] rfl) rfl rfl rfl rfl hl.1 rfl (Nat.le_of_ble_eq_true rfl) d_Wo_put_63 ⟨by decide, by decide⟩) hP hD hK hS hA [2, 3, 0, 1] [] [] rfl rfl (by decide) (by decide) rfl (fun u H locs _ hP hD hK hS => ?_)
              have hP : va_P (dC, dI) cls [(h0, .inr (3, [.ref w0, .ref w1, .ref w2, .ref w3, .ref w4, .ref w5, .int (nI wn), .int nx, .int (nI wc)])), (w0, .inl (cN, 10, .inl (va_cpy nu nu p9 (p9 + 1) (wn - p9)))), (w1, .inl (cL, 10, .inl (va_cpy le le p9 (p9 + 1) (wn - p9)))), (w2, .inl (cX, 120, .inl (va_cpy te te (p9 * 12) ((p9 + 1) * 12) ((wn - p9) * 12))))] H := hP
              have hD : va_D A [(h0, .inr (3, [.ref w0, .ref w1, .ref w2, .ref w3, .ref w4, .ref w5, .int (nI wn), .int nx, .int (nI wc)])), (w0, .inl (cN, 10, .inl (va_cpy nu nu p9 (p9 + 1) (wn - p9)))), (w1, .inl (cL, 10, .inl (va_cpy le le p9 (p9 + 1) (wn - p9)))), (w2, .inl (cX, 120, .inl (va_cpy te te (p9 * 12) ((p9 + 1) * 12) ((wn - p9) * 12))))] := hD
              have hK : va_K (dC, dI) cls [(cN, .int), (cL, .int), (cX, .int)] s := hK
              refine W.widen (k := 0) (n := 0) (by omega) (by omega) ?_
              refine lv_aload_n hx hb d_Wo_put_66 rfl (lv_at hl 1 rfl) ?_
              refine lv_dup hx hb d_Wo_put_67 rfl ?_
              refine va_get (D := (dC, dI)) (ci := 3) (v := .int (nI wn)) (C := R_Wo) (T := F_Wo) (N := 9) hx hb hts in_Wo hown hK hP 0 rfl rfl 6 (by decide) (hts _ w_78) (fun _ h9 => h9) rfl d_Wo_put_68 ?_
              refine lv_iconst (v := 1) hx hb d_Wo_put_71 (by decide) ?_
              refine lv_iadd hx hb d_Wo_put_72 ?_
              refine tv (x2 := nI (wn + 1)) (by exact (nI_succ wn).symm) ?_
              refine va_put (D := (dC, dI)) (ci := 3) (v := .int (nI (wn + 1))) (ty := .int) (C := R_Wo) (T := F_Wo) (N := 9) hx hb hts in_Wo t_Wo t_Wo_ok n_Wo hown hK hP hD hS 0 rfl rfl 6 (by decide) (hts _ w_78) (fun _ h9 => h9) rfl (by decide +kernel) (rfl) (rfl) (Nat.le_of_ble_eq_true rfl) d_Wo_put_73 (fun H locs hP hD hS => ?_)
              have hP : va_P (dC, dI) cls [(h0, .inr (3, [.ref w0, .ref w1, .ref w2, .ref w3, .ref w4, .ref w5, .int (nI (wn + 1)), .int nx, .int (nI wc)])), (w0, .inl (cN, 10, .inl (va_cpy nu nu p9 (p9 + 1) (wn - p9)))), (w1, .inl (cL, 10, .inl (va_cpy le le p9 (p9 + 1) (wn - p9)))), (w2, .inl (cX, 120, .inl (va_cpy te te (p9 * 12) ((p9 + 1) * 12) ((wn - p9) * 12))))] H := hP
              have hD : va_D A [(h0, .inr (3, [.ref w0, .ref w1, .ref w2, .ref w3, .ref w4, .ref w5, .int (nI (wn + 1)), .int nx, .int (nI wc)])), (w0, .inl (cN, 10, .inl (va_cpy nu nu p9 (p9 + 1) (wn - p9)))), (w1, .inl (cL, 10, .inl (va_cpy le le p9 (p9 + 1) (wn - p9)))), (w2, .inl (cX, 120, .inl (va_cpy te te (p9 * 12) ((p9 + 1) * 12) ((wn - p9) * 12))))] := hD
              refine lv_aload_n hx hb d_Wo_put_76 rfl (lv_at hl 1 rfl) ?_
              refine va_get (D := (dC, dI)) (ci := 3) (v := .ref w0) (C := R_Wo) (T := F_Wo) (N := 9) hx hb hts in_Wo hown hK hP 0 rfl rfl 0 (by decide) (hts _ w_68) (fun _ h9 => h9) rfl d_Wo_put_77 ?_
              refine lv_iload hx hb d_Wo_put_80 (lv_at hl 0 rfl) ?_
              refine lv_iload_n hx hb d_Wo_put_82 rfl (lv_at hl 2 rfl) ?_
              refine va_iast hx hb hK hP hD hS 1 0 rfl rfl (vp_in_nI hp10 (by decide)) d_Wo_put_83 (fun H locs hP hD hS => ?_)
              have hP : va_P (dC, dI) cls [(h0, .inr (3, [.ref w0, .ref w1, .ref w2, .ref w3, .ref w4, .ref w5, .int (nI (wn + 1)), .int nx, .int (nI wc)])), (w0, .inl (cN, 10, .inl (upd (va_cpy nu nu p9 (p9 + 1) (wn - p9)) (nI p9 : Int32).toNatClampNeg x))), (w1, .inl (cL, 10, .inl (va_cpy le le p9 (p9 + 1) (wn - p9)))), (w2, .inl (cX, 120, .inl (va_cpy te te (p9 * 12) ((p9 + 1) * 12) ((wn - p9) * 12))))] H := hP
              have hD : va_D A [(h0, .inr (3, [.ref w0, .ref w1, .ref w2, .ref w3, .ref w4, .ref w5, .int (nI (wn + 1)), .int nx, .int (nI wc)])), (w0, .inl (cN, 10, .inl (upd (va_cpy nu nu p9 (p9 + 1) (wn - p9)) (nI p9 : Int32).toNatClampNeg x))), (w1, .inl (cL, 10, .inl (va_cpy le le p9 (p9 + 1) (wn - p9)))), (w2, .inl (cX, 120, .inl (va_cpy te te (p9 * 12) ((p9 + 1) * 12) ((wn - p9) * 12))))] := hD
              rw [nI_clamp (show p9 < 2 ^ 31 by omega)] at hP hD
              have hP : va_P (dC, dI) cls [(h0, .inr (3, [.ref w0, .ref w1, .ref w2, .ref w3, .ref w4, .ref w5, .int (nI (wn + 1)), .int nx, .int (nI wc)])), (w0, .inl (cN, 10, .inl (upd (va_cpy nu nu p9 (p9 + 1) (wn - p9)) p9 x))), (w1, .inl (cL, 10, .inl (va_cpy le le p9 (p9 + 1) (wn - p9)))), (w2, .inl (cX, 120, .inl (va_cpy te te (p9 * 12) ((p9 + 1) * 12) ((wn - p9) * 12))))] H := hP
              have hD : va_D A [(h0, .inr (3, [.ref w0, .ref w1, .ref w2, .ref w3, .ref w4, .ref w5, .int (nI (wn + 1)), .int nx, .int (nI wc)])), (w0, .inl (cN, 10, .inl (upd (va_cpy nu nu p9 (p9 + 1) (wn - p9)) p9 x))), (w1, .inl (cL, 10, .inl (va_cpy le le p9 (p9 + 1) (wn - p9)))), (w2, .inl (cX, 120, .inl (va_cpy te te (p9 * 12) ((p9 + 1) * 12) ((wn - p9) * 12))))] := hD
              refine lv_aload_n hx hb d_Wo_put_84 rfl (lv_at hl 1 rfl) ?_
              refine va_get (D := (dC, dI)) (ci := 3) (v := .ref w1) (C := R_Wo) (T := F_Wo) (N := 9) hx hb hts in_Wo hown hK hP 0 rfl rfl 1 (by decide) (hts _ w_69) (fun _ h9 => h9) rfl d_Wo_put_85 ?_
              refine lv_iload hx hb d_Wo_put_88 (lv_at hl 0 rfl) ?_
              refine lv_iload hx hb d_Wo_put_90 (lv_at hl 5 rfl) ?_
              refine va_iast hx hb hK hP hD hS 2 1 rfl rfl (vp_in_nI hp10 (by decide)) d_Wo_put_92 (fun H locs hP hD hS => ?_)
              have hP : va_P (dC, dI) cls [(h0, .inr (3, [.ref w0, .ref w1, .ref w2, .ref w3, .ref w4, .ref w5, .int (nI (wn + 1)), .int nx, .int (nI wc)])), (w0, .inl (cN, 10, .inl (upd (va_cpy nu nu p9 (p9 + 1) (wn - p9)) p9 x))), (w1, .inl (cL, 10, .inl (upd (va_cpy le le p9 (p9 + 1) (wn - p9)) (nI p9 : Int32).toNatClampNeg ln))), (w2, .inl (cX, 120, .inl (va_cpy te te (p9 * 12) ((p9 + 1) * 12) ((wn - p9) * 12))))] H := hP
              have hD : va_D A [(h0, .inr (3, [.ref w0, .ref w1, .ref w2, .ref w3, .ref w4, .ref w5, .int (nI (wn + 1)), .int nx, .int (nI wc)])), (w0, .inl (cN, 10, .inl (upd (va_cpy nu nu p9 (p9 + 1) (wn - p9)) p9 x))), (w1, .inl (cL, 10, .inl (upd (va_cpy le le p9 (p9 + 1) (wn - p9)) (nI p9 : Int32).toNatClampNeg ln))), (w2, .inl (cX, 120, .inl (va_cpy te te (p9 * 12) ((p9 + 1) * 12) ((wn - p9) * 12))))] := hD
              rw [nI_clamp (show p9 < 2 ^ 31 by omega)] at hP hD
              have hP : va_P (dC, dI) cls [(h0, .inr (3, [.ref w0, .ref w1, .ref w2, .ref w3, .ref w4, .ref w5, .int (nI (wn + 1)), .int nx, .int (nI wc)])), (w0, .inl (cN, 10, .inl (upd (va_cpy nu nu p9 (p9 + 1) (wn - p9)) p9 x))), (w1, .inl (cL, 10, .inl (upd (va_cpy le le p9 (p9 + 1) (wn - p9)) p9 ln))), (w2, .inl (cX, 120, .inl (va_cpy te te (p9 * 12) ((p9 + 1) * 12) ((wn - p9) * 12))))] H := hP
              have hD : va_D A [(h0, .inr (3, [.ref w0, .ref w1, .ref w2, .ref w3, .ref w4, .ref w5, .int (nI (wn + 1)), .int nx, .int (nI wc)])), (w0, .inl (cN, 10, .inl (upd (va_cpy nu nu p9 (p9 + 1) (wn - p9)) p9 x))), (w1, .inl (cL, 10, .inl (upd (va_cpy le le p9 (p9 + 1) (wn - p9)) p9 ln))), (w2, .inl (cX, 120, .inl (va_cpy te te (p9 * 12) ((p9 + 1) * 12) ((wn - p9) * 12))))] := hD
              refine lv_aload_n hx hb d_Wo_put_93 rfl (lv_at hl 3 rfl) ?_
              refine lv_iload_n hx hb d_Wo_put_94 rfl (lv_at hl 4 rfl) ?_
              refine lv_aload_n hx hb d_Wo_put_95 rfl (lv_at hl 1 rfl) ?_
              refine va_get (D := (dC, dI)) (ci := 3) (v := .ref w2) (C := R_Wo) (T := F_Wo) (N := 9) hx hb hts in_Wo hown hK hP 0 rfl rfl 2 (by decide) (hts _ w_71) (fun _ h9 => h9) rfl d_Wo_put_96 ?_
              refine lv_iload hx hb d_Wo_put_99 (lv_at hl 0 rfl) ?_
              refine lv_bipush (v := 12) hx hb d_Wo_put_101 (by decide) ?_
              refine lv_imul hx hb d_Wo_put_103 ?_
              refine tv (x2 := nI (p9 * 12)) (by exact pk_mul p9 12) ?_
              refine lv_iload hx hb d_Wo_put_104 (lv_at hl 5 rfl) ?_
              refine va_copyx (rest := []) hx hb (by rw [hml]; exact hl.1.symm) hown (hts _ w_251) (hts _ w_183) (hts _ w_182) (hts _ w_7) hK hP hD hS hXr hrl hbA 3 2 rfl rfl c14 (nI_pos (by omega)) (ln12 c3 c10).1 (frl hn0 c3 c10 c14 c23) (by rw [nI_clamp (by omega)]; have := (ln12 c3 c10).2; omega) (by decide) (by decide) d_Wo_put_106 (fun H locs hP hD hS => ?_)
              rw [nI_clamp (show p9 * 12 < 2 ^ 31 by omega)] at hP hD
              have hP : va_P (dC, dI) cls [(h0, .inr (3, [.ref w0, .ref w1, .ref w2, .ref w3, .ref w4, .ref w5, .int (nI (wn + 1)), .int nx, .int (nI wc)])), (w0, .inl (cN, 10, .inl (upd (va_cpy nu nu p9 (p9 + 1) (wn - p9)) p9 x))), (w1, .inl (cL, 10, .inl (upd (va_cpy le le p9 (p9 + 1) (wn - p9)) p9 ln))), (w2, .inl (cX, 120, .inl (va_cpy f (va_cpy te te (p9 * 12) ((p9 + 1) * 12) ((wn - p9) * 12)) fr.toNatClampNeg (p9 * 12) ln.toNatClampNeg)))] H := hP
              have hD : va_D A [(h0, .inr (3, [.ref w0, .ref w1, .ref w2, .ref w3, .ref w4, .ref w5, .int (nI (wn + 1)), .int nx, .int (nI wc)])), (w0, .inl (cN, 10, .inl (upd (va_cpy nu nu p9 (p9 + 1) (wn - p9)) p9 x))), (w1, .inl (cL, 10, .inl (upd (va_cpy le le p9 (p9 + 1) (wn - p9)) p9 ln))), (w2, .inl (cX, 120, .inl (va_cpy f (va_cpy te te (p9 * 12) ((p9 + 1) * 12) ((wn - p9) * 12)) fr.toNatClampNeg (p9 * 12) ln.toNatClampNeg)))] := hD
              refine lv_iconst (v := 1) hx hb d_Wo_put_109 (by decide) ?_
              refine W.widen (k := 0) (n := 0) (by decide) (by decide) ?_
              exact W.zret (v := 1) hx hb hr (rfl) (fun t ht hW => ⟨⟨1, (p9, wn + 1, upd (va_cpy nu nu p9 (p9 + 1) (wn - p9)) p9 x, upd (va_cpy le le p9 (p9 + 1) (wn - p9)) p9 ln, va_cpy f (va_cpy te te (p9 * 12) ((p9 + 1) * 12) ((wn - p9) * 12)) fr.toNatClampNeg (p9 * 12) ln.toNatClampNeg), rfl, ⟨by (simp only [ptv, c3, c10, c14, c23, c42, c51, if_true, if_false, not_true_eq_false, not_false_eq_true, ite_not] <;> try simp), Or.inr h9, by show wn + 1 ≤ 10; omega, by show wn + 1 ≤ wn + 1; omega⟩, cB.of (hP.sub [0, 1, 2, 3] rfl) (hD.sub [0, 1, 2, 3] (by decide) rfl) (hK.sub [0, 1, 2] rfl) ht hW⟩, hS.F ht⟩) hS.2.2 d_Wo_put_110
            · skip
              refine lv_iconst (v := 0) hx hb d_Wo_put_54 (by decide) ?_
              refine W.widen (k := 0) (n := 0) (by decide) (by decide) ?_
              exact W.zret (v := 0) hx hb hr (rfl) (fun t ht hW => ⟨⟨0, (p9, wn, nu, le, te), rfl, ⟨by (simp only [ptv, c3, c10, c14, c23, c42, c51, if_true, if_false, not_true_eq_false, not_false_eq_true, ite_not] <;> try simp), Or.inr h9, by exact hwn, by show wn ≤ wn + 1; omega⟩, cB.of (hP.sub [2, 3, 0, 1] rfl) (hD.sub [2, 3, 0, 1] (by decide) rfl) (hK.sub [2, 0, 1] rfl) ht hW⟩, hS.F ht⟩) hS.2.2 d_Wo_put_55
        · skip
          refine lv_iconst (v := 0) hx hb d_Wo_put_26 (by decide) ?_
          refine W.widen (k := 0) (n := 0) (by decide) (by decide) ?_
          exact W.zret (v := 0) hx hb hr (rfl) (fun t ht hW => ⟨⟨0, (0, wn, nu, le, te), rfl, ⟨by (simp only [ptv, c3, c10, c14, c23, if_true, if_false, not_true_eq_false, not_false_eq_true, ite_not] <;> try simp), Or.inl (Or.inr (Or.inr (Or.inr c23))), by exact hwn, by show wn ≤ wn + 1; omega⟩, cB.of (hP.sub [0, 1, 2, 3] rfl) (hD.sub [0, 1, 2, 3] (by decide) rfl) (hK.sub [0, 1, 2] rfl) ht hW⟩, hS.F ht⟩) hS.2.2 d_Wo_put_27
set_option maxHeartbeats 4000000 in
set_option maxRecDepth 100000 in
theorem g_Wo_putPacked (l : Launch) (dC : Nat → ClassId) (dI : Nat → Nat → Nat) (h0 w0 w1 w2 w3 w4 w5 : Nat) (wn : Nat) (nx : Int32) (wc : Nat) (cN cL cX : ClassId) (nu le te : Nat → Int32) (cU : ClassId) (un : Nat → Int32) (x y1 y2 y3 : Int32) (hwn : wn ≤ 9) (sz : Nat) : Met l y_Wo_putPacked (Cond.code y_Wo_putPacked b_Wo_putPacked 5 none :: gw) ({ frames := 3, cells := 0, slots := 0, locals := 148 }) (cP (dC, dI) [.ref h0, .int x, .int y1, .int y2, .int y3] sz [(h0, .inr (3, [.ref w0, .ref w1, .ref w2, .ref w3, .ref w4, .ref w5, .int (nI wn), .int nx, .int (nI wc)])), (w0, .inl (cN, 10, .inl nu)), (w1, .inl (cL, 10, .inl le)), (w2, .inl (cX, 120, .inl te)), (w3, .inl (cU, 12, .inl un))] [(cN, .int), (cL, .int), (cX, .int), (cU, .int)] xT) (va_Qv (fun (u : Nat × (Nat × (Nat → Int32) × (Nat → Int32) × (Nat → Int32))) => (∃ r : Int32, (r, u.2) = ptv nu le te wn (x / 16) 12 (upk y3 8 (upk y2 4 (upk y1 0 un 4) 4) 4) 0 (x - x / 16 * 16) u.1 ∧ (badT 12 0 (x - x / 16 * 16) ∨ plc nu wn (x / 16) u.1)) ∧ u.2.1 ≤ 10 ∧ u.2.1 ≤ wn + 1) (fun (u : Nat × (Nat × (Nat → Int32) × (Nat → Int32) × (Nat → Int32))) t => cB (dC, dI) (va_A [(h0, .inr (3, [.ref w0, .ref w1, .ref w2, .ref w3, .ref w4, .ref w5, .int (nI wn), .int nx, .int (nI wc)])), (w0, .inl (cN, 10, .inl nu)), (w1, .inl (cL, 10, .inl le)), (w2, .inl (cX, 120, .inl te)), (w3, .inl (cU, 12, .inl un))] sz) [(h0, .inr (3, [.ref w0, .ref w1, .ref w2, .ref w3, .ref w4, .ref w5, .int (nI u.2.1), .int nx, .int (nI wc)])), (w0, .inl (cN, 10, .inl u.2.2.1)), (w1, .inl (cL, 10, .inl u.2.2.2.1)), (w2, .inl (cX, 120, .inl u.2.2.2.2)), (w3, .inl (cU, 12, .inl (upk y3 8 (upk y2 4 (upk y1 0 un 4) 4) 4)))] [(cN, .int), (cL, .int), (cX, .int), (cU, .int)] t) (va_A [(h0, .inr (3, [.ref w0, .ref w1, .ref w2, .ref w3, .ref w4, .ref w5, .int (nI wn), .int nx, .int (nI wc)])), (w0, .inl (cN, 10, .inl nu)), (w1, .inl (cL, 10, .inl le)), (w2, .inl (cX, 120, .inl te)), (w3, .inl (cU, 12, .inl un))] sz)) 0 0 (va_A [(h0, .inr (3, [.ref w0, .ref w1, .ref w2, .ref w3, .ref w4, .ref w5, .int (nI wn), .int nx, .int (nI wc)])), (w0, .inl (cN, 10, .inl nu)), (w1, .inl (cL, 10, .inl le)), (w2, .inl (cX, 120, .inl te)), (w3, .inl (cU, 12, .inl un))] sz) := by
  refine Met.ofW (cc := b_Wo_putPacked) (maxL := 5) (ret := none) (by decide) rfl ?_
  intro p e s m args below meth c s₁ B hml hv
  obtain ⟨rfl, hsz, hP, hK, hD0, hkw, hX⟩ := hv
  have hx := B.exec
  have hb := B.bytes
  have hr := B.returns
  have hts := fun w hw => atoms_spec (ws := Cond.code y_Wo_putPacked b_Wo_putPacked 5 none :: gw) B.pre w (List.mem_cons_of_mem _ hw)
  have hown : s.vm.findClass "LineDisk$Workspace" = some m.cls := findClass_of_methodNamed B.named
  have hlocks := B.notSynchronized
  have hin := (name_of_methodNamed B.named B.method).1
  subst hsz
  have hD := hD0.self (sz := s.heap.size)
  generalize hAe : va_A [(h0, .inr (3, [.ref w0, .ref w1, .ref w2, .ref w3, .ref w4, .ref w5, .int (nI wn), .int nx, .int (nI wc)])), (w0, .inl (cN, 10, .inl nu)), (w1, .inl (cL, 10, .inl le)), (w2, .inl (cX, 120, .inl te)), (w3, .inl (cU, 12, .inl un))] s.heap.size = A at hD ⊢
  have hA : ∀ q : Nat, s.heap.size ≤ q → A q := fun q h => by rw [← hAe]; exact Or.inr h
  have hS : va_S A s.heap s.heap [] := va_S.rf
  have hl := lv_entry ([.ref h0, .int x, .int y1, .int y2, .int y3]) (n := 5) (Nat.le_of_ble_eq_true rfl)
  rw [lg_entry_eq]
  generalize (lg_sl ([.ref h0, .int x, .int y1, .int y2, .int y3]) ++ List.replicate (5 - (lg_sl ([.ref h0, .int x, .int y1, .int y2, .int y3])).length) Slot.unset).toArray = ls at hl ⊢
  have hl : lv_has ls 5 [(0, .ref h0), (1, .int x), (2, .int y1), (3, .int y2), (4, .int y3)] := hl
  have F : CallFix p m c b_Wo_putPacked 5 s ([.ref h0, .int x, .int y1, .int y2, .int y3]).toArray gw "LineDisk$Workspace" := ⟨hx, hb, hml, hown, hts⟩
  refine lv_aload_n hx hb d_Wo_putPacked_0 rfl (lv_at hl 0 rfl) ?_
  refine lv_iload_n hx hb d_Wo_putPacked_1 rfl (lv_at hl 2 rfl) ?_
  refine lv_iconst (v := 0) hx hb d_Wo_putPacked_2 (by decide) ?_
  refine go_v (wr := [(w0, .inl (cN, 10, .inl nu)), (w1, .inl (cL, 10, .inl le)), (w2, .inl (cX, 120, .inl te))]) (tr := [(cN, .int), (cL, .int), (cX, .int)]) (rV (C := "LineDisk$Workspace") (ci := 3) (q0 := 0) (b := h0) (n := 2) (As := [.int y1, .int 0]) (rest := []) F hkw (g_Wo_unpack l dC dI h0 w0 w1 w2 w3 w4 w5 wn nx wc cU (un) y1 0 (by decide) s.heap.size) xT_bl (fun _ _ _ => trivial) w_416 w_418 ws_25 w_4 w_419 rfl rfl (by decide +kernel) ⟨Nat.le_of_ble_eq_true rfl, Nat.le_of_ble_eq_true rfl⟩ (hP.sub (ws' := [(h0, .inr (3, [.ref w0, .ref w1, .ref w2, .ref w3, .ref w4, .ref w5, .int (nI wn), .int nx, .int (nI wc)])), (w3, .inl (cU, 12, .inl un))]) [0, 4] rfl) (hD.sub (ws' := [(h0, .inr (3, [.ref w0, .ref w1, .ref w2, .ref w3, .ref w4, .ref w5, .int (nI wn), .int nx, .int (nI wc)])), (w3, .inl (cU, 12, .inl un))]) [0, 4] (by decide) rfl) (hK.sub (tys' := [(cU, .int)]) [3] rfl) rfl rfl rfl rfl hl.1 rfl (Nat.le_of_ble_eq_true rfl) d_Wo_putPacked_3 ⟨by decide, by decide⟩) hP hD hK hS hA [0, 4] [1, 2, 3] [0, 1, 2] rfl rfl (by decide) (by decide) rfl (fun u H locs _ hP hD hK hS => ?_)
  have hP : va_P (dC, dI) cls [(w0, .inl (cN, 10, .inl nu)), (w1, .inl (cL, 10, .inl le)), (w2, .inl (cX, 120, .inl te)), (h0, .inr (3, [.ref w0, .ref w1, .ref w2, .ref w3, .ref w4, .ref w5, .int (nI wn), .int nx, .int (nI wc)])), (w3, .inl (cU, 12, .inl (upk y1 0 un 4)))] H := hP
  have hD : va_D A [(w0, .inl (cN, 10, .inl nu)), (w1, .inl (cL, 10, .inl le)), (w2, .inl (cX, 120, .inl te)), (h0, .inr (3, [.ref w0, .ref w1, .ref w2, .ref w3, .ref w4, .ref w5, .int (nI wn), .int nx, .int (nI wc)])), (w3, .inl (cU, 12, .inl (upk y1 0 un 4)))] := hD
  have hK : va_K (dC, dI) cls [(cN, .int), (cL, .int), (cX, .int), (cU, .int)] s := hK
  refine W.widen (k := 0) (n := 0) (by omega) (by omega) ?_
  refine lv_aload_n hx hb d_Wo_putPacked_6 rfl (lv_at hl 0 rfl) ?_
  refine lv_iload_n hx hb d_Wo_putPacked_7 rfl (lv_at hl 3 rfl) ?_
  refine lv_iconst (v := 4) hx hb d_Wo_putPacked_8 (by decide) ?_
  refine go_v (wr := [(w0, .inl (cN, 10, .inl nu)), (w1, .inl (cL, 10, .inl le)), (w2, .inl (cX, 120, .inl te))]) (tr := [(cN, .int), (cL, .int), (cX, .int)]) (rV (C := "LineDisk$Workspace") (ci := 3) (q0 := 0) (b := h0) (n := 2) (As := [.int y2, .int 4]) (rest := []) F hkw (g_Wo_unpack l dC dI h0 w0 w1 w2 w3 w4 w5 wn nx wc cU (upk y1 0 un 4) y2 4 (by decide) H.size) xT_bl (fun _ _ _ => trivial) w_416 w_418 ws_25 w_4 w_419 rfl rfl (by decide +kernel) ⟨Nat.le_of_ble_eq_true rfl, Nat.le_of_ble_eq_true rfl⟩ (hP.sub (ws' := [(h0, .inr (3, [.ref w0, .ref w1, .ref w2, .ref w3, .ref w4, .ref w5, .int (nI wn), .int nx, .int (nI wc)])), (w3, .inl (cU, 12, .inl (upk y1 0 un 4)))]) [3, 4] rfl) (hD.sub (ws' := [(h0, .inr (3, [.ref w0, .ref w1, .ref w2, .ref w3, .ref w4, .ref w5, .int (nI wn), .int nx, .int (nI wc)])), (w3, .inl (cU, 12, .inl (upk y1 0 un 4)))]) [3, 4] (by decide) rfl) (hK.sub (tys' := [(cU, .int)]) [3] rfl) rfl rfl rfl rfl hl.1 rfl (Nat.le_of_ble_eq_true rfl) d_Wo_putPacked_9 ⟨by decide, by decide⟩) hP hD hK hS hA [3, 4] [0, 1, 2] [0, 1, 2] rfl rfl (by decide) (by decide) rfl (fun u H locs _ hP hD hK hS => ?_)
  have hP : va_P (dC, dI) cls [(w0, .inl (cN, 10, .inl nu)), (w1, .inl (cL, 10, .inl le)), (w2, .inl (cX, 120, .inl te)), (h0, .inr (3, [.ref w0, .ref w1, .ref w2, .ref w3, .ref w4, .ref w5, .int (nI wn), .int nx, .int (nI wc)])), (w3, .inl (cU, 12, .inl (upk y2 4 (upk y1 0 un 4) 4)))] H := hP
  have hD : va_D A [(w0, .inl (cN, 10, .inl nu)), (w1, .inl (cL, 10, .inl le)), (w2, .inl (cX, 120, .inl te)), (h0, .inr (3, [.ref w0, .ref w1, .ref w2, .ref w3, .ref w4, .ref w5, .int (nI wn), .int nx, .int (nI wc)])), (w3, .inl (cU, 12, .inl (upk y2 4 (upk y1 0 un 4) 4)))] := hD
  have hK : va_K (dC, dI) cls [(cN, .int), (cL, .int), (cX, .int), (cU, .int)] s := hK
  refine W.widen (k := 0) (n := 0) (by omega) (by omega) ?_
  refine lv_aload_n hx hb d_Wo_putPacked_12 rfl (lv_at hl 0 rfl) ?_
  refine lv_iload hx hb d_Wo_putPacked_13 (lv_at hl 4 rfl) ?_
  refine lv_bipush (v := 8) hx hb d_Wo_putPacked_15 (by decide) ?_
  refine go_v (wr := [(w0, .inl (cN, 10, .inl nu)), (w1, .inl (cL, 10, .inl le)), (w2, .inl (cX, 120, .inl te))]) (tr := [(cN, .int), (cL, .int), (cX, .int)]) (rV (C := "LineDisk$Workspace") (ci := 3) (q0 := 0) (b := h0) (n := 2) (As := [.int y3, .int 8]) (rest := []) F hkw (g_Wo_unpack l dC dI h0 w0 w1 w2 w3 w4 w5 wn nx wc cU (upk y2 4 (upk y1 0 un 4) 4) y3 8 (by decide) H.size) xT_bl (fun _ _ _ => trivial) w_416 w_418 ws_25 w_4 w_419 rfl rfl (by decide +kernel) ⟨Nat.le_of_ble_eq_true rfl, Nat.le_of_ble_eq_true rfl⟩ (hP.sub (ws' := [(h0, .inr (3, [.ref w0, .ref w1, .ref w2, .ref w3, .ref w4, .ref w5, .int (nI wn), .int nx, .int (nI wc)])), (w3, .inl (cU, 12, .inl (upk y2 4 (upk y1 0 un 4) 4)))]) [3, 4] rfl) (hD.sub (ws' := [(h0, .inr (3, [.ref w0, .ref w1, .ref w2, .ref w3, .ref w4, .ref w5, .int (nI wn), .int nx, .int (nI wc)])), (w3, .inl (cU, 12, .inl (upk y2 4 (upk y1 0 un 4) 4)))]) [3, 4] (by decide) rfl) (hK.sub (tys' := [(cU, .int)]) [3] rfl) rfl rfl rfl rfl hl.1 rfl (Nat.le_of_ble_eq_true rfl) d_Wo_putPacked_17 ⟨by decide, by decide⟩) hP hD hK hS hA [3, 4] [0, 1, 2] [0, 1, 2] rfl rfl (by decide) (by decide) rfl (fun u H locs _ hP hD hK hS => ?_)
  have hP : va_P (dC, dI) cls [(w0, .inl (cN, 10, .inl nu)), (w1, .inl (cL, 10, .inl le)), (w2, .inl (cX, 120, .inl te)), (h0, .inr (3, [.ref w0, .ref w1, .ref w2, .ref w3, .ref w4, .ref w5, .int (nI wn), .int nx, .int (nI wc)])), (w3, .inl (cU, 12, .inl (upk y3 8 (upk y2 4 (upk y1 0 un 4) 4) 4)))] H := hP
  have hD : va_D A [(w0, .inl (cN, 10, .inl nu)), (w1, .inl (cL, 10, .inl le)), (w2, .inl (cX, 120, .inl te)), (h0, .inr (3, [.ref w0, .ref w1, .ref w2, .ref w3, .ref w4, .ref w5, .int (nI wn), .int nx, .int (nI wc)])), (w3, .inl (cU, 12, .inl (upk y3 8 (upk y2 4 (upk y1 0 un 4) 4) 4)))] := hD
  have hK : va_K (dC, dI) cls [(cN, .int), (cL, .int), (cX, .int), (cU, .int)] s := hK
  refine W.widen (k := 0) (n := 0) (by omega) (by omega) ?_
  refine lv_aload_n hx hb d_Wo_putPacked_20 rfl (lv_at hl 0 rfl) ?_
  refine lv_iload_n hx hb d_Wo_putPacked_21 rfl (lv_at hl 1 rfl) ?_
  refine lv_bipush (v := 16) hx hb d_Wo_putPacked_22 (by decide) ?_
  refine lv_idiv hx hb d_Wo_putPacked_24 (by decide) ?_
  refine lv_aload_n hx hb d_Wo_putPacked_25 rfl (lv_at hl 0 rfl) ?_
  refine va_get (D := (dC, dI)) (ci := 3) (v := .ref w3) (C := R_Wo) (T := F_Wo) (N := 9) hx hb hts in_Wo hown hK hP 3 rfl rfl 3 (by decide) (hts _ w_73) (fun _ h9 => h9) rfl d_Wo_putPacked_26 ?_
  refine lv_iconst (v := 0) hx hb d_Wo_putPacked_29 (by decide) ?_
  refine lv_iload_n hx hb d_Wo_putPacked_30 rfl (lv_at hl 1 rfl) ?_
  refine lv_bipush (v := 16) hx hb d_Wo_putPacked_31 (by decide) ?_
  refine lv_irem hx hb d_Wo_putPacked_33 (by decide) ?_
  refine go_i (wr := [(w3, .inl (cU, 12, .inl (upk y3 8 (upk y2 4 (upk y1 0 un 4) 4) 4)))]) (tr := [(cU, .int)]) (rV (C := "LineDisk$Workspace") (ci := 3) (q0 := 0) (b := h0) (n := 4) (As := [.int (x / 16), .ref w3, .int 0, .int (x - x / 16 * 16)]) (rest := []) F hkw (g_Wo_put l dC dI h0 w0 w1 w2 w3 w4 w5 wn nx wc cN cL cX nu le te (x / 16) w3 12 (upk y3 8 (upk y2 4 (upk y1 0 un 4) 4) 4) 0 (x - x / 16 * 16) (by decide) (by omega) (Or.inl hwn) H.size) xP_bl (xP_in (i := 4) (t := 3) hP hD hK rfl rfl [3, 0, 1, 2] rfl (by decide)) w_420 w_309 w_310 w_4 w_311 rfl rfl (by decide +kernel) ⟨Nat.le_of_ble_eq_true rfl, Nat.le_of_ble_eq_true rfl⟩ (hP.sub (ws' := [(h0, .inr (3, [.ref w0, .ref w1, .ref w2, .ref w3, .ref w4, .ref w5, .int (nI wn), .int nx, .int (nI wc)])), (w0, .inl (cN, 10, .inl nu)), (w1, .inl (cL, 10, .inl le)), (w2, .inl (cX, 120, .inl te))]) [3, 0, 1, 2] rfl) (hD.sub (ws' := [(h0, .inr (3, [.ref w0, .ref w1, .ref w2, .ref w3, .ref w4, .ref w5, .int (nI wn), .int nx, .int (nI wc)])), (w0, .inl (cN, 10, .inl nu)), (w1, .inl (cL, 10, .inl le)), (w2, .inl (cX, 120, .inl te))]) [3, 0, 1, 2] (by decide) rfl) (hK.sub (tys' := [(cN, .int), (cL, .int), (cX, .int)]) [0, 1, 2] rfl) rfl rfl rfl rfl hl.1 rfl (Nat.le_of_ble_eq_true rfl) d_Wo_putPacked_34 ⟨by decide, by decide⟩) hP hD hK hS hA [3, 0, 1, 2] [4] [3] rfl rfl (by decide) (by decide) rfl (fun r uu H locs hw hP hD hK hS => ?_)
  have hP : va_P (dC, dI) cls [(w3, .inl (cU, 12, .inl (upk y3 8 (upk y2 4 (upk y1 0 un 4) 4) 4))), (h0, .inr (3, [.ref w0, .ref w1, .ref w2, .ref w3, .ref w4, .ref w5, .int (nI uu.2.1), .int nx, .int (nI wc)])), (w0, .inl (cN, 10, .inl uu.2.2.1)), (w1, .inl (cL, 10, .inl uu.2.2.2.1)), (w2, .inl (cX, 120, .inl uu.2.2.2.2))] H := hP
  have hD : va_D A [(w3, .inl (cU, 12, .inl (upk y3 8 (upk y2 4 (upk y1 0 un 4) 4) 4))), (h0, .inr (3, [.ref w0, .ref w1, .ref w2, .ref w3, .ref w4, .ref w5, .int (nI uu.2.1), .int nx, .int (nI wc)])), (w0, .inl (cN, 10, .inl uu.2.2.1)), (w1, .inl (cL, 10, .inl uu.2.2.2.1)), (w2, .inl (cX, 120, .inl uu.2.2.2.2))] := hD
  have hK : va_K (dC, dI) cls [(cU, .int), (cN, .int), (cL, .int), (cX, .int)] s := hK
  refine W.widen (k := 0) (n := 0) (by omega) (by omega) ?_
  refine lv_pop hx hb d_Wo_putPacked_37 rfl ?_
  refine W.widen (k := 0) (n := 0) (by decide) (by decide) ?_
  exact W.vret hx hb hr (fun t ht hW => ⟨⟨uu, rfl, ⟨⟨r, hw.1, hw.2.1⟩, hw.2.2.1, hw.2.2.2⟩, cB.of (hP.sub [1, 2, 3, 4, 0] rfl) (hD.sub [1, 2, 3, 4, 0] (by decide) rfl) (hK.sub [1, 2, 3, 0] rfl) ht hW⟩, hS.F ht⟩) hS.2.2 d_Wo_putPacked_38
