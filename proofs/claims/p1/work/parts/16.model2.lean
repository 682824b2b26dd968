theorem mn1 {x : Int32} (h : 1 ≤ x) : ¬ x ≤ 0 := fun g => absurd (Int32.le_trans h g) (by decide)
theorem am1 {x : Int32} (h1 : ¬ x < 0) (h2 : x ≤ 11) : ¬ (x < 0 ∨ 11 < x) := fun h => h.elim h1 (fun g => Int32.lt_irrefl (Int32.lt_of_lt_of_le g h2))
theorem am2 {x : Int32} (h1 : ¬ x < 0) (h0 : ¬ x = 0) (h9 : ¬ 9 ≤ x) : vp_in (x - 1) 8 := by
  refine in8 (fun h => ?_) (fun h => ?_)
  · have e0 : (0 : Int32).toInt = 0 := by decide
    have e1 : (1 : Int32).toInt = 1 := by decide
    simp only [Int32.lt_iff_toInt_lt, ← Int32.toInt_inj] at *
    rw [e0] at h1 h0
    rw [e1] at h
    omega
  · have e8 : (8 : Int32).toInt = 8 := by decide
    have e9 : (9 : Int32).toInt = 9 := by decide
    simp only [Int32.lt_iff_toInt_lt, Int32.le_iff_toInt_le] at *
    rw [e8] at h
    rw [e9] at h9
    omega
theorem am3 {x : Int32} {g : Nat → Int32} (hg : ∀ i, i < 8 → g i = 0) (h : vp_in x 8) : g x.toNatClampNeg = 0 := by
  obtain ⟨j, hj, rfl⟩ := vp_in_of h (by decide)
  rw [nI_clamp (by omega)]
  exact hg j hj
set_option maxHeartbeats 4000000 in
set_option maxRecDepth 100000 in
theorem c_Mo_step (l : Launch) (dC : Nat → ClassId) (dI : Nat → Nat → Nat) (h0 a0 a1 a2 a3 a4 a5 a6 a7 a8 a9 : Nat) (x : Int32) (cL : ClassId) (f : Nat → Int32) (hF : ∀ i, i < 100 → f i = -1) (sz : Nat) : Met l y_Mo_step (Cond.code y_Mo_step b_Mo_step 6 (some .int) :: gw) ({ frames := 1, cells := 0, slots := 0, locals := 21 }) (cP (dC, dI) [.ref h0, .int x] sz [(h0, .inr (5, [.int 0, .ref a0, .int (-1), .int 0, .int 0, .ref a1, .ref a2, .ref a3, .int 0, .int 0, .ref a4, .int 0, .ref a5, .int 0, .int 0, .int 0, .int 0, .int 0, .int 0, .ref a6, .int 0, .ref a7, .int 0, .ref a8, .ref a9])), (a1, .inl (cL, 100, .inl f))] [(cL, .int)] xT) (va_Qi (fun (r : Int32) (u : Unit) => r = 0) (fun (u : Unit) t => cB (dC, dI) (va_A [(h0, .inr (5, [.int 0, .ref a0, .int (-1), .int 0, .int 0, .ref a1, .ref a2, .ref a3, .int 0, .int 0, .ref a4, .int 0, .ref a5, .int 0, .int 0, .int 0, .int 0, .int 0, .int 0, .ref a6, .int 0, .ref a7, .int 0, .ref a8, .ref a9])), (a1, .inl (cL, 100, .inl f))] sz) [] [] t) (va_A [(h0, .inr (5, [.int 0, .ref a0, .int (-1), .int 0, .int 0, .ref a1, .ref a2, .ref a3, .int 0, .int 0, .ref a4, .int 0, .ref a5, .int 0, .int 0, .int 0, .int 0, .int 0, .int 0, .ref a6, .int 0, .ref a7, .int 0, .ref a8, .ref a9])), (a1, .inl (cL, 100, .inl f))] sz)) 0 0 (va_A [(h0, .inr (5, [.int 0, .ref a0, .int (-1), .int 0, .int 0, .ref a1, .ref a2, .ref a3, .int 0, .int 0, .ref a4, .int 0, .ref a5, .int 0, .int 0, .int 0, .int 0, .int 0, .int 0, .ref a6, .int 0, .ref a7, .int 0, .ref a8, .ref a9])), (a1, .inl (cL, 100, .inl f))] sz) := by
  refine Met.ofW (cc := b_Mo_step) (maxL := 6) (ret := (some .int)) (by decide) rfl ?_
  intro p e s m args below meth c s₁ B hml hv
  obtain ⟨rfl, hsz, hP, hK, hD0, hkw, hX⟩ := hv
  have hx := B.exec
  have hb := B.bytes
  have hr := B.returns
  have hts := fun w hw => atoms_spec (ws := Cond.code y_Mo_step b_Mo_step 6 (some .int) :: gw) B.pre w (List.mem_cons_of_mem _ hw)
  have hown : s.vm.findClass "LineDiskModel" = some m.cls := findClass_of_methodNamed B.named
  have hlocks := B.notSynchronized
  have hin := (name_of_methodNamed B.named B.method).1
  subst hsz
  have hD := hD0.self (sz := s.heap.size)
  generalize hAe : va_A [(h0, .inr (5, [.int 0, .ref a0, .int (-1), .int 0, .int 0, .ref a1, .ref a2, .ref a3, .int 0, .int 0, .ref a4, .int 0, .ref a5, .int 0, .int 0, .int 0, .int 0, .int 0, .int 0, .ref a6, .int 0, .ref a7, .int 0, .ref a8, .ref a9])), (a1, .inl (cL, 100, .inl f))] s.heap.size = A at hD ⊢
  have hA : ∀ q : Nat, s.heap.size ≤ q → A q := fun q h => by rw [← hAe]; exact Or.inr h
  have hS : va_S A s.heap s.heap [] := va_S.rf
  have hl := lv_entry ([.ref h0, .int x]) (n := 6) (Nat.le_of_ble_eq_true rfl)
  rw [lg_entry_eq]
  generalize (lg_sl ([.ref h0, .int x]) ++ List.replicate (6 - (lg_sl ([.ref h0, .int x])).length) Slot.unset).toArray = ls at hl ⊢
  have hl : lv_has ls 6 [(0, .ref h0), (1, .int x)] := hl
  have F : CallFix p m c b_Mo_step 6 s ([.ref h0, .int x]).toArray gw "LineDiskModel" := ⟨hx, hb, hml, hown, hts⟩
  refine lv_aload_n hx hb d_Mo_step_0 rfl (lv_at hl 0 rfl) ?_
  refine lv_iconst (v := 0) hx hb d_Mo_step_1 (by decide) ?_
  refine va_put (D := (dC, dI)) (ci := 5) (v := .int 0) (ty := .int) (C := R_Mo) (T := F_Mo) (N := 25) hx hb hts in_Mo t_Mo t_Mo_ok n_Mo hown hK hP hD hS 0 rfl rfl 0 (by decide) (hts _ w_593) (fun _ h9 => h9) rfl (by decide +kernel) (rfl) (rfl) (Nat.le_of_ble_eq_true rfl) d_Mo_step_2 (fun H locs hP hD hS => ?_)
  have hP : va_P (dC, dI) cls [(h0, .inr (5, [.int 0, .ref a0, .int (-1), .int 0, .int 0, .ref a1, .ref a2, .ref a3, .int 0, .int 0, .ref a4, .int 0, .ref a5, .int 0, .int 0, .int 0, .int 0, .int 0, .int 0, .ref a6, .int 0, .ref a7, .int 0, .ref a8, .ref a9])), (a1, .inl (cL, 100, .inl f))] H := hP
  have hD : va_D A [(h0, .inr (5, [.int 0, .ref a0, .int (-1), .int 0, .int 0, .ref a1, .ref a2, .ref a3, .int 0, .int 0, .ref a4, .int 0, .ref a5, .int 0, .int 0, .int 0, .int 0, .int 0, .int 0, .ref a6, .int 0, .ref a7, .int 0, .ref a8, .ref a9])), (a1, .inl (cL, 100, .inl f))] := hD
  refine lv_aload_n hx hb d_Mo_step_5 rfl (lv_at hl 0 rfl) ?_
  refine va_get (D := (dC, dI)) (ci := 5) (v := .int 0) (C := R_Mo) (T := F_Mo) (N := 25) hx hb hts in_Mo hown hK hP 0 rfl rfl 3 (by decide) (hts _ w_596) (fun _ h9 => h9) rfl d_Mo_step_6 ?_
  refine lv_if_eq (tgt := 15) hx hb d_Mo_step_9 (by decide) (fun _ => ?_) (fun h => absurd (by decide) h)
  refine lv_iload_n hx hb d_Mo_step_15 rfl (lv_at hl 1 rfl) ?_
  refine lv_iconst (v := 1) hx hb d_Mo_step_16 (by decide) ?_
  refine lv_icmp_ge (tgt := 24) hx hb d_Mo_step_17 (by decide) (fun hlo => ?_) (fun hlo => ?_)
  · skip
    refine lv_iload_n hx hb d_Mo_step_24 rfl (lv_at hl 1 rfl) ?_
    refine lv_bipush (v := 50) hx hb d_Mo_step_25 (by decide) ?_
    refine lv_icmp_le (tgt := 35) hx hb d_Mo_step_27 (by decide) (fun hhi => ?_) (fun hhi => ?_)
    · skip
      refine lv_iload_n hx hb d_Mo_step_35 rfl (lv_at hl 1 rfl) ?_
      refine lv_istore_n (i := 2) hx hb d_Mo_step_36 rfl hl (by decide) rfl (fun ls hl => ?_)
      have hl : lv_has ls 6 [(2, .int x), (0, .ref h0), (1, .int x)] := hl
      refine lv_iconst (v := 0) hx hb d_Mo_step_37 (by decide) ?_
      refine lv_istore_n (i := 3) hx hb d_Mo_step_38 rfl hl (by decide) rfl (fun ls hl => ?_)
      have hl : lv_has ls 6 [(3, .int 0), (2, .int x), (0, .ref h0), (1, .int x)] := hl
      refine lv_iload_n hx hb d_Mo_step_39 rfl (lv_at hl 0 rfl) ?_
      refine lv_iload_n hx hb d_Mo_step_40 rfl (lv_at hl 1 rfl) ?_
      refine lv_icmp_ge (tgt := 113) hx hb d_Mo_step_41 (by decide) (fun h => absurd h (mn1 hlo)) (fun _ => ?_)
      refine lv_aload_n hx hb d_Mo_step_44 rfl (lv_at hl 2 rfl) ?_
      refine go_i (wr := []) (tr := []) (rV (C := "LineDiskModel") (ci := 5) (q0 := 0) (b := h0) (n := 0) (As := []) (rest := []) F hkw (c_Mo_nextLine l dC dI h0 a0 a1 a2 a3 a4 a5 a6 a7 a8 a9 cL f hF H.size) xT_bl (fun _ _ _ => trivial) w_697 w_699 ws_37 w_6 w_700 rfl rfl (by decide +kernel) ⟨Nat.le_of_ble_eq_true rfl, Nat.le_of_ble_eq_true rfl⟩ (hP.sub (ws' := [(h0, .inr (5, [.int 0, .ref a0, .int (-1), .int 0, .int 0, .ref a1, .ref a2, .ref a3, .int 0, .int 0, .ref a4, .int 0, .ref a5, .int 0, .int 0, .int 0, .int 0, .int 0, .int 0, .ref a6, .int 0, .ref a7, .int 0, .ref a8, .ref a9])), (a1, .inl (cL, 100, .inl f))]) [0, 1] rfl) (hD.sub (ws' := [(h0, .inr (5, [.int 0, .ref a0, .int (-1), .int 0, .int 0, .ref a1, .ref a2, .ref a3, .int 0, .int 0, .ref a4, .int 0, .ref a5, .int 0, .int 0, .int 0, .int 0, .int 0, .int 0, .ref a6, .int 0, .ref a7, .int 0, .ref a8, .ref a9])), (a1, .inl (cL, 100, .inl f))]) [0, 1] (by decide) rfl) (hK.sub (tys' := [(cL, .int)]) [0] rfl) rfl rfl rfl rfl hl.1 rfl (Nat.le_of_ble_eq_true rfl) d_Mo_step_45 ⟨by decide, by decide⟩) hP hD hK hS hA [0, 1] [] [] rfl rfl (by decide) (by decide) rfl (fun r u H locs hw hP hD hK hS => ?_)
      have hP : va_P (dC, dI) cls [(h0, .inr (5, [.int 0, .ref a0, .int (-1), .int 0, .int 0, .ref a1, .ref a2, .ref a3, .int 0, .int 0, .ref a4, .int 0, .ref a5, .int 0, .int 0, .int 0, .int 0, .int 0, .int 0, .ref a6, .int 0, .ref a7, .int 0, .ref a8, .ref a9])), (a1, .inl (cL, 100, .inl f))] H := hP
      have hD : va_D A [(h0, .inr (5, [.int 0, .ref a0, .int (-1), .int 0, .int 0, .ref a1, .ref a2, .ref a3, .int 0, .int 0, .ref a4, .int 0, .ref a5, .int 0, .int 0, .int 0, .int 0, .int 0, .int 0, .ref a6, .int 0, .ref a7, .int 0, .ref a8, .ref a9])), (a1, .inl (cL, 100, .inl f))] := hD
      have hK : va_K (dC, dI) cls [(cL, .int)] s := hK
      refine W.widen (k := 0) (n := 0) (by omega) (by omega) ?_
      subst hw
      refine lv_istore hx hb d_Mo_step_48 hl (by decide) rfl (fun ls hl => ?_)
      have hl : lv_has ls 6 [(4, .int (-1)), (3, .int 0), (2, .int x), (0, .ref h0), (1, .int x)] := hl
      refine lv_iload hx hb d_Mo_step_50 (lv_at hl 0 rfl) ?_
      refine lv_iconst (v := (-1)) hx hb d_Mo_step_52 (by decide) ?_
      refine lv_icmp_ne (tgt := 63) hx hb d_Mo_step_53 (by decide) (fun h => absurd (by decide) h) (fun _ => ?_)
      refine lv_aload_n hx hb d_Mo_step_56 rfl (lv_at hl 3 rfl) ?_
      refine lv_iconst (v := 0) hx hb d_Mo_step_57 (by decide) ?_
      refine va_put (D := (dC, dI)) (ci := 5) (v := .int 0) (ty := .int) (C := R_Mo) (T := F_Mo) (N := 25) hx hb hts in_Mo t_Mo t_Mo_ok n_Mo hown hK hP hD hS 0 rfl rfl 8 (by decide) (hts _ w_601) (fun _ h9 => h9) rfl (by decide +kernel) (rfl) (rfl) (Nat.le_of_ble_eq_true rfl) d_Mo_step_58 (fun H locs hP hD hS => ?_)
      have hP : va_P (dC, dI) cls [(h0, .inr (5, [.int 0, .ref a0, .int (-1), .int 0, .int 0, .ref a1, .ref a2, .ref a3, .int 0, .int 0, .ref a4, .int 0, .ref a5, .int 0, .int 0, .int 0, .int 0, .int 0, .int 0, .ref a6, .int 0, .ref a7, .int 0, .ref a8, .ref a9])), (a1, .inl (cL, 100, .inl f))] H := hP
      have hD : va_D A [(h0, .inr (5, [.int 0, .ref a0, .int (-1), .int 0, .int 0, .ref a1, .ref a2, .ref a3, .int 0, .int 0, .ref a4, .int 0, .ref a5, .int 0, .int 0, .int 0, .int 0, .int 0, .int 0, .ref a6, .int 0, .ref a7, .int 0, .ref a8, .ref a9])), (a1, .inl (cL, 100, .inl f))] := hD
      refine lv_iconst (v := 0) hx hb d_Mo_step_61 (by decide) ?_
      refine W.widen (k := 0) (n := 0) (by decide) (by decide) ?_
      exact W.iret (v := 0) hx hb hr (fun t ht hW => ⟨⟨0, (), rfl, rfl, cB.of (hP.sub [] rfl) (hD.sub [] (by decide) rfl) (hK.sub [] rfl) ht hW⟩, hS.F ht⟩) hS.2.2 d_Mo_step_62
    · skip
      refine lv_bipush (v := 50) hx hb d_Mo_step_30 (by decide) ?_
      refine lv_goto (tgt := 36) hx hb d_Mo_step_32 (by decide) ?_
      refine lv_istore_n (i := 2) hx hb d_Mo_step_36 rfl hl (by decide) rfl (fun ls hl => ?_)
      have hl : lv_has ls 6 [(2, .int 50), (0, .ref h0), (1, .int x)] := hl
      refine lv_iconst (v := 0) hx hb d_Mo_step_37 (by decide) ?_
      refine lv_istore_n (i := 3) hx hb d_Mo_step_38 rfl hl (by decide) rfl (fun ls hl => ?_)
      have hl : lv_has ls 6 [(3, .int 0), (2, .int 50), (0, .ref h0), (1, .int x)] := hl
      refine lv_iload_n hx hb d_Mo_step_39 rfl (lv_at hl 0 rfl) ?_
      refine lv_iload_n hx hb d_Mo_step_40 rfl (lv_at hl 1 rfl) ?_
      refine lv_icmp_ge (tgt := 113) hx hb d_Mo_step_41 (by decide) (fun h => absurd h (by decide)) (fun _ => ?_)
      refine lv_aload_n hx hb d_Mo_step_44 rfl (lv_at hl 2 rfl) ?_
      refine go_i (wr := []) (tr := []) (rV (C := "LineDiskModel") (ci := 5) (q0 := 0) (b := h0) (n := 0) (As := []) (rest := []) F hkw (c_Mo_nextLine l dC dI h0 a0 a1 a2 a3 a4 a5 a6 a7 a8 a9 cL f hF H.size) xT_bl (fun _ _ _ => trivial) w_697 w_699 ws_37 w_6 w_700 rfl rfl (by decide +kernel) ⟨Nat.le_of_ble_eq_true rfl, Nat.le_of_ble_eq_true rfl⟩ (hP.sub (ws' := [(h0, .inr (5, [.int 0, .ref a0, .int (-1), .int 0, .int 0, .ref a1, .ref a2, .ref a3, .int 0, .int 0, .ref a4, .int 0, .ref a5, .int 0, .int 0, .int 0, .int 0, .int 0, .int 0, .ref a6, .int 0, .ref a7, .int 0, .ref a8, .ref a9])), (a1, .inl (cL, 100, .inl f))]) [0, 1] rfl) (hD.sub (ws' := [(h0, .inr (5, [.int 0, .ref a0, .int (-1), .int 0, .int 0, .ref a1, .ref a2, .ref a3, .int 0, .int 0, .ref a4, .int 0, .ref a5, .int 0, .int 0, .int 0, .int 0, .int 0, .int 0, .ref a6, .int 0, .ref a7, .int 0, .ref a8, .ref a9])), (a1, .inl (cL, 100, .inl f))]) [0, 1] (by decide) rfl) (hK.sub (tys' := [(cL, .int)]) [0] rfl) rfl rfl rfl rfl hl.1 rfl (Nat.le_of_ble_eq_true rfl) d_Mo_step_45 ⟨by decide, by decide⟩) hP hD hK hS hA [0, 1] [] [] rfl rfl (by decide) (by decide) rfl (fun r u H locs hw hP hD hK hS => ?_)
      have hP : va_P (dC, dI) cls [(h0, .inr (5, [.int 0, .ref a0, .int (-1), .int 0, .int 0, .ref a1, .ref a2, .ref a3, .int 0, .int 0, .ref a4, .int 0, .ref a5, .int 0, .int 0, .int 0, .int 0, .int 0, .int 0, .ref a6, .int 0, .ref a7, .int 0, .ref a8, .ref a9])), (a1, .inl (cL, 100, .inl f))] H := hP
      have hD : va_D A [(h0, .inr (5, [.int 0, .ref a0, .int (-1), .int 0, .int 0, .ref a1, .ref a2, .ref a3, .int 0, .int 0, .ref a4, .int 0, .ref a5, .int 0, .int 0, .int 0, .int 0, .int 0, .int 0, .ref a6, .int 0, .ref a7, .int 0, .ref a8, .ref a9])), (a1, .inl (cL, 100, .inl f))] := hD
      have hK : va_K (dC, dI) cls [(cL, .int)] s := hK
      refine W.widen (k := 0) (n := 0) (by omega) (by omega) ?_
      subst hw
      refine lv_istore hx hb d_Mo_step_48 hl (by decide) rfl (fun ls hl => ?_)
      have hl : lv_has ls 6 [(4, .int (-1)), (3, .int 0), (2, .int 50), (0, .ref h0), (1, .int x)] := hl
      refine lv_iload hx hb d_Mo_step_50 (lv_at hl 0 rfl) ?_
      refine lv_iconst (v := (-1)) hx hb d_Mo_step_52 (by decide) ?_
      refine lv_icmp_ne (tgt := 63) hx hb d_Mo_step_53 (by decide) (fun h => absurd (by decide) h) (fun _ => ?_)
      refine lv_aload_n hx hb d_Mo_step_56 rfl (lv_at hl 3 rfl) ?_
      refine lv_iconst (v := 0) hx hb d_Mo_step_57 (by decide) ?_
      refine va_put (D := (dC, dI)) (ci := 5) (v := .int 0) (ty := .int) (C := R_Mo) (T := F_Mo) (N := 25) hx hb hts in_Mo t_Mo t_Mo_ok n_Mo hown hK hP hD hS 0 rfl rfl 8 (by decide) (hts _ w_601) (fun _ h9 => h9) rfl (by decide +kernel) (rfl) (rfl) (Nat.le_of_ble_eq_true rfl) d_Mo_step_58 (fun H locs hP hD hS => ?_)
      have hP : va_P (dC, dI) cls [(h0, .inr (5, [.int 0, .ref a0, .int (-1), .int 0, .int 0, .ref a1, .ref a2, .ref a3, .int 0, .int 0, .ref a4, .int 0, .ref a5, .int 0, .int 0, .int 0, .int 0, .int 0, .int 0, .ref a6, .int 0, .ref a7, .int 0, .ref a8, .ref a9])), (a1, .inl (cL, 100, .inl f))] H := hP
      have hD : va_D A [(h0, .inr (5, [.int 0, .ref a0, .int (-1), .int 0, .int 0, .ref a1, .ref a2, .ref a3, .int 0, .int 0, .ref a4, .int 0, .ref a5, .int 0, .int 0, .int 0, .int 0, .int 0, .int 0, .ref a6, .int 0, .ref a7, .int 0, .ref a8, .ref a9])), (a1, .inl (cL, 100, .inl f))] := hD
      refine lv_iconst (v := 0) hx hb d_Mo_step_61 (by decide) ?_
      refine W.widen (k := 0) (n := 0) (by decide) (by decide) ?_
      exact W.iret (v := 0) hx hb hr (fun t ht hW => ⟨⟨0, (), rfl, rfl, cB.of (hP.sub [] rfl) (hD.sub [] (by decide) rfl) (hK.sub [] rfl) ht hW⟩, hS.F ht⟩) hS.2.2 d_Mo_step_62
  · skip
    refine lv_iconst (v := 1) hx hb d_Mo_step_20 (by decide) ?_
    refine lv_goto (tgt := 36) hx hb d_Mo_step_21 (by decide) ?_
    refine lv_istore_n (i := 2) hx hb d_Mo_step_36 rfl hl (by decide) rfl (fun ls hl => ?_)
    have hl : lv_has ls 6 [(2, .int 1), (0, .ref h0), (1, .int x)] := hl
    refine lv_iconst (v := 0) hx hb d_Mo_step_37 (by decide) ?_
    refine lv_istore_n (i := 3) hx hb d_Mo_step_38 rfl hl (by decide) rfl (fun ls hl => ?_)
    have hl : lv_has ls 6 [(3, .int 0), (2, .int 1), (0, .ref h0), (1, .int x)] := hl
    refine lv_iload_n hx hb d_Mo_step_39 rfl (lv_at hl 0 rfl) ?_
    refine lv_iload_n hx hb d_Mo_step_40 rfl (lv_at hl 1 rfl) ?_
    refine lv_icmp_ge (tgt := 113) hx hb d_Mo_step_41 (by decide) (fun h => absurd h (by decide)) (fun _ => ?_)
    refine lv_aload_n hx hb d_Mo_step_44 rfl (lv_at hl 2 rfl) ?_
    refine go_i (wr := []) (tr := []) (rV (C := "LineDiskModel") (ci := 5) (q0 := 0) (b := h0) (n := 0) (As := []) (rest := []) F hkw (c_Mo_nextLine l dC dI h0 a0 a1 a2 a3 a4 a5 a6 a7 a8 a9 cL f hF H.size) xT_bl (fun _ _ _ => trivial) w_697 w_699 ws_37 w_6 w_700 rfl rfl (by decide +kernel) ⟨Nat.le_of_ble_eq_true rfl, Nat.le_of_ble_eq_true rfl⟩ (hP.sub (ws' := [(h0, .inr (5, [.int 0, .ref a0, .int (-1), .int 0, .int 0, .ref a1, .ref a2, .ref a3, .int 0, .int 0, .ref a4, .int 0, .ref a5, .int 0, .int 0, .int 0, .int 0, .int 0, .int 0, .ref a6, .int 0, .ref a7, .int 0, .ref a8, .ref a9])), (a1, .inl (cL, 100, .inl f))]) [0, 1] rfl) (hD.sub (ws' := [(h0, .inr (5, [.int 0, .ref a0, .int (-1), .int 0, .int 0, .ref a1, .ref a2, .ref a3, .int 0, .int 0, .ref a4, .int 0, .ref a5, .int 0, .int 0, .int 0, .int 0, .int 0, .int 0, .ref a6, .int 0, .ref a7, .int 0, .ref a8, .ref a9])), (a1, .inl (cL, 100, .inl f))]) [0, 1] (by decide) rfl) (hK.sub (tys' := [(cL, .int)]) [0] rfl) rfl rfl rfl rfl hl.1 rfl (Nat.le_of_ble_eq_true rfl) d_Mo_step_45 ⟨by decide, by decide⟩) hP hD hK hS hA [0, 1] [] [] rfl rfl (by decide) (by decide) rfl (fun r u H locs hw hP hD hK hS => ?_)
    have hP : va_P (dC, dI) cls [(h0, .inr (5, [.int 0, .ref a0, .int (-1), .int 0, .int 0, .ref a1, .ref a2, .ref a3, .int 0, .int 0, .ref a4, .int 0, .ref a5, .int 0, .int 0, .int 0, .int 0, .int 0, .int 0, .ref a6, .int 0, .ref a7, .int 0, .ref a8, .ref a9])), (a1, .inl (cL, 100, .inl f))] H := hP
    have hD : va_D A [(h0, .inr (5, [.int 0, .ref a0, .int (-1), .int 0, .int 0, .ref a1, .ref a2, .ref a3, .int 0, .int 0, .ref a4, .int 0, .ref a5, .int 0, .int 0, .int 0, .int 0, .int 0, .int 0, .ref a6, .int 0, .ref a7, .int 0, .ref a8, .ref a9])), (a1, .inl (cL, 100, .inl f))] := hD
    have hK : va_K (dC, dI) cls [(cL, .int)] s := hK
    refine W.widen (k := 0) (n := 0) (by omega) (by omega) ?_
    subst hw
    refine lv_istore hx hb d_Mo_step_48 hl (by decide) rfl (fun ls hl => ?_)
    have hl : lv_has ls 6 [(4, .int (-1)), (3, .int 0), (2, .int 1), (0, .ref h0), (1, .int x)] := hl
    refine lv_iload hx hb d_Mo_step_50 (lv_at hl 0 rfl) ?_
    refine lv_iconst (v := (-1)) hx hb d_Mo_step_52 (by decide) ?_
    refine lv_icmp_ne (tgt := 63) hx hb d_Mo_step_53 (by decide) (fun h => absurd (by decide) h) (fun _ => ?_)
    refine lv_aload_n hx hb d_Mo_step_56 rfl (lv_at hl 3 rfl) ?_
    refine lv_iconst (v := 0) hx hb d_Mo_step_57 (by decide) ?_
    refine va_put (D := (dC, dI)) (ci := 5) (v := .int 0) (ty := .int) (C := R_Mo) (T := F_Mo) (N := 25) hx hb hts in_Mo t_Mo t_Mo_ok n_Mo hown hK hP hD hS 0 rfl rfl 8 (by decide) (hts _ w_601) (fun _ h9 => h9) rfl (by decide +kernel) (rfl) (rfl) (Nat.le_of_ble_eq_true rfl) d_Mo_step_58 (fun H locs hP hD hS => ?_)
    have hP : va_P (dC, dI) cls [(h0, .inr (5, [.int 0, .ref a0, .int (-1), .int 0, .int 0, .ref a1, .ref a2, .ref a3, .int 0, .int 0, .ref a4, .int 0, .ref a5, .int 0, .int 0, .int 0, .int 0, .int 0, .int 0, .ref a6, .int 0, .ref a7, .int 0, .ref a8, .ref a9])), (a1, .inl (cL, 100, .inl f))] H := hP
    have hD : va_D A [(h0, .inr (5, [.int 0, .ref a0, .int (-1), .int 0, .int 0, .ref a1, .ref a2, .ref a3, .int 0, .int 0, .ref a4, .int 0, .ref a5, .int 0, .int 0, .int 0, .int 0, .int 0, .int 0, .ref a6, .int 0, .ref a7, .int 0, .ref a8, .ref a9])), (a1, .inl (cL, 100, .inl f))] := hD
    refine lv_iconst (v := 0) hx hb d_Mo_step_61 (by decide) ?_
    refine W.widen (k := 0) (n := 0) (by decide) (by decide) ?_
    exact W.iret (v := 0) hx hb hr (fun t ht hW => ⟨⟨0, (), rfl, rfl, cB.of (hP.sub [] rfl) (hD.sub [] (by decide) rfl) (hK.sub [] rfl) ht hW⟩, hS.F ht⟩) hS.2.2 d_Mo_step_62
set_option maxHeartbeats 4000000 in
set_option maxRecDepth 100000 in
theorem c_Mo_about (l : Launch) (dC : Nat → ClassId) (dI : Nat → Nat → Nat) (h0 a0 a1 a2 a3 a4 a5 a6 a7 a8 a9 : Nat) (x : Int32) (cL : ClassId) (f : Nat → Int32) (hF : ∀ i, i < 100 → f i = -1) (cV : ClassId) (g : Nat → Int32) (hG : ∀ i, i < 8 → g i = 0) (sz : Nat) : Met l y_Mo_about (Cond.code y_Mo_about b_Mo_about 3 (some .int) :: gw) ({ frames := 1, cells := 0, slots := 0, locals := 22 }) (cP (dC, dI) [.ref h0, .int x] sz [(h0, .inr (5, [.int 0, .ref a0, .int (-1), .int 0, .int 0, .ref a1, .ref a2, .ref a3, .int 0, .int 0, .ref a4, .int 0, .ref a5, .int 0, .int 0, .int 0, .int 0, .int 0, .int 0, .ref a6, .int 0, .ref a7, .int 0, .ref a8, .ref a9])), (a1, .inl (cL, 100, .inl f)), (a3, .inl (cV, 8, .inl g))] [(cL, .int), (cV, .int)] xT) (va_Qi (fun (r : Int32) (u : Unit) => (x < 0 ∨ 11 < x → r = -1) ∧ (¬ (x < 0 ∨ 11 < x) → r = 0)) (fun (u : Unit) t => cB (dC, dI) (va_A [(h0, .inr (5, [.int 0, .ref a0, .int (-1), .int 0, .int 0, .ref a1, .ref a2, .ref a3, .int 0, .int 0, .ref a4, .int 0, .ref a5, .int 0, .int 0, .int 0, .int 0, .int 0, .int 0, .ref a6, .int 0, .ref a7, .int 0, .ref a8, .ref a9])), (a1, .inl (cL, 100, .inl f)), (a3, .inl (cV, 8, .inl g))] sz) [] [] t) (va_A [(h0, .inr (5, [.int 0, .ref a0, .int (-1), .int 0, .int 0, .ref a1, .ref a2, .ref a3, .int 0, .int 0, .ref a4, .int 0, .ref a5, .int 0, .int 0, .int 0, .int 0, .int 0, .int 0, .ref a6, .int 0, .ref a7, .int 0, .ref a8, .ref a9])), (a1, .inl (cL, 100, .inl f)), (a3, .inl (cV, 8, .inl g))] sz)) 0 0 (va_A [(h0, .inr (5, [.int 0, .ref a0, .int (-1), .int 0, .int 0, .ref a1, .ref a2, .ref a3, .int 0, .int 0, .ref a4, .int 0, .ref a5, .int 0, .int 0, .int 0, .int 0, .int 0, .int 0, .ref a6, .int 0, .ref a7, .int 0, .ref a8, .ref a9])), (a1, .inl (cL, 100, .inl f)), (a3, .inl (cV, 8, .inl g))] sz) := by
  refine Met.ofW (cc := b_Mo_about) (maxL := 3) (ret := (some .int)) (by decide) rfl ?_
  intro p e s m args below meth c s₁ B hml hv
  obtain ⟨rfl, hsz, hP, hK, hD0, hkw, hX⟩ := hv
  have hx := B.exec
  have hb := B.bytes
  have hr := B.returns
  have hts := fun w hw => atoms_spec (ws := Cond.code y_Mo_about b_Mo_about 3 (some .int) :: gw) B.pre w (List.mem_cons_of_mem _ hw)
  have hown : s.vm.findClass "LineDiskModel" = some m.cls := findClass_of_methodNamed B.named
  have hlocks := B.notSynchronized
  have hin := (name_of_methodNamed B.named B.method).1
  subst hsz
  have hD := hD0.self (sz := s.heap.size)
  generalize hAe : va_A [(h0, .inr (5, [.int 0, .ref a0, .int (-1), .int 0, .int 0, .ref a1, .ref a2, .ref a3, .int 0, .int 0, .ref a4, .int 0, .ref a5, .int 0, .int 0, .int 0, .int 0, .int 0, .int 0, .ref a6, .int 0, .ref a7, .int 0, .ref a8, .ref a9])), (a1, .inl (cL, 100, .inl f)), (a3, .inl (cV, 8, .inl g))] s.heap.size = A at hD ⊢
  have hA : ∀ q : Nat, s.heap.size ≤ q → A q := fun q h => by rw [← hAe]; exact Or.inr h
  have hS : va_S A s.heap s.heap [] := va_S.rf
  have hl := lv_entry ([.ref h0, .int x]) (n := 3) (Nat.le_of_ble_eq_true rfl)
  rw [lg_entry_eq]
  generalize (lg_sl ([.ref h0, .int x]) ++ List.replicate (3 - (lg_sl ([.ref h0, .int x])).length) Slot.unset).toArray = ls at hl ⊢
  have hl : lv_has ls 3 [(0, .ref h0), (1, .int x)] := hl
  have F : CallFix p m c b_Mo_about 3 s ([.ref h0, .int x]).toArray gw "LineDiskModel" := ⟨hx, hb, hml, hown, hts⟩
  refine lv_aload_n hx hb d_Mo_about_0 rfl (lv_at hl 0 rfl) ?_
  refine lv_iconst (v := 0) hx hb d_Mo_about_1 (by decide) ?_
  refine va_put (D := (dC, dI)) (ci := 5) (v := .int 0) (ty := .int) (C := R_Mo) (T := F_Mo) (N := 25) hx hb hts in_Mo t_Mo t_Mo_ok n_Mo hown hK hP hD hS 0 rfl rfl 0 (by decide) (hts _ w_593) (fun _ h9 => h9) rfl (by decide +kernel) (rfl) (rfl) (Nat.le_of_ble_eq_true rfl) d_Mo_about_2 (fun H locs hP hD hS => ?_)
  have hP : va_P (dC, dI) cls [(h0, .inr (5, [.int 0, .ref a0, .int (-1), .int 0, .int 0, .ref a1, .ref a2, .ref a3, .int 0, .int 0, .ref a4, .int 0, .ref a5, .int 0, .int 0, .int 0, .int 0, .int 0, .int 0, .ref a6, .int 0, .ref a7, .int 0, .ref a8, .ref a9])), (a1, .inl (cL, 100, .inl f)), (a3, .inl (cV, 8, .inl g))] H := hP
  have hD : va_D A [(h0, .inr (5, [.int 0, .ref a0, .int (-1), .int 0, .int 0, .ref a1, .ref a2, .ref a3, .int 0, .int 0, .ref a4, .int 0, .ref a5, .int 0, .int 0, .int 0, .int 0, .int 0, .int 0, .ref a6, .int 0, .ref a7, .int 0, .ref a8, .ref a9])), (a1, .inl (cL, 100, .inl f)), (a3, .inl (cV, 8, .inl g))] := hD
  refine lv_iload_n hx hb d_Mo_about_5 rfl (lv_at hl 1 rfl) ?_
  refine lv_if_lt (tgt := 15) hx hb d_Mo_about_6 (by decide) (fun hneg => ?_) (fun hneg => ?_)
  · skip
    refine lv_iconst (v := (-1)) hx hb d_Mo_about_15 (by decide) ?_
    refine W.widen (k := 0) (n := 0) (by decide) (by decide) ?_
    exact W.iret (v := (-1)) hx hb hr (fun t ht hW => ⟨⟨(-1), (), rfl, ⟨fun _ => rfl, fun h => absurd (Or.inl hneg) h⟩, cB.of (hP.sub [] rfl) (hD.sub [] (by decide) rfl) (hK.sub [] rfl) ht hW⟩, hS.F ht⟩) hS.2.2 d_Mo_about_16
  · skip
    refine lv_iload_n hx hb d_Mo_about_9 rfl (lv_at hl 1 rfl) ?_
    refine lv_bipush (v := 11) hx hb d_Mo_about_10 (by decide) ?_
    refine lv_icmp_le (tgt := 17) hx hb d_Mo_about_12 (by decide) (fun hle => ?_) (fun hle => ?_)
    · skip
      refine lv_iload_n hx hb d_Mo_about_17 rfl (lv_at hl 1 rfl) ?_
      refine lv_bipush (v := 11) hx hb d_Mo_about_18 (by decide) ?_
      refine lv_icmp_ne (tgt := 28) hx hb d_Mo_about_20 (by decide) (fun h11 => ?_) (fun h11 => ?_)
      · skip
        refine lv_aload_n hx hb d_Mo_about_28 rfl (lv_at hl 0 rfl) ?_
        refine va_get (D := (dC, dI)) (ci := 5) (v := .int 0) (C := R_Mo) (T := F_Mo) (N := 25) hx hb hts in_Mo hown hK hP 0 rfl rfl 3 (by decide) (hts _ w_596) (fun _ h9 => h9) rfl d_Mo_about_29 ?_
        refine lv_if_eq (tgt := 38) hx hb d_Mo_about_32 (by decide) (fun _ => ?_) (fun h => absurd (by decide) h)
        refine lv_aload_n hx hb d_Mo_about_38 rfl (lv_at hl 0 rfl) ?_
        refine go_i (wr := [(a3, .inl (cV, 8, .inl g))]) (tr := [(cV, .int)]) (rV (C := "LineDiskModel") (ci := 5) (q0 := 0) (b := h0) (n := 0) (As := []) (rest := []) F hkw (c_Mo_nextLine l dC dI h0 a0 a1 a2 a3 a4 a5 a6 a7 a8 a9 cL f hF H.size) xT_bl (fun _ _ _ => trivial) w_697 w_699 ws_37 w_6 w_700 rfl rfl (by decide +kernel) ⟨Nat.le_of_ble_eq_true rfl, Nat.le_of_ble_eq_true rfl⟩ (hP.sub (ws' := [(h0, .inr (5, [.int 0, .ref a0, .int (-1), .int 0, .int 0, .ref a1, .ref a2, .ref a3, .int 0, .int 0, .ref a4, .int 0, .ref a5, .int 0, .int 0, .int 0, .int 0, .int 0, .int 0, .ref a6, .int 0, .ref a7, .int 0, .ref a8, .ref a9])), (a1, .inl (cL, 100, .inl f))]) [0, 1] rfl) (hD.sub (ws' := [(h0, .inr (5, [.int 0, .ref a0, .int (-1), .int 0, .int 0, .ref a1, .ref a2, .ref a3, .int 0, .int 0, .ref a4, .int 0, .ref a5, .int 0, .int 0, .int 0, .int 0, .int 0, .int 0, .ref a6, .int 0, .ref a7, .int 0, .ref a8, .ref a9])), (a1, .inl (cL, 100, .inl f))]) [0, 1] (by decide) rfl) (hK.sub (tys' := [(cL, .int)]) [0] rfl) rfl rfl rfl rfl hl.1 rfl (Nat.le_of_ble_eq_true rfl) d_Mo_about_39 ⟨by decide, by decide⟩) hP hD hK hS hA [0, 1] [2] [1] rfl rfl (by decide) (by decide) rfl (fun r u H locs hw hP hD hK hS => ?_)
        have hP : va_P (dC, dI) cls [(a3, .inl (cV, 8, .inl g)), (h0, .inr (5, [.int 0, .ref a0, .int (-1), .int 0, .int 0, .ref a1, .ref a2, .ref a3, .int 0, .int 0, .ref a4, .int 0, .ref a5, .int 0, .int 0, .int 0, .int 0, .int 0, .int 0, .ref a6, .int 0, .ref a7, .int 0, .ref a8, .ref a9])), (a1, .inl (cL, 100, .inl f))] H := hP
        have hD : va_D A [(a3, .inl (cV, 8, .inl g)), (h0, .inr (5, [.int 0, .ref a0, .int (-1), .int 0, .int 0, .ref a1, .ref a2, .ref a3, .int 0, .int 0, .ref a4, .int 0, .ref a5, .int 0, .int 0, .int 0, .int 0, .int 0, .int 0, .ref a6, .int 0, .ref a7, .int 0, .ref a8, .ref a9])), (a1, .inl (cL, 100, .inl f))] := hD
        have hK : va_K (dC, dI) cls [(cV, .int), (cL, .int)] s := hK
        refine W.widen (k := 0) (n := 0) (by omega) (by omega) ?_
        subst hw
        refine lv_istore_n (i := 2) hx hb d_Mo_about_42 rfl hl (by decide) rfl (fun ls hl => ?_)
        have hl : lv_has ls 3 [(2, .int (-1)), (0, .ref h0), (1, .int x)] := hl
        refine lv_iload_n hx hb d_Mo_about_43 rfl (lv_at hl 2 rfl) ?_
        refine lv_if_ne (tgt := 54) hx hb d_Mo_about_44 (by decide) (fun hz0 => ?_) (fun hz0 => ?_)
        · skip
          refine lv_iload_n hx hb d_Mo_about_54 rfl (lv_at hl 2 rfl) ?_
          refine lv_bipush (v := 9) hx hb d_Mo_about_55 (by decide) ?_
          refine lv_icmp_ge (tgt := 71) hx hb d_Mo_about_57 (by decide) (fun h9 => ?_) (fun h9 => ?_)
          · skip
            refine lv_iload_n hx hb d_Mo_about_71 rfl (lv_at hl 2 rfl) ?_
            refine lv_bipush (v := 10) hx hb d_Mo_about_72 (by decide) ?_
            refine lv_icmp_ne (tgt := 84) hx hb d_Mo_about_74 (by decide) (fun h10 => ?_) (fun h10 => ?_)
            · skip
              refine lv_iload_n hx hb d_Mo_about_84 rfl (lv_at hl 0 rfl) ?_
              refine lv_iconst (v := (-1)) hx hb d_Mo_about_85 (by decide) ?_
              refine lv_icmp_ne (tgt := 93) hx hb d_Mo_about_86 (by decide) (fun h => absurd (by decide) h) (fun _ => ?_)
              refine lv_iconst (v := 0) hx hb d_Mo_about_89 (by decide) ?_
              refine lv_goto (tgt := 94) hx hb d_Mo_about_90 (by decide) ?_
              refine W.widen (k := 0) (n := 0) (by decide) (by decide) ?_
              exact W.iret (v := 0) hx hb hr (fun t ht hW => ⟨⟨0, (), rfl, ⟨fun h => absurd h (am1 hneg hle), fun _ => rfl⟩, cB.of (hP.sub [] rfl) (hD.sub [] (by decide) rfl) (hK.sub [] rfl) ht hW⟩, hS.F ht⟩) hS.2.2 d_Mo_about_94
            · skip
              refine lv_aload_n hx hb d_Mo_about_77 rfl (lv_at hl 1 rfl) ?_
              refine va_get (D := (dC, dI)) (ci := 5) (v := .int 0) (C := R_Mo) (T := F_Mo) (N := 25) hx hb hts in_Mo hown hK hP 1 rfl rfl 11 (by decide) (hts _ w_604) (fun _ h9 => h9) rfl d_Mo_about_78 ?_
              refine lv_goto (tgt := 94) hx hb d_Mo_about_81 (by decide) ?_
              refine W.widen (k := 0) (n := 0) (by decide) (by decide) ?_
              exact W.iret (v := 0) hx hb hr (fun t ht hW => ⟨⟨0, (), rfl, ⟨fun h => absurd h (am1 hneg hle), fun _ => rfl⟩, cB.of (hP.sub [] rfl) (hD.sub [] (by decide) rfl) (hK.sub [] rfl) ht hW⟩, hS.F ht⟩) hS.2.2 d_Mo_about_94
          · skip
            refine lv_aload_n hx hb d_Mo_about_60 rfl (lv_at hl 1 rfl) ?_
            refine va_get (D := (dC, dI)) (ci := 5) (v := .ref a3) (C := R_Mo) (T := F_Mo) (N := 25) hx hb hts in_Mo hown hK hP 1 rfl rfl 7 (by decide) (hts _ w_600) (fun _ h9 => h9) rfl d_Mo_about_61 ?_
            refine lv_iload_n hx hb d_Mo_about_64 rfl (lv_at hl 2 rfl) ?_
            refine lv_iconst (v := 1) hx hb d_Mo_about_65 (by decide) ?_
            refine lv_isub hx hb d_Mo_about_66 ?_
            refine va_iald hx hb hK hP 0 0 rfl rfl (am2 hneg hz0 h9) d_Mo_about_67 ?_
            refine tv (x2 := 0) (by exact am3 hG (am2 hneg hz0 h9)) ?_
            refine lv_goto (tgt := 94) hx hb d_Mo_about_68 (by decide) ?_
            refine W.widen (k := 0) (n := 0) (by decide) (by decide) ?_
            exact W.iret (v := 0) hx hb hr (fun t ht hW => ⟨⟨0, (), rfl, ⟨fun h => absurd h (am1 hneg hle), fun _ => rfl⟩, cB.of (hP.sub [] rfl) (hD.sub [] (by decide) rfl) (hK.sub [] rfl) ht hW⟩, hS.F ht⟩) hS.2.2 d_Mo_about_94
        · skip
          refine lv_aload_n hx hb d_Mo_about_47 rfl (lv_at hl 1 rfl) ?_
          refine go_i (wr := [(a3, .inl (cV, 8, .inl g))]) (tr := [(cV, .int)]) (rV (C := "LineDiskModel") (ci := 5) (q0 := 0) (b := h0) (n := 0) (As := []) (rest := []) F hkw (c_Mo_lines l dC dI h0 a0 a1 a2 a3 a4 a5 a6 a7 a8 a9 cL f hF H.size) xT_bl (fun _ _ _ => trivial) w_801 w_803 ws_59 w_6 w_804 rfl rfl (by decide +kernel) ⟨Nat.le_of_ble_eq_true rfl, Nat.le_of_ble_eq_true rfl⟩ (hP.sub (ws' := [(h0, .inr (5, [.int 0, .ref a0, .int (-1), .int 0, .int 0, .ref a1, .ref a2, .ref a3, .int 0, .int 0, .ref a4, .int 0, .ref a5, .int 0, .int 0, .int 0, .int 0, .int 0, .int 0, .ref a6, .int 0, .ref a7, .int 0, .ref a8, .ref a9])), (a1, .inl (cL, 100, .inl f))]) [1, 2] rfl) (hD.sub (ws' := [(h0, .inr (5, [.int 0, .ref a0, .int (-1), .int 0, .int 0, .ref a1, .ref a2, .ref a3, .int 0, .int 0, .ref a4, .int 0, .ref a5, .int 0, .int 0, .int 0, .int 0, .int 0, .int 0, .ref a6, .int 0, .ref a7, .int 0, .ref a8, .ref a9])), (a1, .inl (cL, 100, .inl f))]) [1, 2] (by decide) rfl) (hK.sub (tys' := [(cL, .int)]) [1] rfl) rfl rfl rfl rfl hl.1 rfl (Nat.le_of_ble_eq_true rfl) d_Mo_about_48 ⟨by decide, by decide⟩) hP hD hK hS hA [1, 2] [0] [0] rfl rfl (by decide) (by decide) rfl (fun r u H locs hw hP hD hK hS => ?_)
          have hP : va_P (dC, dI) cls [(a3, .inl (cV, 8, .inl g)), (h0, .inr (5, [.int 0, .ref a0, .int (-1), .int 0, .int 0, .ref a1, .ref a2, .ref a3, .int 0, .int 0, .ref a4, .int 0, .ref a5, .int 0, .int 0, .int 0, .int 0, .int 0, .int 0, .ref a6, .int 0, .ref a7, .int 0, .ref a8, .ref a9])), (a1, .inl (cL, 100, .inl f))] H := hP
          have hD : va_D A [(a3, .inl (cV, 8, .inl g)), (h0, .inr (5, [.int 0, .ref a0, .int (-1), .int 0, .int 0, .ref a1, .ref a2, .ref a3, .int 0, .int 0, .ref a4, .int 0, .ref a5, .int 0, .int 0, .int 0, .int 0, .int 0, .int 0, .ref a6, .int 0, .ref a7, .int 0, .ref a8, .ref a9])), (a1, .inl (cL, 100, .inl f))] := hD
          have hK : va_K (dC, dI) cls [(cV, .int), (cL, .int)] s := hK
          refine W.widen (k := 0) (n := 0) (by omega) (by omega) ?_
          subst hw
          refine lv_goto (tgt := 94) hx hb d_Mo_about_51 (by decide) ?_
          refine W.widen (k := 0) (n := 0) (by decide) (by decide) ?_
          exact W.iret (v := 0) hx hb hr (fun t ht hW => ⟨⟨0, (), rfl, ⟨fun h => absurd h (am1 hneg hle), fun _ => rfl⟩, cB.of (hP.sub [] rfl) (hD.sub [] (by decide) rfl) (hK.sub [] rfl) ht hW⟩, hS.F ht⟩) hS.2.2 d_Mo_about_94
      · skip
        refine lv_aload_n hx hb d_Mo_about_23 rfl (lv_at hl 0 rfl) ?_
        refine va_get (D := (dC, dI)) (ci := 5) (v := .int 0) (C := R_Mo) (T := F_Mo) (N := 25) hx hb hts in_Mo hown hK hP 0 rfl rfl 4 (by decide) (hts _ w_597) (fun _ h9 => h9) rfl d_Mo_about_24 ?_
        refine W.widen (k := 0) (n := 0) (by decide) (by decide) ?_
        exact W.iret (v := 0) hx hb hr (fun t ht hW => ⟨⟨0, (), rfl, ⟨fun h => absurd h (am1 hneg hle), fun _ => rfl⟩, cB.of (hP.sub [] rfl) (hD.sub [] (by decide) rfl) (hK.sub [] rfl) ht hW⟩, hS.F ht⟩) hS.2.2 d_Mo_about_27
    · skip
      refine lv_iconst (v := (-1)) hx hb d_Mo_about_15 (by decide) ?_
      refine W.widen (k := 0) (n := 0) (by decide) (by decide) ?_
      exact W.iret (v := (-1)) hx hb hr (fun t ht hW => ⟨⟨(-1), (), rfl, ⟨fun _ => rfl, fun h => absurd (Or.inr (Int32.not_le.mp hle)) h⟩, cB.of (hP.sub [] rfl) (hD.sub [] (by decide) rfl) (hK.sub [] rfl) ht hW⟩, hS.F ht⟩) hS.2.2 d_Mo_about_16
set_option maxHeartbeats 4000000 in
set_option maxRecDepth 100000 in
theorem c_Mo_recover (l : Launch) (dC : Nat → ClassId) (dI : Nat → Nat → Nat) (h0 a0 a1 a2 a3 a4 a5 a6 a7 a8 a9 : Nat) (cA cL cV : ClassId) (f g : Nat → Int32) (sz : Nat) : Met l y_Mo_recover (Cond.code y_Mo_recover b_Mo_recover 6 (some .int) :: gw) ({ frames := 1, cells := 0, slots := 0, locals := 21 }) (cP (dC, dI) [.ref h0] sz [(h0, .inr (5, [.int 0, .ref a0, .int (-1), .int 0, .int 0, .ref a1, .ref a2, .ref a3, .int 0, .int 0, .ref a4, .int 0, .ref a5, .int 0, .int 0, .int 0, .int 0, .int 0, .int 0, .ref a6, .int 0, .ref a7, .int 0, .ref a8, .ref a9])), (a0, .inl (cA, 512, .inl (fun _ => 0))), (a1, .inl (cL, 100, .inl f)), (a3, .inl (cV, 8, .inl g))] [(cA, .int), (cL, .int), (cV, .int)] xT) (va_Qi (fun (r : Int32) (u : Unit) => r = 8) (fun (u : Unit) t => cB (dC, dI) (va_A [(h0, .inr (5, [.int 0, .ref a0, .int (-1), .int 0, .int 0, .ref a1, .ref a2, .ref a3, .int 0, .int 0, .ref a4, .int 0, .ref a5, .int 0, .int 0, .int 0, .int 0, .int 0, .int 0, .ref a6, .int 0, .ref a7, .int 0, .ref a8, .ref a9])), (a0, .inl (cA, 512, .inl (fun _ => 0))), (a1, .inl (cL, 100, .inl f)), (a3, .inl (cV, 8, .inl g))] sz) [] [] t) (va_A [(h0, .inr (5, [.int 0, .ref a0, .int (-1), .int 0, .int 0, .ref a1, .ref a2, .ref a3, .int 0, .int 0, .ref a4, .int 0, .ref a5, .int 0, .int 0, .int 0, .int 0, .int 0, .int 0, .ref a6, .int 0, .ref a7, .int 0, .ref a8, .ref a9])), (a0, .inl (cA, 512, .inl (fun _ => 0))), (a1, .inl (cL, 100, .inl f)), (a3, .inl (cV, 8, .inl g))] sz)) 0 0 (va_A [(h0, .inr (5, [.int 0, .ref a0, .int (-1), .int 0, .int 0, .ref a1, .ref a2, .ref a3, .int 0, .int 0, .ref a4, .int 0, .ref a5, .int 0, .int 0, .int 0, .int 0, .int 0, .int 0, .ref a6, .int 0, .ref a7, .int 0, .ref a8, .ref a9])), (a0, .inl (cA, 512, .inl (fun _ => 0))), (a1, .inl (cL, 100, .inl f)), (a3, .inl (cV, 8, .inl g))] sz) := by
  refine Met.ofW (cc := b_Mo_recover) (maxL := 6) (ret := (some .int)) (by decide) rfl ?_
  intro p e s m args below meth c s₁ B hml hv
  obtain ⟨rfl, hsz, hP, hK, hD0, hkw, hX⟩ := hv
  have hx := B.exec
  have hb := B.bytes
  have hr := B.returns
  have hts := fun w hw => atoms_spec (ws := Cond.code y_Mo_recover b_Mo_recover 6 (some .int) :: gw) B.pre w (List.mem_cons_of_mem _ hw)
  have hown : s.vm.findClass "LineDiskModel" = some m.cls := findClass_of_methodNamed B.named
  have hlocks := B.notSynchronized
  have hin := (name_of_methodNamed B.named B.method).1
  subst hsz
  have hD := hD0.self (sz := s.heap.size)
  generalize hAe : va_A [(h0, .inr (5, [.int 0, .ref a0, .int (-1), .int 0, .int 0, .ref a1, .ref a2, .ref a3, .int 0, .int 0, .ref a4, .int 0, .ref a5, .int 0, .int 0, .int 0, .int 0, .int 0, .int 0, .ref a6, .int 0, .ref a7, .int 0, .ref a8, .ref a9])), (a0, .inl (cA, 512, .inl (fun _ => 0))), (a1, .inl (cL, 100, .inl f)), (a3, .inl (cV, 8, .inl g))] s.heap.size = A at hD ⊢
  have hA : ∀ q : Nat, s.heap.size ≤ q → A q := fun q h => by rw [← hAe]; exact Or.inr h
  have hS : va_S A s.heap s.heap [] := va_S.rf
  have hl := lv_entry ([.ref h0]) (n := 6) (Nat.le_of_ble_eq_true rfl)
  rw [lg_entry_eq]
  generalize (lg_sl ([.ref h0]) ++ List.replicate (6 - (lg_sl ([.ref h0])).length) Slot.unset).toArray = ls at hl ⊢
  have hl : lv_has ls 6 [(0, .ref h0)] := hl
  have F : CallFix p m c b_Mo_recover 6 s ([.ref h0]).toArray gw "LineDiskModel" := ⟨hx, hb, hml, hown, hts⟩
  refine lv_aload_n hx hb d_Mo_recover_0 rfl (lv_at hl 0 rfl) ?_
  refine lv_iconst (v := 0) hx hb d_Mo_recover_1 (by decide) ?_
  refine va_put (D := (dC, dI)) (ci := 5) (v := .int 0) (ty := .int) (C := R_Mo) (T := F_Mo) (N := 25) hx hb hts in_Mo t_Mo t_Mo_ok n_Mo hown hK hP hD hS 0 rfl rfl 0 (by decide) (hts _ w_593) (fun _ h9 => h9) rfl (by decide +kernel) (rfl) (rfl) (Nat.le_of_ble_eq_true rfl) d_Mo_recover_2 (fun H locs hP hD hS => ?_)
  have hP : va_P (dC, dI) cls [(h0, .inr (5, [.int 0, .ref a0, .int (-1), .int 0, .int 0, .ref a1, .ref a2, .ref a3, .int 0, .int 0, .ref a4, .int 0, .ref a5, .int 0, .int 0, .int 0, .int 0, .int 0, .int 0, .ref a6, .int 0, .ref a7, .int 0, .ref a8, .ref a9])), (a0, .inl (cA, 512, .inl (fun _ => 0))), (a1, .inl (cL, 100, .inl f)), (a3, .inl (cV, 8, .inl g))] H := hP
  have hD : va_D A [(h0, .inr (5, [.int 0, .ref a0, .int (-1), .int 0, .int 0, .ref a1, .ref a2, .ref a3, .int 0, .int 0, .ref a4, .int 0, .ref a5, .int 0, .int 0, .int 0, .int 0, .int 0, .int 0, .ref a6, .int 0, .ref a7, .int 0, .ref a8, .ref a9])), (a0, .inl (cA, 512, .inl (fun _ => 0))), (a1, .inl (cL, 100, .inl f)), (a3, .inl (cV, 8, .inl g))] := hD
  refine lv_aload_n hx hb d_Mo_recover_5 rfl (lv_at hl 0 rfl) ?_
  refine lv_iconst (v := 0) hx hb d_Mo_recover_6 (by decide) ?_
  refine va_put (D := (dC, dI)) (ci := 5) (v := .int 0) (ty := .boolean) (C := R_Mo) (T := F_Mo) (N := 25) hx hb hts in_Mo t_Mo t_Mo_ok n_Mo hown hK hP hD hS 0 rfl rfl 3 (by decide) (hts _ w_596) (fun _ h9 => h9) rfl (by decide +kernel) (rfl) (rfl) (Nat.le_of_ble_eq_true rfl) d_Mo_recover_7 (fun H locs hP hD hS => ?_)
  have hP : va_P (dC, dI) cls [(h0, .inr (5, [.int 0, .ref a0, .int (-1), .int 0, .int 0, .ref a1, .ref a2, .ref a3, .int 0, .int 0, .ref a4, .int 0, .ref a5, .int 0, .int 0, .int 0, .int 0, .int 0, .int 0, .ref a6, .int 0, .ref a7, .int 0, .ref a8, .ref a9])), (a0, .inl (cA, 512, .inl (fun _ => 0))), (a1, .inl (cL, 100, .inl f)), (a3, .inl (cV, 8, .inl g))] H := hP
  have hD : va_D A [(h0, .inr (5, [.int 0, .ref a0, .int (-1), .int 0, .int 0, .ref a1, .ref a2, .ref a3, .int 0, .int 0, .ref a4, .int 0, .ref a5, .int 0, .int 0, .int 0, .int 0, .int 0, .int 0, .ref a6, .int 0, .ref a7, .int 0, .ref a8, .ref a9])), (a0, .inl (cA, 512, .inl (fun _ => 0))), (a1, .inl (cL, 100, .inl f)), (a3, .inl (cV, 8, .inl g))] := hD
  refine lv_aload_n hx hb d_Mo_recover_10 rfl (lv_at hl 0 rfl) ?_
  refine go_v (wr := [(a0, .inl (cA, 512, .inl (fun _ => 0)))]) (tr := [(cA, .int)]) (rV (C := "LineDiskModel") (ci := 5) (q0 := 0) (b := h0) (n := 0) (As := []) (rest := []) F hkw (c_Mo_nothing l dC dI h0 a0 a1 a2 a3 a4 a5 a6 a7 a8 a9 cL cV f g H.size) xT_bl (fun _ _ _ => trivial) w_589 w_591 ws_33 w_6 w_592 rfl rfl (by decide +kernel) ⟨Nat.le_of_ble_eq_true rfl, Nat.le_of_ble_eq_true rfl⟩ (hP.sub (ws' := [(h0, .inr (5, [.int 0, .ref a0, .int (-1), .int 0, .int 0, .ref a1, .ref a2, .ref a3, .int 0, .int 0, .ref a4, .int 0, .ref a5, .int 0, .int 0, .int 0, .int 0, .int 0, .int 0, .ref a6, .int 0, .ref a7, .int 0, .ref a8, .ref a9])), (a1, .inl (cL, 100, .inl f)), (a3, .inl (cV, 8, .inl g))]) [0, 2, 3] rfl) (hD.sub (ws' := [(h0, .inr (5, [.int 0, .ref a0, .int (-1), .int 0, .int 0, .ref a1, .ref a2, .ref a3, .int 0, .int 0, .ref a4, .int 0, .ref a5, .int 0, .int 0, .int 0, .int 0, .int 0, .int 0, .ref a6, .int 0, .ref a7, .int 0, .ref a8, .ref a9])), (a1, .inl (cL, 100, .inl f)), (a3, .inl (cV, 8, .inl g))]) [0, 2, 3] (by decide) rfl) (hK.sub (tys' := [(cL, .int), (cV, .int)]) [1, 2] rfl) rfl rfl rfl rfl hl.1 rfl (Nat.le_of_ble_eq_true rfl) d_Mo_recover_11 ⟨by decide, by decide⟩) hP hD hK hS hA [0, 2, 3] [1] [0] rfl rfl (by decide) (by decide) rfl (fun u H locs _ hP hD hK hS => ?_)
  obtain ⟨f9, g9⟩ := u
  have hP : va_P (dC, dI) cls [(a0, .inl (cA, 512, .inl (fun _ => 0))), (h0, .inr (5, [.int 0, .ref a0, .int (-1), .int 0, .int 0, .ref a1, .ref a2, .ref a3, .int 0, .int 0, .ref a4, .int 0, .ref a5, .int 0, .int 0, .int 0, .int 0, .int 0, .int 0, .ref a6, .int 0, .ref a7, .int 0, .ref a8, .ref a9])), (a1, .inl (cL, 100, .inl f9)), (a3, .inl (cV, 8, .inl g9))] H := hP
  have hD : va_D A [(a0, .inl (cA, 512, .inl (fun _ => 0))), (h0, .inr (5, [.int 0, .ref a0, .int (-1), .int 0, .int 0, .ref a1, .ref a2, .ref a3, .int 0, .int 0, .ref a4, .int 0, .ref a5, .int 0, .int 0, .int 0, .int 0, .int 0, .int 0, .ref a6, .int 0, .ref a7, .int 0, .ref a8, .ref a9])), (a1, .inl (cL, 100, .inl f9)), (a3, .inl (cV, 8, .inl g9))] := hD
  have hK : va_K (dC, dI) cls [(cA, .int), (cL, .int), (cV, .int)] s := hK
  refine W.widen (k := 0) (n := 0) (by omega) (by omega) ?_
  refine lv_aload_n hx hb d_Mo_recover_14 rfl (lv_at hl 0 rfl) ?_
  refine go_i (wr := [(a1, .inl (cL, 100, .inl f9)), (a3, .inl (cV, 8, .inl g9))]) (tr := [(cL, .int), (cV, .int)]) (rV (C := "LineDiskModel") (ci := 5) (q0 := 0) (b := h0) (n := 0) (As := []) (rest := []) F hkw (c_Mo_formatted l dC dI h0 a0 a1 a2 a3 a4 a5 a6 a7 a8 a9 cA H.size) xT_bl (fun _ _ _ => trivial) w_689 w_691 ws_36 w_6 w_692 rfl rfl (by decide +kernel) ⟨Nat.le_of_ble_eq_true rfl, Nat.le_of_ble_eq_true rfl⟩ (hP.sub (ws' := [(h0, .inr (5, [.int 0, .ref a0, .int (-1), .int 0, .int 0, .ref a1, .ref a2, .ref a3, .int 0, .int 0, .ref a4, .int 0, .ref a5, .int 0, .int 0, .int 0, .int 0, .int 0, .int 0, .ref a6, .int 0, .ref a7, .int 0, .ref a8, .ref a9])), (a0, .inl (cA, 512, .inl (fun _ => 0)))]) [1, 0] rfl) (hD.sub (ws' := [(h0, .inr (5, [.int 0, .ref a0, .int (-1), .int 0, .int 0, .ref a1, .ref a2, .ref a3, .int 0, .int 0, .ref a4, .int 0, .ref a5, .int 0, .int 0, .int 0, .int 0, .int 0, .int 0, .ref a6, .int 0, .ref a7, .int 0, .ref a8, .ref a9])), (a0, .inl (cA, 512, .inl (fun _ => 0)))]) [1, 0] (by decide) rfl) (hK.sub (tys' := [(cA, .int)]) [0] rfl) rfl rfl rfl rfl hl.1 rfl (Nat.le_of_ble_eq_true rfl) d_Mo_recover_15 ⟨by decide, by decide⟩) hP hD hK hS hA [1, 0] [2, 3] [1, 2] rfl rfl (by decide) (by decide) rfl (fun r u H locs hw hP hD hK hS => ?_)
  have hP : va_P (dC, dI) cls [(a1, .inl (cL, 100, .inl f9)), (a3, .inl (cV, 8, .inl g9)), (h0, .inr (5, [.int 0, .ref a0, .int (-1), .int 0, .int 0, .ref a1, .ref a2, .ref a3, .int 0, .int 0, .ref a4, .int 0, .ref a5, .int 0, .int 0, .int 0, .int 0, .int 0, .int 0, .ref a6, .int 0, .ref a7, .int 0, .ref a8, .ref a9])), (a0, .inl (cA, 512, .inl (fun _ => 0)))] H := hP
  have hD : va_D A [(a1, .inl (cL, 100, .inl f9)), (a3, .inl (cV, 8, .inl g9)), (h0, .inr (5, [.int 0, .ref a0, .int (-1), .int 0, .int 0, .ref a1, .ref a2, .ref a3, .int 0, .int 0, .ref a4, .int 0, .ref a5, .int 0, .int 0, .int 0, .int 0, .int 0, .int 0, .ref a6, .int 0, .ref a7, .int 0, .ref a8, .ref a9])), (a0, .inl (cA, 512, .inl (fun _ => 0)))] := hD
  have hK : va_K (dC, dI) cls [(cL, .int), (cV, .int), (cA, .int)] s := hK
  refine W.widen (k := 0) (n := 0) (by omega) (by omega) ?_
  subst hw
  refine lv_istore_n (i := 1) hx hb d_Mo_recover_18 rfl hl (by decide) rfl (fun ls hl => ?_)
  have hl : lv_has ls 6 [(1, .int 0), (0, .ref h0)] := hl
  refine lv_iload_n hx hb d_Mo_recover_19 rfl (lv_at hl 0 rfl) ?_
  refine lv_if_eq (tgt := 116) hx hb d_Mo_recover_20 (by decide) (fun _ => ?_) (fun h => absurd (by decide) h)
  refine lv_aload_n hx hb d_Mo_recover_116 rfl (lv_at hl 1 rfl) ?_
  refine lv_iconst (v := (-1)) hx hb d_Mo_recover_117 (by decide) ?_
  refine va_put (D := (dC, dI)) (ci := 5) (v := .int (-1)) (ty := .int) (C := R_Mo) (T := F_Mo) (N := 25) hx hb hts in_Mo t_Mo t_Mo_ok n_Mo hown hK hP hD hS 2 rfl rfl 2 (by decide) (hts _ w_595) (fun _ h9 => h9) rfl (by decide +kernel) (rfl) (rfl) (Nat.le_of_ble_eq_true rfl) d_Mo_recover_118 (fun H locs hP hD hS => ?_)
  have hP : va_P (dC, dI) cls [(a1, .inl (cL, 100, .inl f9)), (a3, .inl (cV, 8, .inl g9)), (h0, .inr (5, [.int 0, .ref a0, .int (-1), .int 0, .int 0, .ref a1, .ref a2, .ref a3, .int 0, .int 0, .ref a4, .int 0, .ref a5, .int 0, .int 0, .int 0, .int 0, .int 0, .int 0, .ref a6, .int 0, .ref a7, .int 0, .ref a8, .ref a9])), (a0, .inl (cA, 512, .inl (fun _ => 0)))] H := hP
  have hD : va_D A [(a1, .inl (cL, 100, .inl f9)), (a3, .inl (cV, 8, .inl g9)), (h0, .inr (5, [.int 0, .ref a0, .int (-1), .int 0, .int 0, .ref a1, .ref a2, .ref a3, .int 0, .int 0, .ref a4, .int 0, .ref a5, .int 0, .int 0, .int 0, .int 0, .int 0, .int 0, .ref a6, .int 0, .ref a7, .int 0, .ref a8, .ref a9])), (a0, .inl (cA, 512, .inl (fun _ => 0)))] := hD
  refine lv_aload_n hx hb d_Mo_recover_121 rfl (lv_at hl 1 rfl) ?_
  refine va_get (D := (dC, dI)) (ci := 5) (v := .int 0) (C := R_Mo) (T := F_Mo) (N := 25) hx hb hts in_Mo hown hK hP 2 rfl rfl 3 (by decide) (hts _ w_596) (fun _ h9 => h9) rfl d_Mo_recover_122 ?_
  refine lv_if_eq (tgt := 133) hx hb d_Mo_recover_125 (by decide) (fun _ => ?_) (fun h => absurd (by decide) h)
  refine lv_iload_n hx hb d_Mo_recover_133 rfl (lv_at hl 0 rfl) ?_
  refine lv_if_eq (tgt := 141) hx hb d_Mo_recover_134 (by decide) (fun _ => ?_) (fun h => absurd (by decide) h)
  refine lv_bipush (v := 8) hx hb d_Mo_recover_141 (by decide) ?_
  refine W.widen (k := 0) (n := 0) (by decide) (by decide) ?_
  exact W.iret (v := 8) hx hb hr (fun t ht hW => ⟨⟨8, (), rfl, rfl, cB.of (hP.sub [] rfl) (hD.sub [] (by decide) rfl) (hK.sub [] rfl) ht hW⟩, hS.F ht⟩) hS.2.2 d_Mo_recover_143
set_option maxHeartbeats 4000000 in
set_option maxRecDepth 100000 in
theorem lp_Mo_write2 {p : Program} {l : Launch} {e : Env} {R : Room} {s : State} {m : MethodId} {args : Array Value} {below : List Frame} {meth : Method} {c : Code} {cells slots : Nat} {Q : State → Prop} {A : Nat → Prop} {dC : Nat → ClassId} {dI : Nat → Nat → Nat} (hx : p.tables.exec = Jvm.exec) (hb : c.code = b_Mo_write) (hts : ∀ w ∈ gw, w.before args s = true) (hown : s.vm.findClass "LineDiskModel" = some m.cls) (hkw : kw s) (h0 a0 a1 a2 a3 a4 a5 a6 a7 a8 a9 : Nat) (cA cC : ClassId) (wr : Int32) (f : Nat → Int32) (hK : va_K (dC, dI) cls [(cA, .int), (cC, .int)] s)  (kk : ∀ (ls : Array Slot) (H : Heap) (locs : List Loc) (g : Nat → Int32), lv_has ls 4 [(3, .int (nI 16)), (0, .ref h0), (1, .int 2), (2, .int (-1))] → va_P (dC, dI) cls [(h0, .inr (5, [.int 0, .ref a0, .int (-1), .int 0, .int wr, .ref a1, .ref a2, .ref a3, .int 0, .int 0, .ref a4, .int 0, .ref a5, .int 0, .int 0, .int 0, .int 0, .int 0, .int 0, .ref a6, .int 0, .ref a7, .int 0, .ref a8, .ref a9])), (a0, .inl (cA, 512, .inl g)), (a9, .inl (cC, 96, .inl f))] H → va_D A [(h0, .inr (5, [.int 0, .ref a0, .int (-1), .int 0, .int wr, .ref a1, .ref a2, .ref a3, .int 0, .int 0, .ref a4, .int 0, .ref a5, .int 0, .int 0, .int 0, .int 0, .int 0, .int 0, .ref a6, .int 0, .ref a7, .int 0, .ref a8, .ref a9])), (a0, .inl (cA, 512, .inl g)), (a9, .inl (cC, 96, .inl f))] → va_S A s.heap H locs → (True) → W p l e R s m args below meth c H locs cells slots Q (F0 m 93 ls [])) : ∀ (j k : Nat), k + j = 16 → ∀ (ls : Array Slot) (H : Heap) (locs : List Loc) (g : Nat → Int32), lv_has ls 4 [(3, .int (nI k)), (0, .ref h0), (1, .int 2), (2, .int (-1))] → va_P (dC, dI) cls [(h0, .inr (5, [.int 0, .ref a0, .int (-1), .int 0, .int wr, .ref a1, .ref a2, .ref a3, .int 0, .int 0, .ref a4, .int 0, .ref a5, .int 0, .int 0, .int 0, .int 0, .int 0, .int 0, .ref a6, .int 0, .ref a7, .int 0, .ref a8, .ref a9])), (a0, .inl (cA, 512, .inl g)), (a9, .inl (cC, 96, .inl f))] H → va_D A [(h0, .inr (5, [.int 0, .ref a0, .int (-1), .int 0, .int wr, .ref a1, .ref a2, .ref a3, .int 0, .int 0, .ref a4, .int 0, .ref a5, .int 0, .int 0, .int 0, .int 0, .int 0, .int 0, .ref a6, .int 0, .ref a7, .int 0, .ref a8, .ref a9])), (a0, .inl (cA, 512, .inl g)), (a9, .inl (cC, 96, .inl f))] → va_S A s.heap H locs → (True) → W p l e R s m args below meth c H locs cells slots Q (F0 m 53 ls []) := by
  intro j
  induction j with
  | zero =>
    intro k hk ls H locs g hl hP hD hS hf
    have hk : k = 16 := by omega
    subst hk
    refine lv_iload_n hx hb d_Mo_write_53 rfl (lv_at hl 0 rfl) ?_
    refine lv_bipush (v := 16) hx hb d_Mo_write_54 (by decide) ?_
    refine lv_icmp_ge (tgt := 93) hx hb d_Mo_write_56 (by decide) (fun _ => ?_) (fun h => absurd (nI_le (a := 16) (b := 16) (Nat.le_refl _) (by decide)) h)
    exact kk ls H locs g hl hP hD hS hf
  | succ j ih =>
    intro k hk ls H locs g hl hP hD hS hf
    have hkN : k < 16 := by omega
    refine lv_iload_n hx hb d_Mo_write_53 rfl (lv_at hl 0 rfl) ?_
    refine lv_bipush (v := 16) hx hb d_Mo_write_54 (by decide) ?_
    refine lv_icmp_ge (tgt := 93) hx hb d_Mo_write_56 (by decide) (fun h => absurd h (nI_ge (b := 16) hkN (by decide))) (fun _ => ?_)
    refine lv_aload_n hx hb d_Mo_write_59 rfl (lv_at hl 1 rfl) ?_
    refine va_get (D := (dC, dI)) (ci := 5) (v := .ref a0) (C := R_Mo) (T := F_Mo) (N := 25) hx hb hts in_Mo hown hK hP 0 rfl rfl 1 (by decide) (hts _ w_594) (fun _ h9 => h9) rfl d_Mo_write_60 ?_
    refine lv_bipush (v := 16) hx hb d_Mo_write_63 (by decide) ?_
    refine lv_iload_n hx hb d_Mo_write_65 rfl (lv_at hl 2 rfl) ?_
    refine lv_imul hx hb d_Mo_write_66 ?_
    refine tv (x2 := 32) (by decide) ?_
    refine lv_iload_n hx hb d_Mo_write_67 rfl (lv_at hl 0 rfl) ?_
    refine lv_iadd hx hb d_Mo_write_68 ?_
    refine lv_iload_n hx hb d_Mo_write_69 rfl (lv_at hl 3 rfl) ?_
    refine lv_iconst (v := (-1)) hx hb d_Mo_write_70 (by decide) ?_
    refine lv_icmp_ne (tgt := 78) hx hb d_Mo_write_71 (by decide) (fun h => absurd (by decide) h) (fun _ => ?_)
    refine lv_iconst (v := 0) hx hb d_Mo_write_74 (by decide) ?_
    refine lv_goto (tgt := 86) hx hb d_Mo_write_75 (by decide) ?_
    refine va_iast hx hb hK hP hD hS 1 0 rfl rfl (by show vp_in (nI 32 + nI k) 512; rw [nI_add]; exact vp_in_nI (by omega) (by decide)) d_Mo_write_86 (fun H locs hP hD hS => ?_)
    have hP : va_P (dC, dI) cls [(h0, .inr (5, [.int 0, .ref a0, .int (-1), .int 0, .int wr, .ref a1, .ref a2, .ref a3, .int 0, .int 0, .ref a4, .int 0, .ref a5, .int 0, .int 0, .int 0, .int 0, .int 0, .int 0, .ref a6, .int 0, .ref a7, .int 0, .ref a8, .ref a9])), (a0, .inl (cA, 512, .inl (upd g (32 + (nI k) : Int32).toNatClampNeg 0))), (a9, .inl (cC, 96, .inl f))] H := hP
    have hD : va_D A [(h0, .inr (5, [.int 0, .ref a0, .int (-1), .int 0, .int wr, .ref a1, .ref a2, .ref a3, .int 0, .int 0, .ref a4, .int 0, .ref a5, .int 0, .int 0, .int 0, .int 0, .int 0, .int 0, .ref a6, .int 0, .ref a7, .int 0, .ref a8, .ref a9])), (a0, .inl (cA, 512, .inl (upd g (32 + (nI k) : Int32).toNatClampNeg 0))), (a9, .inl (cC, 96, .inl f))] := hD
    refine lv_iinc (k := 0) (v := nI (k + 1)) hx hb d_Mo_write_87 hl rfl (by rw [lit1]; exact (nI_succ k).symm) (by decide) rfl (fun ls hl => ?_)
    have hl : lv_has ls 4 [(3, .int (nI (k + 1))), (0, .ref h0), (1, .int 2), (2, .int (-1))] := hl
    refine lv_goto (tgt := 53) hx hb d_Mo_write_90 (by decide) ?_
    exact ih (k + 1) (by omega) ls H locs (upd g (32 + (nI k) : Int32).toNatClampNeg 0) (hl) hP hD hS (trivial)
set_option maxHeartbeats 4000000 in
set_option maxRecDepth 100000 in
theorem c_Mo_write2 (l : Launch) (dC : Nat → ClassId) (dI : Nat → Nat → Nat) (h0 a0 a1 a2 a3 a4 a5 a6 a7 a8 a9 : Nat) (cA cC : ClassId) (wr : Int32) (g f : Nat → Int32) (sz : Nat) : Met l y_Mo_write (Cond.code y_Mo_write b_Mo_write 4 none :: gw) ({ frames := 0, cells := 0, slots := 0, locals := 0 }) (cP (dC, dI) [.ref h0, .int 2, .int (-1)] sz [(h0, .inr (5, [.int 0, .ref a0, .int (-1), .int 0, .int wr, .ref a1, .ref a2, .ref a3, .int 0, .int 0, .ref a4, .int 0, .ref a5, .int 0, .int 0, .int 0, .int 0, .int 0, .int 0, .ref a6, .int 0, .ref a7, .int 0, .ref a8, .ref a9])), (a0, .inl (cA, 512, .inl g)), (a9, .inl (cC, 96, .inl f))] [(cA, .int), (cC, .int)] xT) (va_Qv (fun (u : Nat → Int32) => True) (fun (u : Nat → Int32) t => cB (dC, dI) (va_A [(h0, .inr (5, [.int 0, .ref a0, .int (-1), .int 0, .int wr, .ref a1, .ref a2, .ref a3, .int 0, .int 0, .ref a4, .int 0, .ref a5, .int 0, .int 0, .int 0, .int 0, .int 0, .int 0, .ref a6, .int 0, .ref a7, .int 0, .ref a8, .ref a9])), (a0, .inl (cA, 512, .inl g)), (a9, .inl (cC, 96, .inl f))] sz) [(h0, .inr (5, [.int 0, .ref a0, .int (-1), .int 0, .int (wr + 1), .ref a1, .ref a2, .ref a3, .int 0, .int 0, .ref a4, .int 0, .ref a5, .int 0, .int 0, .int 0, .int 0, .int 0, .int 0, .ref a6, .int 0, .ref a7, .int 0, .ref a8, .ref a9])), (a0, .inl (cA, 512, .inl u)), (a9, .inl (cC, 96, .inl f))] [(cA, .int), (cC, .int)] t) (va_A [(h0, .inr (5, [.int 0, .ref a0, .int (-1), .int 0, .int wr, .ref a1, .ref a2, .ref a3, .int 0, .int 0, .ref a4, .int 0, .ref a5, .int 0, .int 0, .int 0, .int 0, .int 0, .int 0, .ref a6, .int 0, .ref a7, .int 0, .ref a8, .ref a9])), (a0, .inl (cA, 512, .inl g)), (a9, .inl (cC, 96, .inl f))] sz)) 0 0 (va_A [(h0, .inr (5, [.int 0, .ref a0, .int (-1), .int 0, .int wr, .ref a1, .ref a2, .ref a3, .int 0, .int 0, .ref a4, .int 0, .ref a5, .int 0, .int 0, .int 0, .int 0, .int 0, .int 0, .ref a6, .int 0, .ref a7, .int 0, .ref a8, .ref a9])), (a0, .inl (cA, 512, .inl g)), (a9, .inl (cC, 96, .inl f))] sz) := by
  refine Met.ofW (cc := b_Mo_write) (maxL := 4) (ret := none) (by decide) rfl ?_
  intro p e s m args below meth c s₁ B hml hv
  obtain ⟨rfl, hsz, hP, hK, hD0, hkw, hX⟩ := hv
  have hx := B.exec
  have hb := B.bytes
  have hr := B.returns
  have hts := fun w hw => atoms_spec (ws := Cond.code y_Mo_write b_Mo_write 4 none :: gw) B.pre w (List.mem_cons_of_mem _ hw)
  have hown : s.vm.findClass "LineDiskModel" = some m.cls := findClass_of_methodNamed B.named
  have hlocks := B.notSynchronized
  have hin := (name_of_methodNamed B.named B.method).1
  subst hsz
  have hD := hD0.self (sz := s.heap.size)
  generalize hAe : va_A [(h0, .inr (5, [.int 0, .ref a0, .int (-1), .int 0, .int wr, .ref a1, .ref a2, .ref a3, .int 0, .int 0, .ref a4, .int 0, .ref a5, .int 0, .int 0, .int 0, .int 0, .int 0, .int 0, .ref a6, .int 0, .ref a7, .int 0, .ref a8, .ref a9])), (a0, .inl (cA, 512, .inl g)), (a9, .inl (cC, 96, .inl f))] s.heap.size = A at hD ⊢
  have hA : ∀ q : Nat, s.heap.size ≤ q → A q := fun q h => by rw [← hAe]; exact Or.inr h
  have hS : va_S A s.heap s.heap [] := va_S.rf
  have hl := lv_entry ([.ref h0, .int 2, .int (-1)]) (n := 4) (Nat.le_of_ble_eq_true rfl)
  rw [lg_entry_eq]
  generalize (lg_sl ([.ref h0, .int 2, .int (-1)]) ++ List.replicate (4 - (lg_sl ([.ref h0, .int 2, .int (-1)])).length) Slot.unset).toArray = ls at hl ⊢
  have hl : lv_has ls 4 [(0, .ref h0), (1, .int 2), (2, .int (-1))] := hl
  have F : CallFix p m c b_Mo_write 4 s ([.ref h0, .int 2, .int (-1)]).toArray gw "LineDiskModel" := ⟨hx, hb, hml, hown, hts⟩
  refine lv_aload_n hx hb d_Mo_write_0 rfl (lv_at hl 0 rfl) ?_
  refine va_get (D := (dC, dI)) (ci := 5) (v := .int 0) (C := R_Mo) (T := F_Mo) (N := 25) hx hb hts in_Mo hown hK hP 0 rfl rfl 3 (by decide) (hts _ w_596) (fun _ h9 => h9) rfl d_Mo_write_1 ?_
  refine lv_if_eq (tgt := 8) hx hb d_Mo_write_4 (by decide) (fun _ => ?_) (fun h => absurd (by decide) h)
  refine lv_aload_n hx hb d_Mo_write_8 rfl (lv_at hl 0 rfl) ?_
  refine va_get (D := (dC, dI)) (ci := 5) (v := .int (-1)) (C := R_Mo) (T := F_Mo) (N := 25) hx hb hts in_Mo hown hK hP 0 rfl rfl 2 (by decide) (hts _ w_595) (fun _ h9 => h9) rfl d_Mo_write_9 ?_
  refine lv_if_ne (tgt := 20) hx hb d_Mo_write_12 (by decide) (fun _ => ?_) (fun h => absurd h (by decide))
  refine lv_aload_n hx hb d_Mo_write_20 rfl (lv_at hl 0 rfl) ?_
  refine lv_dup hx hb d_Mo_write_21 rfl ?_
  refine va_get (D := (dC, dI)) (ci := 5) (v := .int (-1)) (C := R_Mo) (T := F_Mo) (N := 25) hx hb hts in_Mo hown hK hP 0 rfl rfl 2 (by decide) (hts _ w_595) (fun _ h9 => h9) rfl d_Mo_write_22 ?_
  refine lv_aload_n hx hb d_Mo_write_25 rfl (lv_at hl 0 rfl) ?_
  refine va_get (D := (dC, dI)) (ci := 5) (v := .int (-1)) (C := R_Mo) (T := F_Mo) (N := 25) hx hb hts in_Mo hown hK hP 0 rfl rfl 2 (by decide) (hts _ w_595) (fun _ h9 => h9) rfl d_Mo_write_26 ?_
  refine lv_if_le (tgt := 36) hx hb d_Mo_write_29 (by decide) (fun _ => ?_) (fun h => absurd (by decide) h)
  refine lv_iconst (v := 0) hx hb d_Mo_write_36 (by decide) ?_
  refine lv_isub hx hb d_Mo_write_37 ?_
  refine tv (x2 := (-1)) (by decide) ?_
  refine va_put (D := (dC, dI)) (ci := 5) (v := .int (-1)) (ty := .int) (C := R_Mo) (T := F_Mo) (N := 25) hx hb hts in_Mo t_Mo t_Mo_ok n_Mo hown hK hP hD hS 0 rfl rfl 2 (by decide) (hts _ w_595) (fun _ h9 => h9) rfl (by decide +kernel) (rfl) (rfl) (Nat.le_of_ble_eq_true rfl) d_Mo_write_38 (fun H locs hP hD hS => ?_)
  have hP : va_P (dC, dI) cls [(h0, .inr (5, [.int 0, .ref a0, .int (-1), .int 0, .int wr, .ref a1, .ref a2, .ref a3, .int 0, .int 0, .ref a4, .int 0, .ref a5, .int 0, .int 0, .int 0, .int 0, .int 0, .int 0, .ref a6, .int 0, .ref a7, .int 0, .ref a8, .ref a9])), (a0, .inl (cA, 512, .inl g)), (a9, .inl (cC, 96, .inl f))] H := hP
  have hD : va_D A [(h0, .inr (5, [.int 0, .ref a0, .int (-1), .int 0, .int wr, .ref a1, .ref a2, .ref a3, .int 0, .int 0, .ref a4, .int 0, .ref a5, .int 0, .int 0, .int 0, .int 0, .int 0, .int 0, .ref a6, .int 0, .ref a7, .int 0, .ref a8, .ref a9])), (a0, .inl (cA, 512, .inl g)), (a9, .inl (cC, 96, .inl f))] := hD
  refine lv_aload_n hx hb d_Mo_write_41 rfl (lv_at hl 0 rfl) ?_
  refine lv_dup hx hb d_Mo_write_42 rfl ?_
  refine va_get (D := (dC, dI)) (ci := 5) (v := .int wr) (C := R_Mo) (T := F_Mo) (N := 25) hx hb hts in_Mo hown hK hP 0 rfl rfl 4 (by decide) (hts _ w_597) (fun _ h9 => h9) rfl d_Mo_write_43 ?_
  refine lv_iconst (v := 1) hx hb d_Mo_write_46 (by decide) ?_
  refine lv_iadd hx hb d_Mo_write_47 ?_
  refine va_put (D := (dC, dI)) (ci := 5) (v := .int (wr + 1)) (ty := .int) (C := R_Mo) (T := F_Mo) (N := 25) hx hb hts in_Mo t_Mo t_Mo_ok n_Mo hown hK hP hD hS 0 rfl rfl 4 (by decide) (hts _ w_597) (fun _ h9 => h9) rfl (by decide +kernel) (rfl) (rfl) (Nat.le_of_ble_eq_true rfl) d_Mo_write_48 (fun H locs hP hD hS => ?_)
  have hP : va_P (dC, dI) cls [(h0, .inr (5, [.int 0, .ref a0, .int (-1), .int 0, .int (wr + 1), .ref a1, .ref a2, .ref a3, .int 0, .int 0, .ref a4, .int 0, .ref a5, .int 0, .int 0, .int 0, .int 0, .int 0, .int 0, .ref a6, .int 0, .ref a7, .int 0, .ref a8, .ref a9])), (a0, .inl (cA, 512, .inl g)), (a9, .inl (cC, 96, .inl f))] H := hP
  have hD : va_D A [(h0, .inr (5, [.int 0, .ref a0, .int (-1), .int 0, .int (wr + 1), .ref a1, .ref a2, .ref a3, .int 0, .int 0, .ref a4, .int 0, .ref a5, .int 0, .int 0, .int 0, .int 0, .int 0, .int 0, .ref a6, .int 0, .ref a7, .int 0, .ref a8, .ref a9])), (a0, .inl (cA, 512, .inl g)), (a9, .inl (cC, 96, .inl f))] := hD
  refine lv_iconst (v := 0) hx hb d_Mo_write_51 (by decide) ?_
  refine lv_istore_n (i := 3) hx hb d_Mo_write_52 rfl hl (by decide) rfl (fun ls hl => ?_)
  have hl : lv_has ls 4 [(3, .int 0), (0, .ref h0), (1, .int 2), (2, .int (-1))] := hl
  have hl : lv_has ls 4 [(3, .int (nI 0)), (0, .ref h0), (1, .int 2), (2, .int (-1))] := lv_sub hl [0, 1, 2, 3] rfl
  refine lp_Mo_write2 hx hb hts hown hkw h0 a0 a1 a2 a3 a4 a5 a6 a7 a8 a9 cA cC (wr + 1) f hK (fun ls H locs g hl hP hD hS _ => ?_) 16 0 (by decide) ls _ _ g hl hP hD hS trivial
  refine W.widen (k := 0) (n := 0) (by decide) (by decide) ?_
  exact W.vret hx hb hr (fun t ht hW => ⟨⟨g, rfl, trivial, cB.of (hP.sub [0, 1, 2] rfl) (hD.sub [0, 1, 2] (by decide) rfl) (hK.sub [0, 1] rfl) ht hW⟩, hS.F ht⟩) hS.2.2 d_Mo_write_93
set_option maxHeartbeats 4000000 in
set_option maxRecDepth 100000 in
theorem lp_Mo_write1 {p : Program} {l : Launch} {e : Env} {R : Room} {s : State} {m : MethodId} {args : Array Value} {below : List Frame} {meth : Method} {c : Code} {cells slots : Nat} {Q : State → Prop} {A : Nat → Prop} {dC : Nat → ClassId} {dI : Nat → Nat → Nat} (hx : p.tables.exec = Jvm.exec) (hb : c.code = b_Mo_write) (hts : ∀ w ∈ gw, w.before args s = true) (hown : s.vm.findClass "LineDiskModel" = some m.cls) (hkw : kw s) (h0 a0 a1 a2 a3 a4 a5 a6 a7 a8 a9 : Nat) (cA cC : ClassId) (wr : Int32) (f : Nat → Int32) (hK : va_K (dC, dI) cls [(cA, .int), (cC, .int)] s)  (kk : ∀ (ls : Array Slot) (H : Heap) (locs : List Loc) (g : Nat → Int32), lv_has ls 4 [(3, .int (nI 16)), (0, .ref h0), (1, .int 1), (2, .int (-1))] → va_P (dC, dI) cls [(h0, .inr (5, [.int 0, .ref a0, .int (-1), .int 0, .int wr, .ref a1, .ref a2, .ref a3, .int 0, .int 0, .ref a4, .int 0, .ref a5, .int 0, .int 0, .int 0, .int 0, .int 0, .int 0, .ref a6, .int 0, .ref a7, .int 0, .ref a8, .ref a9])), (a0, .inl (cA, 512, .inl g)), (a9, .inl (cC, 96, .inl f))] H → va_D A [(h0, .inr (5, [.int 0, .ref a0, .int (-1), .int 0, .int wr, .ref a1, .ref a2, .ref a3, .int 0, .int 0, .ref a4, .int 0, .ref a5, .int 0, .int 0, .int 0, .int 0, .int 0, .int 0, .ref a6, .int 0, .ref a7, .int 0, .ref a8, .ref a9])), (a0, .inl (cA, 512, .inl g)), (a9, .inl (cC, 96, .inl f))] → va_S A s.heap H locs → (True) → W p l e R s m args below meth c H locs cells slots Q (F0 m 93 ls [])) : ∀ (j k : Nat), k + j = 16 → ∀ (ls : Array Slot) (H : Heap) (locs : List Loc) (g : Nat → Int32), lv_has ls 4 [(3, .int (nI k)), (0, .ref h0), (1, .int 1), (2, .int (-1))] → va_P (dC, dI) cls [(h0, .inr (5, [.int 0, .ref a0, .int (-1), .int 0, .int wr, .ref a1, .ref a2, .ref a3, .int 0, .int 0, .ref a4, .int 0, .ref a5, .int 0, .int 0, .int 0, .int 0, .int 0, .int 0, .ref a6, .int 0, .ref a7, .int 0, .ref a8, .ref a9])), (a0, .inl (cA, 512, .inl g)), (a9, .inl (cC, 96, .inl f))] H → va_D A [(h0, .inr (5, [.int 0, .ref a0, .int (-1), .int 0, .int wr, .ref a1, .ref a2, .ref a3, .int 0, .int 0, .ref a4, .int 0, .ref a5, .int 0, .int 0, .int 0, .int 0, .int 0, .int 0, .ref a6, .int 0, .ref a7, .int 0, .ref a8, .ref a9])), (a0, .inl (cA, 512, .inl g)), (a9, .inl (cC, 96, .inl f))] → va_S A s.heap H locs → (True) → W p l e R s m args below meth c H locs cells slots Q (F0 m 53 ls []) := by
  intro j
  induction j with
  | zero =>
    intro k hk ls H locs g hl hP hD hS hf
    have hk : k = 16 := by omega
    subst hk
    refine lv_iload_n hx hb d_Mo_write_53 rfl (lv_at hl 0 rfl) ?_
    refine lv_bipush (v := 16) hx hb d_Mo_write_54 (by decide) ?_
    refine lv_icmp_ge (tgt := 93) hx hb d_Mo_write_56 (by decide) (fun _ => ?_) (fun h => absurd (nI_le (a := 16) (b := 16) (Nat.le_refl _) (by decide)) h)
    exact kk ls H locs g hl hP hD hS hf
  | succ j ih =>
    intro k hk ls H locs g hl hP hD hS hf
    have hkN : k < 16 := by omega
    refine lv_iload_n hx hb d_Mo_write_53 rfl (lv_at hl 0 rfl) ?_
    refine lv_bipush (v := 16) hx hb d_Mo_write_54 (by decide) ?_
    refine lv_icmp_ge (tgt := 93) hx hb d_Mo_write_56 (by decide) (fun h => absurd h (nI_ge (b := 16) hkN (by decide))) (fun _ => ?_)
    refine lv_aload_n hx hb d_Mo_write_59 rfl (lv_at hl 1 rfl) ?_
    refine va_get (D := (dC, dI)) (ci := 5) (v := .ref a0) (C := R_Mo) (T := F_Mo) (N := 25) hx hb hts in_Mo hown hK hP 0 rfl rfl 1 (by decide) (hts _ w_594) (fun _ h9 => h9) rfl d_Mo_write_60 ?_
    refine lv_bipush (v := 16) hx hb d_Mo_write_63 (by decide) ?_
    refine lv_iload_n hx hb d_Mo_write_65 rfl (lv_at hl 2 rfl) ?_
    refine lv_imul hx hb d_Mo_write_66 ?_
    refine tv (x2 := 16) (by decide) ?_
    refine lv_iload_n hx hb d_Mo_write_67 rfl (lv_at hl 0 rfl) ?_
    refine lv_iadd hx hb d_Mo_write_68 ?_
    refine lv_iload_n hx hb d_Mo_write_69 rfl (lv_at hl 3 rfl) ?_
    refine lv_iconst (v := (-1)) hx hb d_Mo_write_70 (by decide) ?_
    refine lv_icmp_ne (tgt := 78) hx hb d_Mo_write_71 (by decide) (fun h => absurd (by decide) h) (fun _ => ?_)
    refine lv_iconst (v := 0) hx hb d_Mo_write_74 (by decide) ?_
    refine lv_goto (tgt := 86) hx hb d_Mo_write_75 (by decide) ?_
    refine va_iast hx hb hK hP hD hS 1 0 rfl rfl (by show vp_in (nI 16 + nI k) 512; rw [nI_add]; exact vp_in_nI (by omega) (by decide)) d_Mo_write_86 (fun H locs hP hD hS => ?_)
    have hP : va_P (dC, dI) cls [(h0, .inr (5, [.int 0, .ref a0, .int (-1), .int 0, .int wr, .ref a1, .ref a2, .ref a3, .int 0, .int 0, .ref a4, .int 0, .ref a5, .int 0, .int 0, .int 0, .int 0, .int 0, .int 0, .ref a6, .int 0, .ref a7, .int 0, .ref a8, .ref a9])), (a0, .inl (cA, 512, .inl (upd g (16 + (nI k) : Int32).toNatClampNeg 0))), (a9, .inl (cC, 96, .inl f))] H := hP
    have hD : va_D A [(h0, .inr (5, [.int 0, .ref a0, .int (-1), .int 0, .int wr, .ref a1, .ref a2, .ref a3, .int 0, .int 0, .ref a4, .int 0, .ref a5, .int 0, .int 0, .int 0, .int 0, .int 0, .int 0, .ref a6, .int 0, .ref a7, .int 0, .ref a8, .ref a9])), (a0, .inl (cA, 512, .inl (upd g (16 + (nI k) : Int32).toNatClampNeg 0))), (a9, .inl (cC, 96, .inl f))] := hD
    refine lv_iinc (k := 0) (v := nI (k + 1)) hx hb d_Mo_write_87 hl rfl (by rw [lit1]; exact (nI_succ k).symm) (by decide) rfl (fun ls hl => ?_)
    have hl : lv_has ls 4 [(3, .int (nI (k + 1))), (0, .ref h0), (1, .int 1), (2, .int (-1))] := hl
    refine lv_goto (tgt := 53) hx hb d_Mo_write_90 (by decide) ?_
    exact ih (k + 1) (by omega) ls H locs (upd g (16 + (nI k) : Int32).toNatClampNeg 0) (hl) hP hD hS (trivial)
set_option maxHeartbeats 4000000 in
set_option maxRecDepth 100000 in
theorem c_Mo_write1 (l : Launch) (dC : Nat → ClassId) (dI : Nat → Nat → Nat) (h0 a0 a1 a2 a3 a4 a5 a6 a7 a8 a9 : Nat) (cA cC : ClassId) (wr : Int32) (g f : Nat → Int32) (sz : Nat) : Met l y_Mo_write (Cond.code y_Mo_write b_Mo_write 4 none :: gw) ({ frames := 0, cells := 0, slots := 0, locals := 0 }) (cP (dC, dI) [.ref h0, .int 1, .int (-1)] sz [(h0, .inr (5, [.int 0, .ref a0, .int (-1), .int 0, .int wr, .ref a1, .ref a2, .ref a3, .int 0, .int 0, .ref a4, .int 0, .ref a5, .int 0, .int 0, .int 0, .int 0, .int 0, .int 0, .ref a6, .int 0, .ref a7, .int 0, .ref a8, .ref a9])), (a0, .inl (cA, 512, .inl g)), (a9, .inl (cC, 96, .inl f))] [(cA, .int), (cC, .int)] xT) (va_Qv (fun (u : Nat → Int32) => True) (fun (u : Nat → Int32) t => cB (dC, dI) (va_A [(h0, .inr (5, [.int 0, .ref a0, .int (-1), .int 0, .int wr, .ref a1, .ref a2, .ref a3, .int 0, .int 0, .ref a4, .int 0, .ref a5, .int 0, .int 0, .int 0, .int 0, .int 0, .int 0, .ref a6, .int 0, .ref a7, .int 0, .ref a8, .ref a9])), (a0, .inl (cA, 512, .inl g)), (a9, .inl (cC, 96, .inl f))] sz) [(h0, .inr (5, [.int 0, .ref a0, .int (-1), .int 0, .int (wr + 1), .ref a1, .ref a2, .ref a3, .int 0, .int 0, .ref a4, .int 0, .ref a5, .int 0, .int 0, .int 0, .int 0, .int 0, .int 0, .ref a6, .int 0, .ref a7, .int 0, .ref a8, .ref a9])), (a0, .inl (cA, 512, .inl u)), (a9, .inl (cC, 96, .inl f))] [(cA, .int), (cC, .int)] t) (va_A [(h0, .inr (5, [.int 0, .ref a0, .int (-1), .int 0, .int wr, .ref a1, .ref a2, .ref a3, .int 0, .int 0, .ref a4, .int 0, .ref a5, .int 0, .int 0, .int 0, .int 0, .int 0, .int 0, .ref a6, .int 0, .ref a7, .int 0, .ref a8, .ref a9])), (a0, .inl (cA, 512, .inl g)), (a9, .inl (cC, 96, .inl f))] sz)) 0 0 (va_A [(h0, .inr (5, [.int 0, .ref a0, .int (-1), .int 0, .int wr, .ref a1, .ref a2, .ref a3, .int 0, .int 0, .ref a4, .int 0, .ref a5, .int 0, .int 0, .int 0, .int 0, .int 0, .int 0, .ref a6, .int 0, .ref a7, .int 0, .ref a8, .ref a9])), (a0, .inl (cA, 512, .inl g)), (a9, .inl (cC, 96, .inl f))] sz) := by
  refine Met.ofW (cc := b_Mo_write) (maxL := 4) (ret := none) (by decide) rfl ?_
  intro p e s m args below meth c s₁ B hml hv
  obtain ⟨rfl, hsz, hP, hK, hD0, hkw, hX⟩ := hv
  have hx := B.exec
  have hb := B.bytes
  have hr := B.returns
  have hts := fun w hw => atoms_spec (ws := Cond.code y_Mo_write b_Mo_write 4 none :: gw) B.pre w (List.mem_cons_of_mem _ hw)
  have hown : s.vm.findClass "LineDiskModel" = some m.cls := findClass_of_methodNamed B.named
  have hlocks := B.notSynchronized
  have hin := (name_of_methodNamed B.named B.method).1
  subst hsz
  have hD := hD0.self (sz := s.heap.size)
  generalize hAe : va_A [(h0, .inr (5, [.int 0, .ref a0, .int (-1), .int 0, .int wr, .ref a1, .ref a2, .ref a3, .int 0, .int 0, .ref a4, .int 0, .ref a5, .int 0, .int 0, .int 0, .int 0, .int 0, .int 0, .ref a6, .int 0, .ref a7, .int 0, .ref a8, .ref a9])), (a0, .inl (cA, 512, .inl g)), (a9, .inl (cC, 96, .inl f))] s.heap.size = A at hD ⊢
  have hA : ∀ q : Nat, s.heap.size ≤ q → A q := fun q h => by rw [← hAe]; exact Or.inr h
  have hS : va_S A s.heap s.heap [] := va_S.rf
  have hl := lv_entry ([.ref h0, .int 1, .int (-1)]) (n := 4) (Nat.le_of_ble_eq_true rfl)
  rw [lg_entry_eq]
  generalize (lg_sl ([.ref h0, .int 1, .int (-1)]) ++ List.replicate (4 - (lg_sl ([.ref h0, .int 1, .int (-1)])).length) Slot.unset).toArray = ls at hl ⊢
  have hl : lv_has ls 4 [(0, .ref h0), (1, .int 1), (2, .int (-1))] := hl
  have F : CallFix p m c b_Mo_write 4 s ([.ref h0, .int 1, .int (-1)]).toArray gw "LineDiskModel" := ⟨hx, hb, hml, hown, hts⟩
  refine lv_aload_n hx hb d_Mo_write_0 rfl (lv_at hl 0 rfl) ?_
  refine va_get (D := (dC, dI)) (ci := 5) (v := .int 0) (C := R_Mo) (T := F_Mo) (N := 25) hx hb hts in_Mo hown hK hP 0 rfl rfl 3 (by decide) (hts _ w_596) (fun _ h9 => h9) rfl d_Mo_write_1 ?_
  refine lv_if_eq (tgt := 8) hx hb d_Mo_write_4 (by decide) (fun _ => ?_) (fun h => absurd (by decide) h)
  refine lv_aload_n hx hb d_Mo_write_8 rfl (lv_at hl 0 rfl) ?_
  refine va_get (D := (dC, dI)) (ci := 5) (v := .int (-1)) (C := R_Mo) (T := F_Mo) (N := 25) hx hb hts in_Mo hown hK hP 0 rfl rfl 2 (by decide) (hts _ w_595) (fun _ h9 => h9) rfl d_Mo_write_9 ?_
  refine lv_if_ne (tgt := 20) hx hb d_Mo_write_12 (by decide) (fun _ => ?_) (fun h => absurd h (by decide))
  refine lv_aload_n hx hb d_Mo_write_20 rfl (lv_at hl 0 rfl) ?_
  refine lv_dup hx hb d_Mo_write_21 rfl ?_
  refine va_get (D := (dC, dI)) (ci := 5) (v := .int (-1)) (C := R_Mo) (T := F_Mo) (N := 25) hx hb hts in_Mo hown hK hP 0 rfl rfl 2 (by decide) (hts _ w_595) (fun _ h9 => h9) rfl d_Mo_write_22 ?_
  refine lv_aload_n hx hb d_Mo_write_25 rfl (lv_at hl 0 rfl) ?_
  refine va_get (D := (dC, dI)) (ci := 5) (v := .int (-1)) (C := R_Mo) (T := F_Mo) (N := 25) hx hb hts in_Mo hown hK hP 0 rfl rfl 2 (by decide) (hts _ w_595) (fun _ h9 => h9) rfl d_Mo_write_26 ?_
  refine lv_if_le (tgt := 36) hx hb d_Mo_write_29 (by decide) (fun _ => ?_) (fun h => absurd (by decide) h)
  refine lv_iconst (v := 0) hx hb d_Mo_write_36 (by decide) ?_
  refine lv_isub hx hb d_Mo_write_37 ?_
  refine tv (x2 := (-1)) (by decide) ?_
  refine va_put (D := (dC, dI)) (ci := 5) (v := .int (-1)) (ty := .int) (C := R_Mo) (T := F_Mo) (N := 25) hx hb hts in_Mo t_Mo t_Mo_ok n_Mo hown hK hP hD hS 0 rfl rfl 2 (by decide) (hts _ w_595) (fun _ h9 => h9) rfl (by decide +kernel) (rfl) (rfl) (Nat.le_of_ble_eq_true rfl) d_Mo_write_38 (fun H locs hP hD hS => ?_)
  have hP : va_P (dC, dI) cls [(h0, .inr (5, [.int 0, .ref a0, .int (-1), .int 0, .int wr, .ref a1, .ref a2, .ref a3, .int 0, .int 0, .ref a4, .int 0, .ref a5, .int 0, .int 0, .int 0, .int 0, .int 0, .int 0, .ref a6, .int 0, .ref a7, .int 0, .ref a8, .ref a9])), (a0, .inl (cA, 512, .inl g)), (a9, .inl (cC, 96, .inl f))] H := hP
  have hD : va_D A [(h0, .inr (5, [.int 0, .ref a0, .int (-1), .int 0, .int wr, .ref a1, .ref a2, .ref a3, .int 0, .int 0, .ref a4, .int 0, .ref a5, .int 0, .int 0, .int 0, .int 0, .int 0, .int 0, .ref a6, .int 0, .ref a7, .int 0, .ref a8, .ref a9])), (a0, .inl (cA, 512, .inl g)), (a9, .inl (cC, 96, .inl f))] := hD
  refine lv_aload_n hx hb d_Mo_write_41 rfl (lv_at hl 0 rfl) ?_
  refine lv_dup hx hb d_Mo_write_42 rfl ?_
  refine va_get (D := (dC, dI)) (ci := 5) (v := .int wr) (C := R_Mo) (T := F_Mo) (N := 25) hx hb hts in_Mo hown hK hP 0 rfl rfl 4 (by decide) (hts _ w_597) (fun _ h9 => h9) rfl d_Mo_write_43 ?_
  refine lv_iconst (v := 1) hx hb d_Mo_write_46 (by decide) ?_
  refine lv_iadd hx hb d_Mo_write_47 ?_
  refine va_put (D := (dC, dI)) (ci := 5) (v := .int (wr + 1)) (ty := .int) (C := R_Mo) (T := F_Mo) (N := 25) hx hb hts in_Mo t_Mo t_Mo_ok n_Mo hown hK hP hD hS 0 rfl rfl 4 (by decide) (hts _ w_597) (fun _ h9 => h9) rfl (by decide +kernel) (rfl) (rfl) (Nat.le_of_ble_eq_true rfl) d_Mo_write_48 (fun H locs hP hD hS => ?_)
  have hP : va_P (dC, dI) cls [(h0, .inr (5, [.int 0, .ref a0, .int (-1), .int 0, .int (wr + 1), .ref a1, .ref a2, .ref a3, .int 0, .int 0, .ref a4, .int 0, .ref a5, .int 0, .int 0, .int 0, .int 0, .int 0, .int 0, .ref a6, .int 0, .ref a7, .int 0, .ref a8, .ref a9])), (a0, .inl (cA, 512, .inl g)), (a9, .inl (cC, 96, .inl f))] H := hP
  have hD : va_D A [(h0, .inr (5, [.int 0, .ref a0, .int (-1), .int 0, .int (wr + 1), .ref a1, .ref a2, .ref a3, .int 0, .int 0, .ref a4, .int 0, .ref a5, .int 0, .int 0, .int 0, .int 0, .int 0, .int 0, .ref a6, .int 0, .ref a7, .int 0, .ref a8, .ref a9])), (a0, .inl (cA, 512, .inl g)), (a9, .inl (cC, 96, .inl f))] := hD
  refine lv_iconst (v := 0) hx hb d_Mo_write_51 (by decide) ?_
  refine lv_istore_n (i := 3) hx hb d_Mo_write_52 rfl hl (by decide) rfl (fun ls hl => ?_)
  have hl : lv_has ls 4 [(3, .int 0), (0, .ref h0), (1, .int 1), (2, .int (-1))] := hl
  have hl : lv_has ls 4 [(3, .int (nI 0)), (0, .ref h0), (1, .int 1), (2, .int (-1))] := lv_sub hl [0, 1, 2, 3] rfl
  refine lp_Mo_write1 hx hb hts hown hkw h0 a0 a1 a2 a3 a4 a5 a6 a7 a8 a9 cA cC (wr + 1) f hK (fun ls H locs g hl hP hD hS _ => ?_) 16 0 (by decide) ls _ _ g hl hP hD hS trivial
  refine W.widen (k := 0) (n := 0) (by decide) (by decide) ?_
  exact W.vret hx hb hr (fun t ht hW => ⟨⟨g, rfl, trivial, cB.of (hP.sub [0, 1, 2] rfl) (hD.sub [0, 1, 2] (by decide) rfl) (hK.sub [0, 1] rfl) ht hW⟩, hS.F ht⟩) hS.2.2 d_Mo_write_93
set_option maxHeartbeats 4000000 in
set_option maxRecDepth 100000 in
theorem lp_Mo_write0 {p : Program} {l : Launch} {e : Env} {R : Room} {s : State} {m : MethodId} {args : Array Value} {below : List Frame} {meth : Method} {c : Code} {cells slots : Nat} {Q : State → Prop} {A : Nat → Prop} {dC : Nat → ClassId} {dI : Nat → Nat → Nat} (hx : p.tables.exec = Jvm.exec) (hb : c.code = b_Mo_write) (hts : ∀ w ∈ gw, w.before args s = true) (hown : s.vm.findClass "LineDiskModel" = some m.cls) (hkw : kw s) (h0 a0 a1 a2 a3 a4 a5 a6 a7 a8 a9 : Nat) (cA cC : ClassId) (wr : Int32) (f : Nat → Int32) (hK : va_K (dC, dI) cls [(cA, .int), (cC, .int)] s)  (kk : ∀ (ls : Array Slot) (H : Heap) (locs : List Loc) (g : Nat → Int32), lv_has ls 4 [(3, .int (nI 16)), (0, .ref h0), (1, .int 0), (2, .int 0)] → va_P (dC, dI) cls [(h0, .inr (5, [.int 0, .ref a0, .int (-1), .int 0, .int wr, .ref a1, .ref a2, .ref a3, .int 0, .int 0, .ref a4, .int 0, .ref a5, .int 0, .int 0, .int 0, .int 0, .int 0, .int 0, .ref a6, .int 0, .ref a7, .int 0, .ref a8, .ref a9])), (a0, .inl (cA, 512, .inl g)), (a9, .inl (cC, 96, .inl f))] H → va_D A [(h0, .inr (5, [.int 0, .ref a0, .int (-1), .int 0, .int wr, .ref a1, .ref a2, .ref a3, .int 0, .int 0, .ref a4, .int 0, .ref a5, .int 0, .int 0, .int 0, .int 0, .int 0, .int 0, .ref a6, .int 0, .ref a7, .int 0, .ref a8, .ref a9])), (a0, .inl (cA, 512, .inl g)), (a9, .inl (cC, 96, .inl f))] → va_S A s.heap H locs → (True) → W p l e R s m args below meth c H locs cells slots Q (F0 m 93 ls [])) : ∀ (j k : Nat), k + j = 16 → ∀ (ls : Array Slot) (H : Heap) (locs : List Loc) (g : Nat → Int32), lv_has ls 4 [(3, .int (nI k)), (0, .ref h0), (1, .int 0), (2, .int 0)] → va_P (dC, dI) cls [(h0, .inr (5, [.int 0, .ref a0, .int (-1), .int 0, .int wr, .ref a1, .ref a2, .ref a3, .int 0, .int 0, .ref a4, .int 0, .ref a5, .int 0, .int 0, .int 0, .int 0, .int 0, .int 0, .ref a6, .int 0, .ref a7, .int 0, .ref a8, .ref a9])), (a0, .inl (cA, 512, .inl g)), (a9, .inl (cC, 96, .inl f))] H → va_D A [(h0, .inr (5, [.int 0, .ref a0, .int (-1), .int 0, .int wr, .ref a1, .ref a2, .ref a3, .int 0, .int 0, .ref a4, .int 0, .ref a5, .int 0, .int 0, .int 0, .int 0, .int 0, .int 0, .ref a6, .int 0, .ref a7, .int 0, .ref a8, .ref a9])), (a0, .inl (cA, 512, .inl g)), (a9, .inl (cC, 96, .inl f))] → va_S A s.heap H locs → (True) → W p l e R s m args below meth c H locs cells slots Q (F0 m 53 ls []) := by
  intro j
  induction j with
  | zero =>
    intro k hk ls H locs g hl hP hD hS hf
    have hk : k = 16 := by omega
    subst hk
    refine lv_iload_n hx hb d_Mo_write_53 rfl (lv_at hl 0 rfl) ?_
    refine lv_bipush (v := 16) hx hb d_Mo_write_54 (by decide) ?_
    refine lv_icmp_ge (tgt := 93) hx hb d_Mo_write_56 (by decide) (fun _ => ?_) (fun h => absurd (nI_le (a := 16) (b := 16) (Nat.le_refl _) (by decide)) h)
    exact kk ls H locs g hl hP hD hS hf
  | succ j ih =>
    intro k hk ls H locs g hl hP hD hS hf
    have hkN : k < 16 := by omega
    refine lv_iload_n hx hb d_Mo_write_53 rfl (lv_at hl 0 rfl) ?_
    refine lv_bipush (v := 16) hx hb d_Mo_write_54 (by decide) ?_
    refine lv_icmp_ge (tgt := 93) hx hb d_Mo_write_56 (by decide) (fun h => absurd h (nI_ge (b := 16) hkN (by decide))) (fun _ => ?_)
    refine lv_aload_n hx hb d_Mo_write_59 rfl (lv_at hl 1 rfl) ?_
    refine va_get (D := (dC, dI)) (ci := 5) (v := .ref a0) (C := R_Mo) (T := F_Mo) (N := 25) hx hb hts in_Mo hown hK hP 0 rfl rfl 1 (by decide) (hts _ w_594) (fun _ h9 => h9) rfl d_Mo_write_60 ?_
    refine lv_bipush (v := 16) hx hb d_Mo_write_63 (by decide) ?_
    refine lv_iload_n hx hb d_Mo_write_65 rfl (lv_at hl 2 rfl) ?_
    refine lv_imul hx hb d_Mo_write_66 ?_
    refine tv (x2 := 0) (by decide) ?_
    refine lv_iload_n hx hb d_Mo_write_67 rfl (lv_at hl 0 rfl) ?_
    refine lv_iadd hx hb d_Mo_write_68 ?_
    refine lv_iload_n hx hb d_Mo_write_69 rfl (lv_at hl 3 rfl) ?_
    refine lv_iconst (v := (-1)) hx hb d_Mo_write_70 (by decide) ?_
    refine lv_icmp_ne (tgt := 78) hx hb d_Mo_write_71 (by decide) (fun _ => ?_) (fun h => absurd h (by decide))
    refine lv_aload_n hx hb d_Mo_write_78 rfl (lv_at hl 1 rfl) ?_
    refine va_get (D := (dC, dI)) (ci := 5) (v := .ref a9) (C := R_Mo) (T := F_Mo) (N := 25) hx hb hts in_Mo hown hK hP 0 rfl rfl 24 (by decide) (hts _ w_617) (fun _ h9 => h9) rfl d_Mo_write_79 ?_
    refine lv_iload_n hx hb d_Mo_write_82 rfl (lv_at hl 3 rfl) ?_
    refine lv_iload_n hx hb d_Mo_write_83 rfl (lv_at hl 0 rfl) ?_
    refine lv_iadd hx hb d_Mo_write_84 ?_
    refine va_iald hx hb hK hP 2 1 rfl rfl (by show vp_in (nI 0 + nI k) 96; rw [nI_add]; exact vp_in_nI (by omega) (by decide)) d_Mo_write_85 ?_
    refine va_iast hx hb hK hP hD hS 1 0 rfl rfl (by show vp_in (nI 0 + nI k) 512; rw [nI_add]; exact vp_in_nI (by omega) (by decide)) d_Mo_write_86 (fun H locs hP hD hS => ?_)
    have hP : va_P (dC, dI) cls [(h0, .inr (5, [.int 0, .ref a0, .int (-1), .int 0, .int wr, .ref a1, .ref a2, .ref a3, .int 0, .int 0, .ref a4, .int 0, .ref a5, .int 0, .int 0, .int 0, .int 0, .int 0, .int 0, .ref a6, .int 0, .ref a7, .int 0, .ref a8, .ref a9])), (a0, .inl (cA, 512, .inl (upd g (0 + (nI k) : Int32).toNatClampNeg (f (0 + (nI k)).toNatClampNeg)))), (a9, .inl (cC, 96, .inl f))] H := hP
    have hD : va_D A [(h0, .inr (5, [.int 0, .ref a0, .int (-1), .int 0, .int wr, .ref a1, .ref a2, .ref a3, .int 0, .int 0, .ref a4, .int 0, .ref a5, .int 0, .int 0, .int 0, .int 0, .int 0, .int 0, .ref a6, .int 0, .ref a7, .int 0, .ref a8, .ref a9])), (a0, .inl (cA, 512, .inl (upd g (0 + (nI k) : Int32).toNatClampNeg (f (0 + (nI k)).toNatClampNeg)))), (a9, .inl (cC, 96, .inl f))] := hD
    refine lv_iinc (k := 0) (v := nI (k + 1)) hx hb d_Mo_write_87 hl rfl (by rw [lit1]; exact (nI_succ k).symm) (by decide) rfl (fun ls hl => ?_)
    have hl : lv_has ls 4 [(3, .int (nI (k + 1))), (0, .ref h0), (1, .int 0), (2, .int 0)] := hl
    refine lv_goto (tgt := 53) hx hb d_Mo_write_90 (by decide) ?_
    exact ih (k + 1) (by omega) ls H locs (upd g (0 + (nI k) : Int32).toNatClampNeg (f (0 + (nI k)).toNatClampNeg)) (hl) hP hD hS (trivial)
set_option maxHeartbeats 4000000 in
set_option maxRecDepth 100000 in
theorem c_Mo_write0 (l : Launch) (dC : Nat → ClassId) (dI : Nat → Nat → Nat) (h0 a0 a1 a2 a3 a4 a5 a6 a7 a8 a9 : Nat) (cA cC : ClassId) (wr : Int32) (g f : Nat → Int32) (sz : Nat) : Met l y_Mo_write (Cond.code y_Mo_write b_Mo_write 4 none :: gw) ({ frames := 0, cells := 0, slots := 0, locals := 0 }) (cP (dC, dI) [.ref h0, .int 0, .int 0] sz [(h0, .inr (5, [.int 0, .ref a0, .int (-1), .int 0, .int wr, .ref a1, .ref a2, .ref a3, .int 0, .int 0, .ref a4, .int 0, .ref a5, .int 0, .int 0, .int 0, .int 0, .int 0, .int 0, .ref a6, .int 0, .ref a7, .int 0, .ref a8, .ref a9])), (a0, .inl (cA, 512, .inl g)), (a9, .inl (cC, 96, .inl f))] [(cA, .int), (cC, .int)] xT) (va_Qv (fun (u : Nat → Int32) => True) (fun (u : Nat → Int32) t => cB (dC, dI) (va_A [(h0, .inr (5, [.int 0, .ref a0, .int (-1), .int 0, .int wr, .ref a1, .ref a2, .ref a3, .int 0, .int 0, .ref a4, .int 0, .ref a5, .int 0, .int 0, .int 0, .int 0, .int 0, .int 0, .ref a6, .int 0, .ref a7, .int 0, .ref a8, .ref a9])), (a0, .inl (cA, 512, .inl g)), (a9, .inl (cC, 96, .inl f))] sz) [(h0, .inr (5, [.int 0, .ref a0, .int (-1), .int 0, .int (wr + 1), .ref a1, .ref a2, .ref a3, .int 0, .int 0, .ref a4, .int 0, .ref a5, .int 0, .int 0, .int 0, .int 0, .int 0, .int 0, .ref a6, .int 0, .ref a7, .int 0, .ref a8, .ref a9])), (a0, .inl (cA, 512, .inl u)), (a9, .inl (cC, 96, .inl f))] [(cA, .int), (cC, .int)] t) (va_A [(h0, .inr (5, [.int 0, .ref a0, .int (-1), .int 0, .int wr, .ref a1, .ref a2, .ref a3, .int 0, .int 0, .ref a4, .int 0, .ref a5, .int 0, .int 0, .int 0, .int 0, .int 0, .int 0, .ref a6, .int 0, .ref a7, .int 0, .ref a8, .ref a9])), (a0, .inl (cA, 512, .inl g)), (a9, .inl (cC, 96, .inl f))] sz)) 0 0 (va_A [(h0, .inr (5, [.int 0, .ref a0, .int (-1), .int 0, .int wr, .ref a1, .ref a2, .ref a3, .int 0, .int 0, .ref a4, .int 0, .ref a5, .int 0, .int 0, .int 0, .int 0, .int 0, .int 0, .ref a6, .int 0, .ref a7, .int 0, .ref a8, .ref a9])), (a0, .inl (cA, 512, .inl g)), (a9, .inl (cC, 96, .inl f))] sz) := by
  refine Met.ofW (cc := b_Mo_write) (maxL := 4) (ret := none) (by decide) rfl ?_
  intro p e s m args below meth c s₁ B hml hv
  obtain ⟨rfl, hsz, hP, hK, hD0, hkw, hX⟩ := hv
  have hx := B.exec
  have hb := B.bytes
  have hr := B.returns
  have hts := fun w hw => atoms_spec (ws := Cond.code y_Mo_write b_Mo_write 4 none :: gw) B.pre w (List.mem_cons_of_mem _ hw)
  have hown : s.vm.findClass "LineDiskModel" = some m.cls := findClass_of_methodNamed B.named
  have hlocks := B.notSynchronized
  have hin := (name_of_methodNamed B.named B.method).1
  subst hsz
  have hD := hD0.self (sz := s.heap.size)
  generalize hAe : va_A [(h0, .inr (5, [.int 0, .ref a0, .int (-1), .int 0, .int wr, .ref a1, .ref a2, .ref a3, .int 0, .int 0, .ref a4, .int 0, .ref a5, .int 0, .int 0, .int 0, .int 0, .int 0, .int 0, .ref a6, .int 0, .ref a7, .int 0, .ref a8, .ref a9])), (a0, .inl (cA, 512, .inl g)), (a9, .inl (cC, 96, .inl f))] s.heap.size = A at hD ⊢
  have hA : ∀ q : Nat, s.heap.size ≤ q → A q := fun q h => by rw [← hAe]; exact Or.inr h
  have hS : va_S A s.heap s.heap [] := va_S.rf
  have hl := lv_entry ([.ref h0, .int 0, .int 0]) (n := 4) (Nat.le_of_ble_eq_true rfl)
  rw [lg_entry_eq]
  generalize (lg_sl ([.ref h0, .int 0, .int 0]) ++ List.replicate (4 - (lg_sl ([.ref h0, .int 0, .int 0])).length) Slot.unset).toArray = ls at hl ⊢
  have hl : lv_has ls 4 [(0, .ref h0), (1, .int 0), (2, .int 0)] := hl
  have F : CallFix p m c b_Mo_write 4 s ([.ref h0, .int 0, .int 0]).toArray gw "LineDiskModel" := ⟨hx, hb, hml, hown, hts⟩
  refine lv_aload_n hx hb d_Mo_write_0 rfl (lv_at hl 0 rfl) ?_
  refine va_get (D := (dC, dI)) (ci := 5) (v := .int 0) (C := R_Mo) (T := F_Mo) (N := 25) hx hb hts in_Mo hown hK hP 0 rfl rfl 3 (by decide) (hts _ w_596) (fun _ h9 => h9) rfl d_Mo_write_1 ?_
  refine lv_if_eq (tgt := 8) hx hb d_Mo_write_4 (by decide) (fun _ => ?_) (fun h => absurd (by decide) h)
  refine lv_aload_n hx hb d_Mo_write_8 rfl (lv_at hl 0 rfl) ?_
  refine va_get (D := (dC, dI)) (ci := 5) (v := .int (-1)) (C := R_Mo) (T := F_Mo) (N := 25) hx hb hts in_Mo hown hK hP 0 rfl rfl 2 (by decide) (hts _ w_595) (fun _ h9 => h9) rfl d_Mo_write_9 ?_
  refine lv_if_ne (tgt := 20) hx hb d_Mo_write_12 (by decide) (fun _ => ?_) (fun h => absurd h (by decide))
  refine lv_aload_n hx hb d_Mo_write_20 rfl (lv_at hl 0 rfl) ?_
  refine lv_dup hx hb d_Mo_write_21 rfl ?_
  refine va_get (D := (dC, dI)) (ci := 5) (v := .int (-1)) (C := R_Mo) (T := F_Mo) (N := 25) hx hb hts in_Mo hown hK hP 0 rfl rfl 2 (by decide) (hts _ w_595) (fun _ h9 => h9) rfl d_Mo_write_22 ?_
  refine lv_aload_n hx hb d_Mo_write_25 rfl (lv_at hl 0 rfl) ?_
  refine va_get (D := (dC, dI)) (ci := 5) (v := .int (-1)) (C := R_Mo) (T := F_Mo) (N := 25) hx hb hts in_Mo hown hK hP 0 rfl rfl 2 (by decide) (hts _ w_595) (fun _ h9 => h9) rfl d_Mo_write_26 ?_
  refine lv_if_le (tgt := 36) hx hb d_Mo_write_29 (by decide) (fun _ => ?_) (fun h => absurd (by decide) h)
  refine lv_iconst (v := 0) hx hb d_Mo_write_36 (by decide) ?_
  refine lv_isub hx hb d_Mo_write_37 ?_
  refine tv (x2 := (-1)) (by decide) ?_
  refine va_put (D := (dC, dI)) (ci := 5) (v := .int (-1)) (ty := .int) (C := R_Mo) (T := F_Mo) (N := 25) hx hb hts in_Mo t_Mo t_Mo_ok n_Mo hown hK hP hD hS 0 rfl rfl 2 (by decide) (hts _ w_595) (fun _ h9 => h9) rfl (by decide +kernel) (rfl) (rfl) (Nat.le_of_ble_eq_true rfl) d_Mo_write_38 (fun H locs hP hD hS => ?_)
  have hP : va_P (dC, dI) cls [(h0, .inr (5, [.int 0, .ref a0, .int (-1), .int 0, .int wr, .ref a1, .ref a2, .ref a3, .int 0, .int 0, .ref a4, .int 0, .ref a5, .int 0, .int 0, .int 0, .int 0, .int 0, .int 0, .ref a6, .int 0, .ref a7, .int 0, .ref a8, .ref a9])), (a0, .inl (cA, 512, .inl g)), (a9, .inl (cC, 96, .inl f))] H := hP
  have hD : va_D A [(h0, .inr (5, [.int 0, .ref a0, .int (-1), .int 0, .int wr, .ref a1, .ref a2, .ref a3, .int 0, .int 0, .ref a4, .int 0, .ref a5, .int 0, .int 0, .int 0, .int 0, .int 0, .int 0, .ref a6, .int 0, .ref a7, .int 0, .ref a8, .ref a9])), (a0, .inl (cA, 512, .inl g)), (a9, .inl (cC, 96, .inl f))] := hD
  refine lv_aload_n hx hb d_Mo_write_41 rfl (lv_at hl 0 rfl) ?_
  refine lv_dup hx hb d_Mo_write_42 rfl ?_
  refine va_get (D := (dC, dI)) (ci := 5) (v := .int wr) (C := R_Mo) (T := F_Mo) (N := 25) hx hb hts in_Mo hown hK hP 0 rfl rfl 4 (by decide) (hts _ w_597) (fun _ h9 => h9) rfl d_Mo_write_43 ?_
  refine lv_iconst (v := 1) hx hb d_Mo_write_46 (by decide) ?_
  refine lv_iadd hx hb d_Mo_write_47 ?_
  refine va_put (D := (dC, dI)) (ci := 5) (v := .int (wr + 1)) (ty := .int) (C := R_Mo) (T := F_Mo) (N := 25) hx hb hts in_Mo t_Mo t_Mo_ok n_Mo hown hK hP hD hS 0 rfl rfl 4 (by decide) (hts _ w_597) (fun _ h9 => h9) rfl (by decide +kernel) (rfl) (rfl) (Nat.le_of_ble_eq_true rfl) d_Mo_write_48 (fun H locs hP hD hS => ?_)
  have hP : va_P (dC, dI) cls [(h0, .inr (5, [.int 0, .ref a0, .int (-1), .int 0, .int (wr + 1), .ref a1, .ref a2, .ref a3, .int 0, .int 0, .ref a4, .int 0, .ref a5, .int 0, .int 0, .int 0, .int 0, .int 0, .int 0, .ref a6, .int 0, .ref a7, .int 0, .ref a8, .ref a9])), (a0, .inl (cA, 512, .inl g)), (a9, .inl (cC, 96, .inl f))] H := hP
  have hD : va_D A [(h0, .inr (5, [.int 0, .ref a0, .int (-1), .int 0, .int (wr + 1), .ref a1, .ref a2, .ref a3, .int 0, .int 0, .ref a4, .int 0, .ref a5, .int 0, .int 0, .int 0, .int 0, .int 0, .int 0, .ref a6, .int 0, .ref a7, .int 0, .ref a8, .ref a9])), (a0, .inl (cA, 512, .inl g)), (a9, .inl (cC, 96, .inl f))] := hD
  refine lv_iconst (v := 0) hx hb d_Mo_write_51 (by decide) ?_
  refine lv_istore_n (i := 3) hx hb d_Mo_write_52 rfl hl (by decide) rfl (fun ls hl => ?_)
  have hl : lv_has ls 4 [(3, .int 0), (0, .ref h0), (1, .int 0), (2, .int 0)] := hl
  have hl : lv_has ls 4 [(3, .int (nI 0)), (0, .ref h0), (1, .int 0), (2, .int 0)] := lv_sub hl [0, 1, 2, 3] rfl
  refine lp_Mo_write0 hx hb hts hown hkw h0 a0 a1 a2 a3 a4 a5 a6 a7 a8 a9 cA cC (wr + 1) f hK (fun ls H locs g hl hP hD hS _ => ?_) 16 0 (by decide) ls _ _ g hl hP hD hS trivial
  refine W.widen (k := 0) (n := 0) (by decide) (by decide) ?_
  exact W.vret hx hb hr (fun t ht hW => ⟨⟨g, rfl, trivial, cB.of (hP.sub [0, 1, 2] rfl) (hD.sub [0, 1, 2] (by decide) rfl) (hK.sub [0, 1] rfl) ht hW⟩, hS.F ht⟩) hS.2.2 d_Mo_write_93
set_option maxHeartbeats 4000000 in
set_option maxRecDepth 100000 in
theorem lp_Mo_format {p : Program} {l : Launch} {e : Env} {R : Room} {s : State} {m : MethodId} {args : Array Value} {below : List Frame} {meth : Method} {c : Code} {cells slots : Nat} {Q : State → Prop} {A : Nat → Prop} {dC : Nat → ClassId} {dI : Nat → Nat → Nat} (hx : p.tables.exec = Jvm.exec) (hb : c.code = b_Mo_format) (hts : ∀ w ∈ gw, w.before args s = true) (hown : s.vm.findClass "LineDiskModel" = some m.cls) (hkw : kw s) (h0 a0 a1 a2 a3 a4 a5 a6 a7 a8 a9 : Nat) (cA cC : ClassId) (g : Nat → Int32) (hK : va_K (dC, dI) cls [(cA, .int), (cC, .int)] s)  (kk : ∀ (ls : Array Slot) (H : Heap) (locs : List Loc) (f : Nat → Int32), lv_has ls 2 [(1, .int (nI 16)), (0, .ref h0)] → va_P (dC, dI) cls [(h0, .inr (5, [.int 0, .ref a0, .int (-1), .int 0, .int 0, .ref a1, .ref a2, .ref a3, .int 0, .int 0, .ref a4, .int 0, .ref a5, .int 0, .int 0, .int 0, .int 0, .int 0, .int 0, .ref a6, .int 0, .ref a7, .int 0, .ref a8, .ref a9])), (a0, .inl (cA, 512, .inl g)), (a9, .inl (cC, 96, .inl f))] H → va_D A [(h0, .inr (5, [.int 0, .ref a0, .int (-1), .int 0, .int 0, .ref a1, .ref a2, .ref a3, .int 0, .int 0, .ref a4, .int 0, .ref a5, .int 0, .int 0, .int 0, .int 0, .int 0, .int 0, .ref a6, .int 0, .ref a7, .int 0, .ref a8, .ref a9])), (a0, .inl (cA, 512, .inl g)), (a9, .inl (cC, 96, .inl f))] → va_S A s.heap H locs → (True) → W p l e R s m args below meth c H locs cells slots Q (F0 m 46 ls [])) : ∀ (j k : Nat), k + j = 16 → ∀ (ls : Array Slot) (H : Heap) (locs : List Loc) (f : Nat → Int32), lv_has ls 2 [(1, .int (nI k)), (0, .ref h0)] → va_P (dC, dI) cls [(h0, .inr (5, [.int 0, .ref a0, .int (-1), .int 0, .int 0, .ref a1, .ref a2, .ref a3, .int 0, .int 0, .ref a4, .int 0, .ref a5, .int 0, .int 0, .int 0, .int 0, .int 0, .int 0, .ref a6, .int 0, .ref a7, .int 0, .ref a8, .ref a9])), (a0, .inl (cA, 512, .inl g)), (a9, .inl (cC, 96, .inl f))] H → va_D A [(h0, .inr (5, [.int 0, .ref a0, .int (-1), .int 0, .int 0, .ref a1, .ref a2, .ref a3, .int 0, .int 0, .ref a4, .int 0, .ref a5, .int 0, .int 0, .int 0, .int 0, .int 0, .int 0, .ref a6, .int 0, .ref a7, .int 0, .ref a8, .ref a9])), (a0, .inl (cA, 512, .inl g)), (a9, .inl (cC, 96, .inl f))] → va_S A s.heap H locs → (True) → W p l e R s m args below meth c H locs cells slots Q (F0 m 17 ls []) := by
  intro j
  induction j with
  | zero =>
    intro k hk ls H locs f hl hP hD hS hf
    have hk : k = 16 := by omega
    subst hk
    refine lv_iload_n hx hb d_Mo_format_17 rfl (lv_at hl 0 rfl) ?_
    refine lv_bipush (v := 16) hx hb d_Mo_format_18 (by decide) ?_
    refine lv_icmp_ge (tgt := 46) hx hb d_Mo_format_20 (by decide) (fun _ => ?_) (fun h => absurd (nI_le (a := 16) (b := 16) (Nat.le_refl _) (by decide)) h)
    exact kk ls H locs f hl hP hD hS hf
  | succ j ih =>
    intro k hk ls H locs f hl hP hD hS hf
    have hkN : k < 16 := by omega
    refine lv_iload_n hx hb d_Mo_format_17 rfl (lv_at hl 0 rfl) ?_
    refine lv_bipush (v := 16) hx hb d_Mo_format_18 (by decide) ?_
    refine lv_icmp_ge (tgt := 46) hx hb d_Mo_format_20 (by decide) (fun h => absurd h (nI_ge (b := 16) hkN (by decide))) (fun _ => ?_)
    refine lv_aload_n hx hb d_Mo_format_23 rfl (lv_at hl 1 rfl) ?_
    refine va_get (D := (dC, dI)) (ci := 5) (v := .ref a9) (C := R_Mo) (T := F_Mo) (N := 25) hx hb hts in_Mo hown hK hP 0 rfl rfl 24 (by decide) (hts _ w_617) (fun _ h9 => h9) rfl d_Mo_format_24 ?_
    refine lv_iload_n hx hb d_Mo_format_27 rfl (lv_at hl 0 rfl) ?_
    refine lv_iload_n hx hb d_Mo_format_28 rfl (lv_at hl 0 rfl) ?_
    refine lv_if_ne (tgt := 38) hx hb d_Mo_format_29 (by decide) (fun hk0 => ?_) (fun hk0 => ?_)
    · skip
      refine lv_iconst (v := 0) hx hb d_Mo_format_38 (by decide) ?_
      refine va_iast hx hb hK hP hD hS 2 1 rfl rfl (vp_in_nI (by omega) (by decide)) d_Mo_format_39 (fun H locs hP hD hS => ?_)
      have hP : va_P (dC, dI) cls [(h0, .inr (5, [.int 0, .ref a0, .int (-1), .int 0, .int 0, .ref a1, .ref a2, .ref a3, .int 0, .int 0, .ref a4, .int 0, .ref a5, .int 0, .int 0, .int 0, .int 0, .int 0, .int 0, .ref a6, .int 0, .ref a7, .int 0, .ref a8, .ref a9])), (a0, .inl (cA, 512, .inl g)), (a9, .inl (cC, 96, .inl (upd f (nI k : Int32).toNatClampNeg 0)))] H := hP
      have hD : va_D A [(h0, .inr (5, [.int 0, .ref a0, .int (-1), .int 0, .int 0, .ref a1, .ref a2, .ref a3, .int 0, .int 0, .ref a4, .int 0, .ref a5, .int 0, .int 0, .int 0, .int 0, .int 0, .int 0, .ref a6, .int 0, .ref a7, .int 0, .ref a8, .ref a9])), (a0, .inl (cA, 512, .inl g)), (a9, .inl (cC, 96, .inl (upd f (nI k : Int32).toNatClampNeg 0)))] := hD
      refine lv_iinc (k := 0) (v := nI (k + 1)) hx hb d_Mo_format_40 hl rfl (by rw [lit1]; exact (nI_succ k).symm) (by decide) rfl (fun ls hl => ?_)
      have hl : lv_has ls 2 [(1, .int (nI (k + 1))), (0, .ref h0)] := hl
      refine lv_goto (tgt := 17) hx hb d_Mo_format_43 (by decide) ?_
      exact ih (k + 1) (by omega) ls H locs (upd f (nI k : Int32).toNatClampNeg 0) (hl) hP hD hS (trivial)
    · skip
      refine lv_sipush (v := 7077) hx hb d_Mo_format_32 (by decide) ?_
      refine lv_goto (tgt := 39) hx hb d_Mo_format_35 (by decide) ?_
      refine va_iast hx hb hK hP hD hS 2 1 rfl rfl (vp_in_nI (by omega) (by decide)) d_Mo_format_39 (fun H locs hP hD hS => ?_)
      have hP : va_P (dC, dI) cls [(h0, .inr (5, [.int 0, .ref a0, .int (-1), .int 0, .int 0, .ref a1, .ref a2, .ref a3, .int 0, .int 0, .ref a4, .int 0, .ref a5, .int 0, .int 0, .int 0, .int 0, .int 0, .int 0, .ref a6, .int 0, .ref a7, .int 0, .ref a8, .ref a9])), (a0, .inl (cA, 512, .inl g)), (a9, .inl (cC, 96, .inl (upd f (nI k : Int32).toNatClampNeg 7077)))] H := hP
      have hD : va_D A [(h0, .inr (5, [.int 0, .ref a0, .int (-1), .int 0, .int 0, .ref a1, .ref a2, .ref a3, .int 0, .int 0, .ref a4, .int 0, .ref a5, .int 0, .int 0, .int 0, .int 0, .int 0, .int 0, .ref a6, .int 0, .ref a7, .int 0, .ref a8, .ref a9])), (a0, .inl (cA, 512, .inl g)), (a9, .inl (cC, 96, .inl (upd f (nI k : Int32).toNatClampNeg 7077)))] := hD
      refine lv_iinc (k := 0) (v := nI (k + 1)) hx hb d_Mo_format_40 hl rfl (by rw [lit1]; exact (nI_succ k).symm) (by decide) rfl (fun ls hl => ?_)
      have hl : lv_has ls 2 [(1, .int (nI (k + 1))), (0, .ref h0)] := hl
      refine lv_goto (tgt := 17) hx hb d_Mo_format_43 (by decide) ?_
      exact ih (k + 1) (by omega) ls H locs (upd f (nI k : Int32).toNatClampNeg 7077) (hl) hP hD hS (trivial)
set_option maxHeartbeats 4000000 in
set_option maxRecDepth 100000 in
theorem c_Mo_format (l : Launch) (dC : Nat → ClassId) (dI : Nat → Nat → Nat) (h0 a0 a1 a2 a3 a4 a5 a6 a7 a8 a9 : Nat) (cA cC : ClassId) (sz : Nat) : Met l y_Mo_format (Cond.code y_Mo_format b_Mo_format 2 (some .int) :: gw) ({ frames := 1, cells := 0, slots := 0, locals := 23 }) (cP (dC, dI) [.ref h0] sz [(h0, .inr (5, [.int 0, .ref a0, .int (-1), .int 0, .int 0, .ref a1, .ref a2, .ref a3, .int 0, .int 0, .ref a4, .int 0, .ref a5, .int 0, .int 0, .int 0, .int 0, .int 0, .int 0, .ref a6, .int 0, .ref a7, .int 0, .ref a8, .ref a9])), (a0, .inl (cA, 512, .inl (fun _ => 0))), (a9, .inl (cC, 96, .inl (fun _ => 0)))] [(cA, .int), (cC, .int)] xT) (va_Qi (fun (r : Int32) (u : Unit) => r = 0) (fun (u : Unit) t => cB (dC, dI) (va_A [(h0, .inr (5, [.int 0, .ref a0, .int (-1), .int 0, .int 0, .ref a1, .ref a2, .ref a3, .int 0, .int 0, .ref a4, .int 0, .ref a5, .int 0, .int 0, .int 0, .int 0, .int 0, .int 0, .ref a6, .int 0, .ref a7, .int 0, .ref a8, .ref a9])), (a0, .inl (cA, 512, .inl (fun _ => 0))), (a9, .inl (cC, 96, .inl (fun _ => 0)))] sz) [] [] t) (va_A [(h0, .inr (5, [.int 0, .ref a0, .int (-1), .int 0, .int 0, .ref a1, .ref a2, .ref a3, .int 0, .int 0, .ref a4, .int 0, .ref a5, .int 0, .int 0, .int 0, .int 0, .int 0, .int 0, .ref a6, .int 0, .ref a7, .int 0, .ref a8, .ref a9])), (a0, .inl (cA, 512, .inl (fun _ => 0))), (a9, .inl (cC, 96, .inl (fun _ => 0)))] sz)) 0 0 (va_A [(h0, .inr (5, [.int 0, .ref a0, .int (-1), .int 0, .int 0, .ref a1, .ref a2, .ref a3, .int 0, .int 0, .ref a4, .int 0, .ref a5, .int 0, .int 0, .int 0, .int 0, .int 0, .int 0, .ref a6, .int 0, .ref a7, .int 0, .ref a8, .ref a9])), (a0, .inl (cA, 512, .inl (fun _ => 0))), (a9, .inl (cC, 96, .inl (fun _ => 0)))] sz) := by
  refine Met.ofW (cc := b_Mo_format) (maxL := 2) (ret := (some .int)) (by decide) rfl ?_
  intro p e s m args below meth c s₁ B hml hv
  obtain ⟨rfl, hsz, hP, hK, hD0, hkw, hX⟩ := hv
  have hx := B.exec
  have hb := B.bytes
  have hr := B.returns
  have hts := fun w hw => atoms_spec (ws := Cond.code y_Mo_format b_Mo_format 2 (some .int) :: gw) B.pre w (List.mem_cons_of_mem _ hw)
  have hown : s.vm.findClass "LineDiskModel" = some m.cls := findClass_of_methodNamed B.named
  have hlocks := B.notSynchronized
  have hin := (name_of_methodNamed B.named B.method).1
  subst hsz
  have hD := hD0.self (sz := s.heap.size)
  generalize hAe : va_A [(h0, .inr (5, [.int 0, .ref a0, .int (-1), .int 0, .int 0, .ref a1, .ref a2, .ref a3, .int 0, .int 0, .ref a4, .int 0, .ref a5, .int 0, .int 0, .int 0, .int 0, .int 0, .int 0, .ref a6, .int 0, .ref a7, .int 0, .ref a8, .ref a9])), (a0, .inl (cA, 512, .inl (fun _ => 0))), (a9, .inl (cC, 96, .inl (fun _ => 0)))] s.heap.size = A at hD ⊢
  have hA : ∀ q : Nat, s.heap.size ≤ q → A q := fun q h => by rw [← hAe]; exact Or.inr h
  have hS : va_S A s.heap s.heap [] := va_S.rf
  have hl := lv_entry ([.ref h0]) (n := 2) (Nat.le_of_ble_eq_true rfl)
  rw [lg_entry_eq]
  generalize (lg_sl ([.ref h0]) ++ List.replicate (2 - (lg_sl ([.ref h0])).length) Slot.unset).toArray = ls at hl ⊢
  have hl : lv_has ls 2 [(0, .ref h0)] := hl
  have F : CallFix p m c b_Mo_format 2 s ([.ref h0]).toArray gw "LineDiskModel" := ⟨hx, hb, hml, hown, hts⟩
  refine lv_aload_n hx hb d_Mo_format_0 rfl (lv_at hl 0 rfl) ?_
  refine lv_iconst (v := 0) hx hb d_Mo_format_1 (by decide) ?_
  refine va_put (D := (dC, dI)) (ci := 5) (v := .int 0) (ty := .int) (C := R_Mo) (T := F_Mo) (N := 25) hx hb hts in_Mo t_Mo t_Mo_ok n_Mo hown hK hP hD hS 0 rfl rfl 0 (by decide) (hts _ w_593) (fun _ h9 => h9) rfl (by decide +kernel) (rfl) (rfl) (Nat.le_of_ble_eq_true rfl) d_Mo_format_2 (fun H locs hP hD hS => ?_)
  have hP : va_P (dC, dI) cls [(h0, .inr (5, [.int 0, .ref a0, .int (-1), .int 0, .int 0, .ref a1, .ref a2, .ref a3, .int 0, .int 0, .ref a4, .int 0, .ref a5, .int 0, .int 0, .int 0, .int 0, .int 0, .int 0, .ref a6, .int 0, .ref a7, .int 0, .ref a8, .ref a9])), (a0, .inl (cA, 512, .inl (fun _ => 0))), (a9, .inl (cC, 96, .inl (fun _ => 0)))] H := hP
  have hD : va_D A [(h0, .inr (5, [.int 0, .ref a0, .int (-1), .int 0, .int 0, .ref a1, .ref a2, .ref a3, .int 0, .int 0, .ref a4, .int 0, .ref a5, .int 0, .int 0, .int 0, .int 0, .int 0, .int 0, .ref a6, .int 0, .ref a7, .int 0, .ref a8, .ref a9])), (a0, .inl (cA, 512, .inl (fun _ => 0))), (a9, .inl (cC, 96, .inl (fun _ => 0)))] := hD
  refine lv_aload_n hx hb d_Mo_format_5 rfl (lv_at hl 0 rfl) ?_
  refine va_get (D := (dC, dI)) (ci := 5) (v := .int 0) (C := R_Mo) (T := F_Mo) (N := 25) hx hb hts in_Mo hown hK hP 0 rfl rfl 3 (by decide) (hts _ w_596) (fun _ h9 => h9) rfl d_Mo_format_6 ?_
  refine lv_if_eq (tgt := 15) hx hb d_Mo_format_9 (by decide) (fun _ => ?_) (fun h => absurd (by decide) h)
  refine lv_iconst (v := 0) hx hb d_Mo_format_15 (by decide) ?_
  refine lv_istore_n (i := 1) hx hb d_Mo_format_16 rfl hl (by decide) rfl (fun ls hl => ?_)
  have hl : lv_has ls 2 [(1, .int 0), (0, .ref h0)] := hl
  refine lp_Mo_format hx hb hts hown hkw h0 a0 a1 a2 a3 a4 a5 a6 a7 a8 a9 cA cC (fun _ => 0) hK (fun ls H locs f hl hP hD hS _ => ?_) 16 0 (by decide) ls _ _ (fun _ => 0) hl hP hD hS trivial
  refine lv_aload_n hx hb d_Mo_format_46 rfl (lv_at hl 1 rfl) ?_
  refine lv_iconst (v := 2) hx hb d_Mo_format_47 (by decide) ?_
  refine lv_iconst (v := (-1)) hx hb d_Mo_format_48 (by decide) ?_
  refine go_v (wr := []) (tr := []) (rV (C := "LineDiskModel") (ci := 5) (q0 := 0) (b := h0) (n := 2) (As := [.int 2, .int (-1)]) (rest := []) F hkw (c_Mo_write2 l dC dI h0 a0 a1 a2 a3 a4 a5 a6 a7 a8 a9 cA cC (0) (fun _ => 0) f H.size) xT_bl (fun _ _ _ => trivial) w_677 w_679 ws_34 w_6 w_680 rfl rfl (by decide +kernel) ⟨Nat.le_of_ble_eq_true rfl, Nat.le_of_ble_eq_true rfl⟩ (hP.sub (ws' := [(h0, .inr (5, [.int 0, .ref a0, .int (-1), .int 0, .int 0, .ref a1, .ref a2, .ref a3, .int 0, .int 0, .ref a4, .int 0, .ref a5, .int 0, .int 0, .int 0, .int 0, .int 0, .int 0, .ref a6, .int 0, .ref a7, .int 0, .ref a8, .ref a9])), (a0, .inl (cA, 512, .inl (fun _ => 0))), (a9, .inl (cC, 96, .inl f))]) [0, 1, 2] rfl) (hD.sub (ws' := [(h0, .inr (5, [.int 0, .ref a0, .int (-1), .int 0, .int 0, .ref a1, .ref a2, .ref a3, .int 0, .int 0, .ref a4, .int 0, .ref a5, .int 0, .int 0, .int 0, .int 0, .int 0, .int 0, .ref a6, .int 0, .ref a7, .int 0, .ref a8, .ref a9])), (a0, .inl (cA, 512, .inl (fun _ => 0))), (a9, .inl (cC, 96, .inl f))]) [0, 1, 2] (by decide) rfl) (hK.sub (tys' := [(cA, .int), (cC, .int)]) [0, 1] rfl) rfl rfl rfl rfl hl.1 rfl (Nat.le_of_ble_eq_true rfl) d_Mo_format_49 ⟨by decide, by decide⟩) hP hD hK hS hA [0, 1, 2] [] [] rfl rfl (by decide) (by decide) rfl (fun v49 H locs _ hP hD hK hS => ?_)
  have hP : va_P (dC, dI) cls [(h0, .inr (5, [.int 0, .ref a0, .int (-1), .int 0, .int (0 + 1), .ref a1, .ref a2, .ref a3, .int 0, .int 0, .ref a4, .int 0, .ref a5, .int 0, .int 0, .int 0, .int 0, .int 0, .int 0, .ref a6, .int 0, .ref a7, .int 0, .ref a8, .ref a9])), (a0, .inl (cA, 512, .inl v49)), (a9, .inl (cC, 96, .inl f))] H := hP
  have hD : va_D A [(h0, .inr (5, [.int 0, .ref a0, .int (-1), .int 0, .int (0 + 1), .ref a1, .ref a2, .ref a3, .int 0, .int 0, .ref a4, .int 0, .ref a5, .int 0, .int 0, .int 0, .int 0, .int 0, .int 0, .ref a6, .int 0, .ref a7, .int 0, .ref a8, .ref a9])), (a0, .inl (cA, 512, .inl v49)), (a9, .inl (cC, 96, .inl f))] := hD
  have hK : va_K (dC, dI) cls [(cA, .int), (cC, .int)] s := hK
  refine W.widen (k := 0) (n := 0) (by omega) (by omega) ?_
  refine lv_aload_n hx hb d_Mo_format_52 rfl (lv_at hl 1 rfl) ?_
  refine lv_iconst (v := 1) hx hb d_Mo_format_53 (by decide) ?_
  refine lv_iconst (v := (-1)) hx hb d_Mo_format_54 (by decide) ?_
  refine go_v (wr := []) (tr := []) (rV (C := "LineDiskModel") (ci := 5) (q0 := 0) (b := h0) (n := 2) (As := [.int 1, .int (-1)]) (rest := []) F hkw (c_Mo_write1 l dC dI h0 a0 a1 a2 a3 a4 a5 a6 a7 a8 a9 cA cC (0 + 1) (v49) f H.size) xT_bl (fun _ _ _ => trivial) w_677 w_679 ws_34 w_6 w_680 rfl rfl (by decide +kernel) ⟨Nat.le_of_ble_eq_true rfl, Nat.le_of_ble_eq_true rfl⟩ (hP.sub (ws' := [(h0, .inr (5, [.int 0, .ref a0, .int (-1), .int 0, .int (0 + 1), .ref a1, .ref a2, .ref a3, .int 0, .int 0, .ref a4, .int 0, .ref a5, .int 0, .int 0, .int 0, .int 0, .int 0, .int 0, .ref a6, .int 0, .ref a7, .int 0, .ref a8, .ref a9])), (a0, .inl (cA, 512, .inl v49)), (a9, .inl (cC, 96, .inl f))]) [0, 1, 2] rfl) (hD.sub (ws' := [(h0, .inr (5, [.int 0, .ref a0, .int (-1), .int 0, .int (0 + 1), .ref a1, .ref a2, .ref a3, .int 0, .int 0, .ref a4, .int 0, .ref a5, .int 0, .int 0, .int 0, .int 0, .int 0, .int 0, .ref a6, .int 0, .ref a7, .int 0, .ref a8, .ref a9])), (a0, .inl (cA, 512, .inl v49)), (a9, .inl (cC, 96, .inl f))]) [0, 1, 2] (by decide) rfl) (hK.sub (tys' := [(cA, .int), (cC, .int)]) [0, 1] rfl) rfl rfl rfl rfl hl.1 rfl (Nat.le_of_ble_eq_true rfl) d_Mo_format_55 ⟨by decide, by decide⟩) hP hD hK hS hA [0, 1, 2] [] [] rfl rfl (by decide) (by decide) rfl (fun v55 H locs _ hP hD hK hS => ?_)
  have hP : va_P (dC, dI) cls [(h0, .inr (5, [.int 0, .ref a0, .int (-1), .int 0, .int (0 + 1 + 1), .ref a1, .ref a2, .ref a3, .int 0, .int 0, .ref a4, .int 0, .ref a5, .int 0, .int 0, .int 0, .int 0, .int 0, .int 0, .ref a6, .int 0, .ref a7, .int 0, .ref a8, .ref a9])), (a0, .inl (cA, 512, .inl v55)), (a9, .inl (cC, 96, .inl f))] H := hP
  have hD : va_D A [(h0, .inr (5, [.int 0, .ref a0, .int (-1), .int 0, .int (0 + 1 + 1), .ref a1, .ref a2, .ref a3, .int 0, .int 0, .ref a4, .int 0, .ref a5, .int 0, .int 0, .int 0, .int 0, .int 0, .int 0, .ref a6, .int 0, .ref a7, .int 0, .ref a8, .ref a9])), (a0, .inl (cA, 512, .inl v55)), (a9, .inl (cC, 96, .inl f))] := hD
  have hK : va_K (dC, dI) cls [(cA, .int), (cC, .int)] s := hK
  refine W.widen (k := 0) (n := 0) (by omega) (by omega) ?_
  refine lv_aload_n hx hb d_Mo_format_58 rfl (lv_at hl 1 rfl) ?_
  refine lv_iconst (v := 0) hx hb d_Mo_format_59 (by decide) ?_
  refine lv_iconst (v := 0) hx hb d_Mo_format_60 (by decide) ?_
  refine go_v (wr := []) (tr := []) (rV (C := "LineDiskModel") (ci := 5) (q0 := 0) (b := h0) (n := 2) (As := [.int 0, .int 0]) (rest := []) F hkw (c_Mo_write0 l dC dI h0 a0 a1 a2 a3 a4 a5 a6 a7 a8 a9 cA cC (0 + 1 + 1) (v55) f H.size) xT_bl (fun _ _ _ => trivial) w_677 w_679 ws_34 w_6 w_680 rfl rfl (by decide +kernel) ⟨Nat.le_of_ble_eq_true rfl, Nat.le_of_ble_eq_true rfl⟩ (hP.sub (ws' := [(h0, .inr (5, [.int 0, .ref a0, .int (-1), .int 0, .int (0 + 1 + 1), .ref a1, .ref a2, .ref a3, .int 0, .int 0, .ref a4, .int 0, .ref a5, .int 0, .int 0, .int 0, .int 0, .int 0, .int 0, .ref a6, .int 0, .ref a7, .int 0, .ref a8, .ref a9])), (a0, .inl (cA, 512, .inl v55)), (a9, .inl (cC, 96, .inl f))]) [0, 1, 2] rfl) (hD.sub (ws' := [(h0, .inr (5, [.int 0, .ref a0, .int (-1), .int 0, .int (0 + 1 + 1), .ref a1, .ref a2, .ref a3, .int 0, .int 0, .ref a4, .int 0, .ref a5, .int 0, .int 0, .int 0, .int 0, .int 0, .int 0, .ref a6, .int 0, .ref a7, .int 0, .ref a8, .ref a9])), (a0, .inl (cA, 512, .inl v55)), (a9, .inl (cC, 96, .inl f))]) [0, 1, 2] (by decide) rfl) (hK.sub (tys' := [(cA, .int), (cC, .int)]) [0, 1] rfl) rfl rfl rfl rfl hl.1 rfl (Nat.le_of_ble_eq_true rfl) d_Mo_format_61 ⟨by decide, by decide⟩) hP hD hK hS hA [0, 1, 2] [] [] rfl rfl (by decide) (by decide) rfl (fun v61 H locs _ hP hD hK hS => ?_)
  have hP : va_P (dC, dI) cls [(h0, .inr (5, [.int 0, .ref a0, .int (-1), .int 0, .int (0 + 1 + 1 + 1), .ref a1, .ref a2, .ref a3, .int 0, .int 0, .ref a4, .int 0, .ref a5, .int 0, .int 0, .int 0, .int 0, .int 0, .int 0, .ref a6, .int 0, .ref a7, .int 0, .ref a8, .ref a9])), (a0, .inl (cA, 512, .inl v61)), (a9, .inl (cC, 96, .inl f))] H := hP
  have hD : va_D A [(h0, .inr (5, [.int 0, .ref a0, .int (-1), .int 0, .int (0 + 1 + 1 + 1), .ref a1, .ref a2, .ref a3, .int 0, .int 0, .ref a4, .int 0, .ref a5, .int 0, .int 0, .int 0, .int 0, .int 0, .int 0, .ref a6, .int 0, .ref a7, .int 0, .ref a8, .ref a9])), (a0, .inl (cA, 512, .inl v61)), (a9, .inl (cC, 96, .inl f))] := hD
  have hK : va_K (dC, dI) cls [(cA, .int), (cC, .int)] s := hK
  refine W.widen (k := 0) (n := 0) (by omega) (by omega) ?_
  refine lv_aload_n hx hb d_Mo_format_64 rfl (lv_at hl 1 rfl) ?_
  refine va_get (D := (dC, dI)) (ci := 5) (v := .int 0) (C := R_Mo) (T := F_Mo) (N := 25) hx hb hts in_Mo hown hK hP 0 rfl rfl 3 (by decide) (hts _ w_596) (fun _ h9 => h9) rfl d_Mo_format_65 ?_
  refine lv_if_eq (tgt := 76) hx hb d_Mo_format_68 (by decide) (fun _ => ?_) (fun h => absurd (by decide) h)
  refine lv_iconst (v := 0) hx hb d_Mo_format_76 (by decide) ?_
  refine W.widen (k := 0) (n := 0) (by decide) (by decide) ?_
  exact W.iret (v := 0) hx hb hr (fun t ht hW => ⟨⟨0, (), rfl, rfl, cB.of (hP.sub [] rfl) (hD.sub [] (by decide) rfl) (hK.sub [] rfl) ht hW⟩, hS.F ht⟩) hS.2.2 d_Mo_format_77
