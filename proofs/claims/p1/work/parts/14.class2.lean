theorem ab1 {x : Int32} (h : x = 11) : ¬ (x < 0 ∨ 11 < x) := by subst h; decide
theorem ab0 {x : Int32} (h : x = 0) : ¬ (x < 0 ∨ 11 < x) := by subst h; decide
theorem ab9 {x : Int32} (h : x = 9) : ¬ (x < 0 ∨ 11 < x) := by subst h; decide
theorem ab10 {x : Int32} (h : x = 10) : ¬ (x < 0 ∨ 11 < x) := by subst h; decide
theorem li (n : Nat) (h : n < 2 ^ 31) : (Int32.ofNat n).toInt = (n : Int) := nI_toInt h
theorem ab2 {x : Int32} (h1 : ¬ x < 1) (h2 : ¬ 8 < x) : ¬ (x < 0 ∨ 11 < x) := by
  simp only [Int32.lt_iff_toInt_lt] at *
  have e0 : (0 : Int32).toInt = 0 := by decide
  have e1 : (1 : Int32).toInt = 1 := by decide
  have e8 : (8 : Int32).toInt = 8 := by decide
  have e11 : (11 : Int32).toInt = 11 := by decide
  rw [e0, e11]
  rw [e1] at h1
  rw [e8] at h2
  omega
theorem ab4 {x : Int32} (h11 : ¬ x = 11) (h : x < 1 ∨ 8 < x) (h0 : ¬ x = 0) (h9 : ¬ x = 9) (h10 : ¬ x = 10) : x < 0 ∨ 11 < x := by
  have e0 : (0 : Int32).toInt = 0 := by decide
  have e1 : (1 : Int32).toInt = 1 := by decide
  have e8 : (8 : Int32).toInt = 8 := by decide
  have e9 : (9 : Int32).toInt = 9 := by decide
  have e10 : (10 : Int32).toInt = 10 := by decide
  have e11 : (11 : Int32).toInt = 11 := by decide
  simp only [Int32.lt_iff_toInt_lt, ← Int32.toInt_inj] at *
  rw [e11] at h11
  rw [e1, e8] at h
  rw [e0] at h0
  rw [e9] at h9
  rw [e10] at h10
  rw [e0, e11]
  omega
theorem in8 {x : Int32} (h1 : ¬ x < 1) (h2 : ¬ 8 < x) : vp_in (x - 1) 8 := by
  have h0 : ¬ x < 0 := fun h => h1 (Int32.lt_of_lt_of_le h (by decide))
  obtain ⟨j, hj, rfl⟩ := nI_of2 (M := 8) (n := 8) (by decide) h0 (Int32.not_lt.mp h2)
  have hj1 : 1 ≤ j := by
    rcases Nat.lt_or_ge j 1 with h | h
    · have : j = 0 := by omega
      subst this
      exact absurd (by decide) h1
    · exact h
  obtain ⟨i, rfl⟩ : ∃ i, j = i + 1 := ⟨j - 1, by omega⟩
  rw [nI_pred]
  exact vp_in_nI (by omega) (by decide)
set_option maxHeartbeats 4000000 in
set_option maxRecDepth 100000 in
theorem c_Ld_about (l : Launch) (dC : Nat → ClassId) (dI : Nat → Nat → Nat) (h0 o0 o1 o2 o3 o4 : Nat) (c0 : Nat) (w0 w1 w2 w3 w4 w5 : Nat) (cA : ClassId) (x : Int32) (sz : Nat) : Met l y_Ld_about (Cond.code y_Ld_about b_Ld_about 2 (some .int) :: gw) ({ frames := 2, cells := 0, slots := 0, locals := 43 }) (cP (dC, dI) [.ref h0, .int x] sz [(h0, .inr (0, [.ref o0, .ref o1, .ref o2, .ref o3, .ref o4, .int 0])), (o0, .inr (1, [.ref c0, .int (-1), .int 0, .int 0])), (o2, .inr (3, [.ref w0, .ref w1, .ref w2, .ref w3, .ref w4, .ref w5, .int 0, .int 0, .int 0])), (w4, .inl (cA, 8, .inl (fun _ => 0)))] [(cA, .int)] xT) (va_Qi (fun (r : Int32) (u : Unit) => (x < 0 ∨ 11 < x → r = -1) ∧ (¬ (x < 0 ∨ 11 < x) → r = 0)) (fun (u : Unit) t => cB (dC, dI) (va_A [(h0, .inr (0, [.ref o0, .ref o1, .ref o2, .ref o3, .ref o4, .int 0])), (o0, .inr (1, [.ref c0, .int (-1), .int 0, .int 0])), (o2, .inr (3, [.ref w0, .ref w1, .ref w2, .ref w3, .ref w4, .ref w5, .int 0, .int 0, .int 0])), (w4, .inl (cA, 8, .inl (fun _ => 0)))] sz) [] [] t) (va_A [(h0, .inr (0, [.ref o0, .ref o1, .ref o2, .ref o3, .ref o4, .int 0])), (o0, .inr (1, [.ref c0, .int (-1), .int 0, .int 0])), (o2, .inr (3, [.ref w0, .ref w1, .ref w2, .ref w3, .ref w4, .ref w5, .int 0, .int 0, .int 0])), (w4, .inl (cA, 8, .inl (fun _ => 0)))] sz)) 0 0 (va_A [(h0, .inr (0, [.ref o0, .ref o1, .ref o2, .ref o3, .ref o4, .int 0])), (o0, .inr (1, [.ref c0, .int (-1), .int 0, .int 0])), (o2, .inr (3, [.ref w0, .ref w1, .ref w2, .ref w3, .ref w4, .ref w5, .int 0, .int 0, .int 0])), (w4, .inl (cA, 8, .inl (fun _ => 0)))] sz) := by
  refine Met.ofW (cc := b_Ld_about) (maxL := 2) (ret := (some .int)) (by decide) rfl ?_
  intro p e s m args below meth c s₁ B hml hv
  obtain ⟨rfl, hsz, hP, hK, hD0, hkw, hX⟩ := hv
  have hx := B.exec
  have hb := B.bytes
  have hr := B.returns
  have hts := fun w hw => atoms_spec (ws := Cond.code y_Ld_about b_Ld_about 2 (some .int) :: gw) B.pre w (List.mem_cons_of_mem _ hw)
  have hown : s.vm.findClass "LineDisk" = some m.cls := findClass_of_methodNamed B.named
  have hlocks := B.notSynchronized
  have hin := (name_of_methodNamed B.named B.method).1
  subst hsz
  have hD := hD0.self (sz := s.heap.size)
  generalize hAe : va_A [(h0, .inr (0, [.ref o0, .ref o1, .ref o2, .ref o3, .ref o4, .int 0])), (o0, .inr (1, [.ref c0, .int (-1), .int 0, .int 0])), (o2, .inr (3, [.ref w0, .ref w1, .ref w2, .ref w3, .ref w4, .ref w5, .int 0, .int 0, .int 0])), (w4, .inl (cA, 8, .inl (fun _ => 0)))] s.heap.size = A at hD ⊢
  have hA : ∀ q : Nat, s.heap.size ≤ q → A q := fun q h => by rw [← hAe]; exact Or.inr h
  have hS : va_S A s.heap s.heap [] := va_S.rf
  have hl := lv_entry ([.ref h0, .int x]) (n := 2) (Nat.le_of_ble_eq_true rfl)
  rw [lg_entry_eq]
  generalize (lg_sl ([.ref h0, .int x]) ++ List.replicate (2 - (lg_sl ([.ref h0, .int x])).length) Slot.unset).toArray = ls at hl ⊢
  have hl : lv_has ls 2 [(0, .ref h0), (1, .int x)] := hl
  have F : CallFix p m c b_Ld_about 2 s ([.ref h0, .int x]).toArray gw "LineDisk" := ⟨hx, hb, hml, hown, hts⟩
  refine lv_iload_n hx hb d_Ld_about_0 rfl (lv_at hl 1 rfl) ?_
  refine lv_bipush (v := 11) hx hb d_Ld_about_1 (by decide) ?_
  refine lv_icmp_ne (tgt := 14) hx hb d_Ld_about_3 (by decide) (fun h11 => ?_) (fun h11 => ?_)
  · skip
    refine lv_aload_n hx hb d_Ld_about_14 rfl (lv_at hl 0 rfl) ?_
    refine va_get (D := (dC, dI)) (ci := 0) (v := .ref o0) (C := R_Ld) (T := F_Ld) (N := 6) hx hb hts in_Ld hown hK hP 0 rfl rfl 0 (by decide) (hts _ w_152) (fun _ h9 => h9) rfl d_Ld_about_15 ?_
    refine va_getN (D := (dC, dI)) (ci := 1) (v := .int 0) (C := R_St) (T := F_St) (N := 4) hx hb hts in_St hown hK hP 1 rfl rfl 2 (by decide) (hkw.use v_33 rfl) (fun _ h9 => h9) rfl d_Ld_about_18 ?_
    refine lv_if_eq (tgt := 27) hx hb d_Ld_about_21 (by decide) (fun _ => ?_) (fun h => absurd (by decide) h)
    refine lv_iload_n hx hb d_Ld_about_27 rfl (lv_at hl 1 rfl) ?_
    refine lv_iconst (v := 1) hx hb d_Ld_about_28 (by decide) ?_
    refine lv_icmp_lt (tgt := 50) hx hb d_Ld_about_29 (by decide) (fun hlo => ?_) (fun hlo => ?_)
    · skip
      refine lv_iload_n hx hb d_Ld_about_50 rfl (lv_at hl 1 rfl) ?_
      by_cases e_0 : x = 0
      · skip
        refine lv_lookup (off := 33) (tgt := 84) hx hb d_Ld_about_51 (by decide) (by rw [e_0]; decide) (by decide) ?_
        refine lv_aload_n hx hb d_Ld_about_84 rfl (lv_at hl 0 rfl) ?_
        refine va_get (D := (dC, dI)) (ci := 0) (v := .ref o2) (C := R_Ld) (T := F_Ld) (N := 6) hx hb hts in_Ld hown hK hP 0 rfl rfl 2 (by decide) (hts _ w_154) (fun _ h9 => h9) rfl d_Ld_about_85 ?_
        refine va_getN (D := (dC, dI)) (ci := 3) (v := .int 0) (C := R_Wo) (T := F_Wo) (N := 9) hx hb hts in_Wo hown hK hP 2 rfl rfl 6 (by decide) (hkw.use v_79 rfl) (fun _ h9 => h9) rfl d_Ld_about_88 ?_
        refine W.widen (k := 0) (n := 0) (by decide) (by decide) ?_
        exact W.iret (v := 0) hx hb hr (fun t ht hW => ⟨⟨0, (), rfl, ⟨fun h => absurd h (ab0 e_0), fun _ => rfl⟩, cB.of (hP.sub [] rfl) (hD.sub [] (by decide) rfl) (hK.sub [] rfl) ht hW⟩, hS.F ht⟩) hS.2.2 d_Ld_about_91
      · skip
        by_cases e_9 : x = 9
        · skip
          refine lv_lookup (off := 41) (tgt := 92) hx hb d_Ld_about_51 (by decide) (by rw [e_9]; decide) (by decide) ?_
          refine lv_aload_n hx hb d_Ld_about_92 rfl (lv_at hl 0 rfl) ?_
          refine va_get (D := (dC, dI)) (ci := 0) (v := .ref o2) (C := R_Ld) (T := F_Ld) (N := 6) hx hb hts in_Ld hown hK hP 0 rfl rfl 2 (by decide) (hts _ w_154) (fun _ h9 => h9) rfl d_Ld_about_93 ?_
          refine lv_aload_n hx hb d_Ld_about_96 rfl (lv_at hl 0 rfl) ?_
          refine va_get (D := (dC, dI)) (ci := 0) (v := .ref o2) (C := R_Ld) (T := F_Ld) (N := 6) hx hb hts in_Ld hown hK hP 0 rfl rfl 2 (by decide) (hts _ w_154) (fun _ h9 => h9) rfl d_Ld_about_97 ?_
          refine go_i (wr := [(h0, .inr (0, [.ref o0, .ref o1, .ref o2, .ref o3, .ref o4, .int 0])), (o0, .inr (1, [.ref c0, .int (-1), .int 0, .int 0])), (w4, .inl (cA, 8, .inl (fun _ => 0)))]) (tr := [(cA, .int)]) (rV (C := "LineDisk$Workspace") (ci := 3) (q0 := 0) (b := o2) (n := 0) (As := []) (rest := [.ref o2]) F hkw (c_Wo_nextLine l dC dI o2 w0 w1 w2 w3 w4 w5 s.heap.size) xT_bl (fun _ _ _ => trivial) w_439 w_440 w_441 w_4 w_442 rfl rfl (by decide +kernel) ⟨Nat.le_of_ble_eq_true rfl, Nat.le_of_ble_eq_true rfl⟩ (hP.sub (ws' := [(o2, .inr (3, [.ref w0, .ref w1, .ref w2, .ref w3, .ref w4, .ref w5, .int 0, .int 0, .int 0]))]) [2] rfl) (hD.sub (ws' := [(o2, .inr (3, [.ref w0, .ref w1, .ref w2, .ref w3, .ref w4, .ref w5, .int 0, .int 0, .int 0]))]) [2] (by decide) rfl) (hK.sub (tys' := []) [] rfl) rfl rfl rfl rfl hl.1 rfl (Nat.le_of_ble_eq_true rfl) d_Ld_about_100 ⟨by decide, by decide⟩) hP hD hK hS hA [2] [0, 1, 3] [0] rfl rfl (by decide) (by decide) rfl (fun r u H locs hw hP hD hK hS => ?_)
          have hP : va_P (dC, dI) cls [(h0, .inr (0, [.ref o0, .ref o1, .ref o2, .ref o3, .ref o4, .int 0])), (o0, .inr (1, [.ref c0, .int (-1), .int 0, .int 0])), (w4, .inl (cA, 8, .inl (fun _ => 0))), (o2, .inr (3, [.ref w0, .ref w1, .ref w2, .ref w3, .ref w4, .ref w5, .int 0, .int 0, .int 0]))] H := hP
          have hD : va_D A [(h0, .inr (0, [.ref o0, .ref o1, .ref o2, .ref o3, .ref o4, .int 0])), (o0, .inr (1, [.ref c0, .int (-1), .int 0, .int 0])), (w4, .inl (cA, 8, .inl (fun _ => 0))), (o2, .inr (3, [.ref w0, .ref w1, .ref w2, .ref w3, .ref w4, .ref w5, .int 0, .int 0, .int 0]))] := hD
          have hK : va_K (dC, dI) cls [(cA, .int)] s := hK
          refine W.widen (k := 0) (n := 0) (by omega) (by omega) ?_
          subst hw
          refine go_i (wr := [(h0, .inr (0, [.ref o0, .ref o1, .ref o2, .ref o3, .ref o4, .int 0])), (o0, .inr (1, [.ref c0, .int (-1), .int 0, .int 0])), (w4, .inl (cA, 8, .inl (fun _ => 0)))]) (tr := [(cA, .int)]) (rV (C := "LineDisk$Workspace") (ci := 3) (q0 := 0) (b := o2) (n := 1) (As := [.int (-1)]) (rest := []) F hkw (c_Wo_numberOf l dC dI o2 w0 w1 w2 w3 w4 w5 H.size) xT_bl (fun _ _ _ => trivial) w_463 w_244 w_245 w_4 w_246 rfl rfl (by decide +kernel) ⟨Nat.le_of_ble_eq_true rfl, Nat.le_of_ble_eq_true rfl⟩ (hP.sub (ws' := [(o2, .inr (3, [.ref w0, .ref w1, .ref w2, .ref w3, .ref w4, .ref w5, .int 0, .int 0, .int 0]))]) [3] rfl) (hD.sub (ws' := [(o2, .inr (3, [.ref w0, .ref w1, .ref w2, .ref w3, .ref w4, .ref w5, .int 0, .int 0, .int 0]))]) [3] (by decide) rfl) (hK.sub (tys' := []) [] rfl) rfl rfl rfl rfl hl.1 rfl (Nat.le_of_ble_eq_true rfl) d_Ld_about_103 ⟨by decide, by decide⟩) hP hD hK hS hA [3] [0, 1, 2] [0] rfl rfl (by decide) (by decide) rfl (fun r u H locs hw hP hD hK hS => ?_)
          have hP : va_P (dC, dI) cls [(h0, .inr (0, [.ref o0, .ref o1, .ref o2, .ref o3, .ref o4, .int 0])), (o0, .inr (1, [.ref c0, .int (-1), .int 0, .int 0])), (w4, .inl (cA, 8, .inl (fun _ => 0))), (o2, .inr (3, [.ref w0, .ref w1, .ref w2, .ref w3, .ref w4, .ref w5, .int 0, .int 0, .int 0]))] H := hP
          have hD : va_D A [(h0, .inr (0, [.ref o0, .ref o1, .ref o2, .ref o3, .ref o4, .int 0])), (o0, .inr (1, [.ref c0, .int (-1), .int 0, .int 0])), (w4, .inl (cA, 8, .inl (fun _ => 0))), (o2, .inr (3, [.ref w0, .ref w1, .ref w2, .ref w3, .ref w4, .ref w5, .int 0, .int 0, .int 0]))] := hD
          have hK : va_K (dC, dI) cls [(cA, .int)] s := hK
          refine W.widen (k := 0) (n := 0) (by omega) (by omega) ?_
          subst hw
          refine W.widen (k := 0) (n := 0) (by decide) (by decide) ?_
          exact W.iret (v := 0) hx hb hr (fun t ht hW => ⟨⟨0, (), rfl, ⟨fun h => absurd h (ab9 e_9), fun _ => rfl⟩, cB.of (hP.sub [] rfl) (hD.sub [] (by decide) rfl) (hK.sub [] rfl) ht hW⟩, hS.F ht⟩) hS.2.2 d_Ld_about_106
        · skip
          by_cases e_10 : x = 10
          · skip
            refine lv_lookup (off := 56) (tgt := 107) hx hb d_Ld_about_51 (by decide) (by rw [e_10]; decide) (by decide) ?_
            refine lv_aload_n hx hb d_Ld_about_107 rfl (lv_at hl 0 rfl) ?_
            refine va_get (D := (dC, dI)) (ci := 0) (v := .ref o2) (C := R_Ld) (T := F_Ld) (N := 6) hx hb hts in_Ld hown hK hP 0 rfl rfl 2 (by decide) (hts _ w_154) (fun _ h9 => h9) rfl d_Ld_about_108 ?_
            refine va_getN (D := (dC, dI)) (ci := 3) (v := .int 0) (C := R_Wo) (T := F_Wo) (N := 9) hx hb hts in_Wo hown hK hP 2 rfl rfl 8 (by decide) (hkw.use v_83 rfl) (fun _ h9 => h9) rfl d_Ld_about_111 ?_
            refine W.widen (k := 0) (n := 0) (by decide) (by decide) ?_
            exact W.iret (v := 0) hx hb hr (fun t ht hW => ⟨⟨0, (), rfl, ⟨fun h => absurd h (ab10 e_10), fun _ => rfl⟩, cB.of (hP.sub [] rfl) (hD.sub [] (by decide) rfl) (hK.sub [] rfl) ht hW⟩, hS.F ht⟩) hS.2.2 d_Ld_about_114
          · skip
            refine lv_lookup (off := 64) (tgt := 115) hx hb d_Ld_about_51 (by decide) (by show Op.lookupswitch.offset [(0, 33), (9, 41), (10, 56)] 64 x.toInt = 64; rw [lv_osw e_0 (by decide), lv_osw e_9 (by decide), lv_osw e_10 (by decide)]; rfl) (by decide) ?_
            refine lv_iconst (v := (-1)) hx hb d_Ld_about_115 (by decide) ?_
            refine W.widen (k := 0) (n := 0) (by decide) (by decide) ?_
            exact W.iret (v := (-1)) hx hb hr (fun t ht hW => ⟨⟨(-1), (), rfl, ⟨fun _ => rfl, fun h => absurd (ab4 h11 (Or.inl hlo) e_0 e_9 e_10) h⟩, cB.of (hP.sub [] rfl) (hD.sub [] (by decide) rfl) (hK.sub [] rfl) ht hW⟩, hS.F ht⟩) hS.2.2 d_Ld_about_116
    · skip
      refine lv_iload_n hx hb d_Ld_about_32 rfl (lv_at hl 1 rfl) ?_
      refine lv_bipush (v := 8) hx hb d_Ld_about_33 (by decide) ?_
      refine lv_icmp_gt (tgt := 50) hx hb d_Ld_about_35 (by decide) (fun hhi => ?_) (fun hhi => ?_)
      · skip
        refine lv_iload_n hx hb d_Ld_about_50 rfl (lv_at hl 1 rfl) ?_
        by_cases e_0 : x = 0
        · skip
          refine lv_lookup (off := 33) (tgt := 84) hx hb d_Ld_about_51 (by decide) (by rw [e_0]; decide) (by decide) ?_
          refine lv_aload_n hx hb d_Ld_about_84 rfl (lv_at hl 0 rfl) ?_
          refine va_get (D := (dC, dI)) (ci := 0) (v := .ref o2) (C := R_Ld) (T := F_Ld) (N := 6) hx hb hts in_Ld hown hK hP 0 rfl rfl 2 (by decide) (hts _ w_154) (fun _ h9 => h9) rfl d_Ld_about_85 ?_
          refine va_getN (D := (dC, dI)) (ci := 3) (v := .int 0) (C := R_Wo) (T := F_Wo) (N := 9) hx hb hts in_Wo hown hK hP 2 rfl rfl 6 (by decide) (hkw.use v_79 rfl) (fun _ h9 => h9) rfl d_Ld_about_88 ?_
          refine W.widen (k := 0) (n := 0) (by decide) (by decide) ?_
          exact W.iret (v := 0) hx hb hr (fun t ht hW => ⟨⟨0, (), rfl, ⟨fun h => absurd h (ab0 e_0), fun _ => rfl⟩, cB.of (hP.sub [] rfl) (hD.sub [] (by decide) rfl) (hK.sub [] rfl) ht hW⟩, hS.F ht⟩) hS.2.2 d_Ld_about_91
        · skip
          by_cases e_9 : x = 9
          · skip
            refine lv_lookup (off := 41) (tgt := 92) hx hb d_Ld_about_51 (by decide) (by rw [e_9]; decide) (by decide) ?_
            refine lv_aload_n hx hb d_Ld_about_92 rfl (lv_at hl 0 rfl) ?_
            refine va_get (D := (dC, dI)) (ci := 0) (v := .ref o2) (C := R_Ld) (T := F_Ld) (N := 6) hx hb hts in_Ld hown hK hP 0 rfl rfl 2 (by decide) (hts _ w_154) (fun _ h9 => h9) rfl d_Ld_about_93 ?_
            refine lv_aload_n hx hb d_Ld_about_96 rfl (lv_at hl 0 rfl) ?_
            refine va_get (D := (dC, dI)) (ci := 0) (v := .ref o2) (C := R_Ld) (T := F_Ld) (N := 6) hx hb hts in_Ld hown hK hP 0 rfl rfl 2 (by decide) (hts _ w_154) (fun _ h9 => h9) rfl d_Ld_about_97 ?_
            refine go_i (wr := [(h0, .inr (0, [.ref o0, .ref o1, .ref o2, .ref o3, .ref o4, .int 0])), (o0, .inr (1, [.ref c0, .int (-1), .int 0, .int 0])), (w4, .inl (cA, 8, .inl (fun _ => 0)))]) (tr := [(cA, .int)]) (rV (C := "LineDisk$Workspace") (ci := 3) (q0 := 0) (b := o2) (n := 0) (As := []) (rest := [.ref o2]) F hkw (c_Wo_nextLine l dC dI o2 w0 w1 w2 w3 w4 w5 s.heap.size) xT_bl (fun _ _ _ => trivial) w_439 w_440 w_441 w_4 w_442 rfl rfl (by decide +kernel) ⟨Nat.le_of_ble_eq_true rfl, Nat.le_of_ble_eq_true rfl⟩ (hP.sub (ws' := [(o2, .inr (3, [.ref w0, .ref w1, .ref w2, .ref w3, .ref w4, .ref w5, .int 0, .int 0, .int 0]))]) [2] rfl) (hD.sub (ws' := [(o2, .inr (3, [.ref w0, .ref w1, .ref w2, .ref w3, .ref w4, .ref w5, .int 0, .int 0, .int 0]))]) [2] (by decide) rfl) (hK.sub (tys' := []) [] rfl) rfl rfl rfl rfl hl.1 rfl (Nat.le_of_ble_eq_true rfl) d_Ld_about_100 ⟨by decide, by decide⟩) hP hD hK hS hA [2] [0, 1, 3] [0] rfl rfl (by decide) (by decide) rfl (fun r u H locs hw hP hD hK hS => ?_)
            have hP : va_P (dC, dI) cls [(h0, .inr (0, [.ref o0, .ref o1, .ref o2, .ref o3, .ref o4, .int 0])), (o0, .inr (1, [.ref c0, .int (-1), .int 0, .int 0])), (w4, .inl (cA, 8, .inl (fun _ => 0))), (o2, .inr (3, [.ref w0, .ref w1, .ref w2, .ref w3, .ref w4, .ref w5, .int 0, .int 0, .int 0]))] H := hP
            have hD : va_D A [(h0, .inr (0, [.ref o0, .ref o1, .ref o2, .ref o3, .ref o4, .int 0])), (o0, .inr (1, [.ref c0, .int (-1), .int 0, .int 0])), (w4, .inl (cA, 8, .inl (fun _ => 0))), (o2, .inr (3, [.ref w0, .ref w1, .ref w2, .ref w3, .ref w4, .ref w5, .int 0, .int 0, .int 0]))] := hD
            have hK : va_K (dC, dI) cls [(cA, .int)] s := hK
            refine W.widen (k := 0) (n := 0) (by omega) (by omega) ?_
            subst hw
            refine go_i (wr := [(h0, .inr (0, [.ref o0, .ref o1, .ref o2, .ref o3, .ref o4, .int 0])), (o0, .inr (1, [.ref c0, .int (-1), .int 0, .int 0])), (w4, .inl (cA, 8, .inl (fun _ => 0)))]) (tr := [(cA, .int)]) (rV (C := "LineDisk$Workspace") (ci := 3) (q0 := 0) (b := o2) (n := 1) (As := [.int (-1)]) (rest := []) F hkw (c_Wo_numberOf l dC dI o2 w0 w1 w2 w3 w4 w5 H.size) xT_bl (fun _ _ _ => trivial) w_463 w_244 w_245 w_4 w_246 rfl rfl (by decide +kernel) ⟨Nat.le_of_ble_eq_true rfl, Nat.le_of_ble_eq_true rfl⟩ (hP.sub (ws' := [(o2, .inr (3, [.ref w0, .ref w1, .ref w2, .ref w3, .ref w4, .ref w5, .int 0, .int 0, .int 0]))]) [3] rfl) (hD.sub (ws' := [(o2, .inr (3, [.ref w0, .ref w1, .ref w2, .ref w3, .ref w4, .ref w5, .int 0, .int 0, .int 0]))]) [3] (by decide) rfl) (hK.sub (tys' := []) [] rfl) rfl rfl rfl rfl hl.1 rfl (Nat.le_of_ble_eq_true rfl) d_Ld_about_103 ⟨by decide, by decide⟩) hP hD hK hS hA [3] [0, 1, 2] [0] rfl rfl (by decide) (by decide) rfl (fun r u H locs hw hP hD hK hS => ?_)
            have hP : va_P (dC, dI) cls [(h0, .inr (0, [.ref o0, .ref o1, .ref o2, .ref o3, .ref o4, .int 0])), (o0, .inr (1, [.ref c0, .int (-1), .int 0, .int 0])), (w4, .inl (cA, 8, .inl (fun _ => 0))), (o2, .inr (3, [.ref w0, .ref w1, .ref w2, .ref w3, .ref w4, .ref w5, .int 0, .int 0, .int 0]))] H := hP
            have hD : va_D A [(h0, .inr (0, [.ref o0, .ref o1, .ref o2, .ref o3, .ref o4, .int 0])), (o0, .inr (1, [.ref c0, .int (-1), .int 0, .int 0])), (w4, .inl (cA, 8, .inl (fun _ => 0))), (o2, .inr (3, [.ref w0, .ref w1, .ref w2, .ref w3, .ref w4, .ref w5, .int 0, .int 0, .int 0]))] := hD
            have hK : va_K (dC, dI) cls [(cA, .int)] s := hK
            refine W.widen (k := 0) (n := 0) (by omega) (by omega) ?_
            subst hw
            refine W.widen (k := 0) (n := 0) (by decide) (by decide) ?_
            exact W.iret (v := 0) hx hb hr (fun t ht hW => ⟨⟨0, (), rfl, ⟨fun h => absurd h (ab9 e_9), fun _ => rfl⟩, cB.of (hP.sub [] rfl) (hD.sub [] (by decide) rfl) (hK.sub [] rfl) ht hW⟩, hS.F ht⟩) hS.2.2 d_Ld_about_106
          · skip
            by_cases e_10 : x = 10
            · skip
              refine lv_lookup (off := 56) (tgt := 107) hx hb d_Ld_about_51 (by decide) (by rw [e_10]; decide) (by decide) ?_
              refine lv_aload_n hx hb d_Ld_about_107 rfl (lv_at hl 0 rfl) ?_
              refine va_get (D := (dC, dI)) (ci := 0) (v := .ref o2) (C := R_Ld) (T := F_Ld) (N := 6) hx hb hts in_Ld hown hK hP 0 rfl rfl 2 (by decide) (hts _ w_154) (fun _ h9 => h9) rfl d_Ld_about_108 ?_
              refine va_getN (D := (dC, dI)) (ci := 3) (v := .int 0) (C := R_Wo) (T := F_Wo) (N := 9) hx hb hts in_Wo hown hK hP 2 rfl rfl 8 (by decide) (hkw.use v_83 rfl) (fun _ h9 => h9) rfl d_Ld_about_111 ?_
              refine W.widen (k := 0) (n := 0) (by decide) (by decide) ?_
              exact W.iret (v := 0) hx hb hr (fun t ht hW => ⟨⟨0, (), rfl, ⟨fun h => absurd h (ab10 e_10), fun _ => rfl⟩, cB.of (hP.sub [] rfl) (hD.sub [] (by decide) rfl) (hK.sub [] rfl) ht hW⟩, hS.F ht⟩) hS.2.2 d_Ld_about_114
            · skip
              refine lv_lookup (off := 64) (tgt := 115) hx hb d_Ld_about_51 (by decide) (by show Op.lookupswitch.offset [(0, 33), (9, 41), (10, 56)] 64 x.toInt = 64; rw [lv_osw e_0 (by decide), lv_osw e_9 (by decide), lv_osw e_10 (by decide)]; rfl) (by decide) ?_
              refine lv_iconst (v := (-1)) hx hb d_Ld_about_115 (by decide) ?_
              refine W.widen (k := 0) (n := 0) (by decide) (by decide) ?_
              exact W.iret (v := (-1)) hx hb hr (fun t ht hW => ⟨⟨(-1), (), rfl, ⟨fun _ => rfl, fun h => absurd (ab4 h11 (Or.inr hhi) e_0 e_9 e_10) h⟩, cB.of (hP.sub [] rfl) (hD.sub [] (by decide) rfl) (hK.sub [] rfl) ht hW⟩, hS.F ht⟩) hS.2.2 d_Ld_about_116
      · skip
        refine lv_aload_n hx hb d_Ld_about_38 rfl (lv_at hl 0 rfl) ?_
        refine va_get (D := (dC, dI)) (ci := 0) (v := .ref o2) (C := R_Ld) (T := F_Ld) (N := 6) hx hb hts in_Ld hown hK hP 0 rfl rfl 2 (by decide) (hts _ w_154) (fun _ h9 => h9) rfl d_Ld_about_39 ?_
        refine va_getN (D := (dC, dI)) (ci := 3) (v := .ref w4) (C := R_Wo) (T := F_Wo) (N := 9) hx hb hts in_Wo hown hK hP 2 rfl rfl 4 (by decide) (hkw.use v_75 rfl) (fun _ h9 => h9) rfl d_Ld_about_42 ?_
        refine lv_iload_n hx hb d_Ld_about_45 rfl (lv_at hl 1 rfl) ?_
        refine lv_iconst (v := 1) hx hb d_Ld_about_46 (by decide) ?_
        refine lv_isub hx hb d_Ld_about_47 ?_
        refine va_iald hx hb hK hP 3 0 rfl rfl (in8 hlo hhi) d_Ld_about_48 ?_
        refine tv (x2 := 0) (by exact rfl) ?_
        refine W.widen (k := 0) (n := 0) (by decide) (by decide) ?_
        exact W.iret (v := 0) hx hb hr (fun t ht hW => ⟨⟨0, (), rfl, ⟨fun h => absurd h (ab2 hlo hhi), fun _ => rfl⟩, cB.of (hP.sub [] rfl) (hD.sub [] (by decide) rfl) (hK.sub [] rfl) ht hW⟩, hS.F ht⟩) hS.2.2 d_Ld_about_49
  · skip
    refine lv_aload_n hx hb d_Ld_about_6 rfl (lv_at hl 0 rfl) ?_
    refine va_get (D := (dC, dI)) (ci := 0) (v := .ref o0) (C := R_Ld) (T := F_Ld) (N := 6) hx hb hts in_Ld hown hK hP 0 rfl rfl 0 (by decide) (hts _ w_152) (fun _ h9 => h9) rfl d_Ld_about_7 ?_
    refine va_getN (D := (dC, dI)) (ci := 1) (v := .int 0) (C := R_St) (T := F_St) (N := 4) hx hb hts in_St hown hK hP 1 rfl rfl 3 (by decide) (hkw.use v_35 rfl) (fun _ h9 => h9) rfl d_Ld_about_10 ?_
    refine W.widen (k := 0) (n := 0) (by decide) (by decide) ?_
    exact W.iret (v := 0) hx hb hr (fun t ht hW => ⟨⟨0, (), rfl, ⟨fun h => absurd h (ab1 h11), fun _ => rfl⟩, cB.of (hP.sub [] rfl) (hD.sub [] (by decide) rfl) (hK.sub [] rfl) ht hW⟩, hS.F ht⟩) hS.2.2 d_Ld_about_13
def xR (row : Nat) (f : Nat → Int32) (h0 c0 : Nat) : State → Prop := fun U => va_X row 16 f U U.heap ∧ row < U.heap.size ∧ row ≠ h0 ∧ row ≠ c0
theorem xR_bl {row : Nat} {f : Nat → Int32} {h0 c0 : Nat} : xBl (xR row f h0 c0) := fun U g mk a h => ⟨va_X.moved (u := U) (U := U.calling g mk a) (Vm.Alike.refl U.vm) h.1, h.2⟩
theorem xR_of {row : Nat} {f : Nat → Int32} {h0 c0 : Nat} {A : Nat → Prop} {s : State} {H : Heap} {locs : List Loc} {ws : va_W} {i j : Nat} {e0 e1 : va_E} (h1 : va_X row 16 f s s.heap) (h2 : row < s.heap.size) (h3 : ¬ A row) (hS : va_S A s.heap H locs) (hD : va_D A ws) (hi : ws[i]? = some (h0, e0)) (hj : ws[j]? = some (c0, e1)) : ∀ U : State, U.heap = H → s.WarmedH U.vm → xR row f h0 c0 U :=
  fun U hU hW => ⟨by rw [hU]; exact va_X.moved hW.alike (h1.kept (hS.2.1 row h2 h3)), by rw [hU]; exact Nat.lt_of_lt_of_le h2 hS.1, fun e => h3 (by rw [e]; exact hD.2 i _ hi), fun e => h3 (by rw [e]; exact hD.2 j _ hj)⟩
def xF (t1 t2 : Nat) (f1 f2 : Nat → Int32) (ws : va_W) : State → Prop := fun U => va_Z "LineDisk" "EMPTY_BLOCK" "[I" (.ref t1) (va_A ws U.heap.size) U U.heap ∧ va_Z "LineDisk" "FORMATTED_HEAD" "[I" (.ref t2) (va_A ws U.heap.size) U U.heap ∧ va_X t1 16 f1 U U.heap ∧ va_X t2 16 f2 U U.heap ∧ t1 < U.heap.size ∧ t2 < U.heap.size ∧ ¬ va_A ws U.heap.size t1 ∧ ¬ va_A ws U.heap.size t2
theorem xF_bl {t1 t2 : Nat} {f1 f2 : Nat → Int32} {ws : va_W} : xBl (xF t1 t2 f1 f2 ws) := fun U g mk a h => ⟨va_Z.moved (u := U) (U := U.calling g mk a) (Vm.Alike.refl U.vm) h.1, va_Z.moved (u := U) (U := U.calling g mk a) (Vm.Alike.refl U.vm) h.2.1, va_X.moved (u := U) (U := U.calling g mk a) (Vm.Alike.refl U.vm) h.2.2.1, va_X.moved (u := U) (U := U.calling g mk a) (Vm.Alike.refl U.vm) h.2.2.2.1, h.2.2.2.2⟩
set_option maxHeartbeats 4000000 in
set_option maxRecDepth 100000 in
theorem c_St_write (l : Launch) (dC : Nat → ClassId) (dI : Nat → Nat → Nat) (h0 c0 : Nat) (cA : ClassId) (g : Nat → Int32) (wr : Int32) (row : Nat) (f : Nat → Int32) (bk dp : Int32) (hb1 : ¬ bk < 0) (hb2 : ¬ 32 ≤ bk) (hm : bk * 16 = dp) (hd1 : ¬ dp < 0) (hd2 : dp.toNatClampNeg + (16 : Int32).toNatClampNeg ≤ 512) (sz : Nat) : Met l y_St_write (Cond.code y_St_write b_St_write 4 (some .boolean) :: gw) ({ frames := 1, cells := 0, slots := 0, locals := 100 }) (cP (dC, dI) [.ref h0, .int bk, .ref row, .int 0] sz [(h0, .inr (1, [.ref c0, .int (-1), .int 0, .int wr])), (c0, .inl (cA, 512, .inl g))] [(cA, .int)] (xR row f h0 c0)) (va_Qi (fun (r : Int32) (u : Nat → Int32) => r = 1) (fun (u : Nat → Int32) t => cB (dC, dI) (va_A [(h0, .inr (1, [.ref c0, .int (-1), .int 0, .int wr])), (c0, .inl (cA, 512, .inl g))] sz) [(h0, .inr (1, [.ref c0, .int (-1), .int 0, .int (wr + 1)])), (c0, .inl (cA, 512, .inl u))] [(cA, .int)] t) (va_A [(h0, .inr (1, [.ref c0, .int (-1), .int 0, .int wr])), (c0, .inl (cA, 512, .inl g))] sz)) 0 0 (va_A [(h0, .inr (1, [.ref c0, .int (-1), .int 0, .int wr])), (c0, .inl (cA, 512, .inl g))] sz) := by
  refine Met.ofW (cc := b_St_write) (maxL := 4) (ret := (some .boolean)) (by decide) rfl ?_
  intro p e s m args below meth c s₁ B hml hv
  obtain ⟨rfl, hsz, hP, hK, hD0, hkw, hX⟩ := hv
  have hx := B.exec
  have hb := B.bytes
  have hr := B.returns
  have hts := fun w hw => atoms_spec (ws := Cond.code y_St_write b_St_write 4 (some .boolean) :: gw) B.pre w (List.mem_cons_of_mem _ hw)
  have hown : s.vm.findClass "LineDisk$Store" = some m.cls := findClass_of_methodNamed B.named
  have hlocks := B.notSynchronized
  have hin := (name_of_methodNamed B.named B.method).1
  subst hsz
  have hD := hD0.self (sz := s.heap.size)
  generalize hAe : va_A [(h0, .inr (1, [.ref c0, .int (-1), .int 0, .int wr])), (c0, .inl (cA, 512, .inl g))] s.heap.size = A at hD ⊢
  have hA : ∀ q : Nat, s.heap.size ≤ q → A q := fun q h => by rw [← hAe]; exact Or.inr h
  have hS : va_S A s.heap s.heap [] := va_S.rf
  have hl := lv_entry ([.ref h0, .int bk, .ref row, .int 0]) (n := 4) (Nat.le_of_ble_eq_true rfl)
  rw [lg_entry_eq]
  generalize (lg_sl ([.ref h0, .int bk, .ref row, .int 0]) ++ List.replicate (4 - (lg_sl ([.ref h0, .int bk, .ref row, .int 0])).length) Slot.unset).toArray = ls at hl ⊢
  have hl : lv_has ls 4 [(0, .ref h0), (1, .int bk), (2, .ref row), (3, .int 0)] := hl
  have F : CallFix p m c b_St_write 4 s ([.ref h0, .int bk, .ref row, .int 0]).toArray gw "LineDisk$Store" := ⟨hx, hb, hml, hown, hts⟩
  obtain ⟨hXr, hrl, hr1, hr2⟩ := hX
  have hbA : ¬ A row := by
    rw [← hAe]
    rintro (⟨k, e, h⟩ | h)
    · match k, h with
      | 0, h => exact hr1 (by cases h; rfl)
      | 1, h => exact hr2 (by cases h; rfl)
    · omega
  refine lv_aload_n hx hb d_St_write_0 rfl (lv_at hl 0 rfl) ?_
  refine va_get (D := (dC, dI)) (ci := 1) (v := .int (-1)) (C := R_St) (T := F_St) (N := 4) hx hb hts in_St hown hK hP 0 rfl rfl 1 (by decide) (hts _ w_30) (fun _ h9 => h9) rfl d_St_write_1 ?_
  refine lv_if_ne (tgt := 19) hx hb d_St_write_4 (by decide) (fun _ => ?_) (fun h => absurd h (by decide))
  refine lv_aload_n hx hb d_St_write_19 rfl (lv_at hl 0 rfl) ?_
  refine va_get (D := (dC, dI)) (ci := 1) (v := .int (-1)) (C := R_St) (T := F_St) (N := 4) hx hb hts in_St hown hK hP 0 rfl rfl 1 (by decide) (hts _ w_30) (fun _ h9 => h9) rfl d_St_write_20 ?_
  refine lv_if_le (tgt := 36) hx hb d_St_write_23 (by decide) (fun _ => ?_) (fun h => absurd (by decide) h)
  refine lv_iload_n hx hb d_St_write_36 rfl (lv_at hl 1 rfl) ?_
  refine lv_if_lt (tgt := 84) hx hb d_St_write_37 (by decide) (fun h => absurd h (hb1)) (fun _ => ?_)
  refine lv_iload_n hx hb d_St_write_40 rfl (lv_at hl 1 rfl) ?_
  refine lv_bipush (v := 32) hx hb d_St_write_41 (by decide) ?_
  refine lv_icmp_ge (tgt := 84) hx hb d_St_write_43 (by decide) (fun h => absurd h (hb2)) (fun _ => ?_)
  refine lv_iload_n hx hb d_St_write_46 rfl (lv_at hl 3 rfl) ?_
  refine lv_if_lt (tgt := 84) hx hb d_St_write_47 (by decide) (fun h => absurd h (by decide)) (fun _ => ?_)
  refine lv_iload_n hx hb d_St_write_50 rfl (lv_at hl 3 rfl) ?_
  refine lv_aload_n hx hb d_St_write_51 rfl (lv_at hl 2 rfl) ?_
  refine va_slen hx hb hXr hrl hbA hS d_St_write_52 ?_
  refine tv (x2 := 16) (by decide) ?_
  refine lv_bipush (v := 16) hx hb d_St_write_53 (by decide) ?_
  refine lv_isub hx hb d_St_write_55 ?_
  refine tv (x2 := 0) (by decide) ?_
  refine lv_icmp_gt (tgt := 84) hx hb d_St_write_56 (by decide) (fun h => absurd h (by decide)) (fun _ => ?_)
  refine lv_aload_n hx hb d_St_write_59 rfl (lv_at hl 2 rfl) ?_
  refine lv_iload_n hx hb d_St_write_60 rfl (lv_at hl 3 rfl) ?_
  refine lv_aload_n hx hb d_St_write_61 rfl (lv_at hl 0 rfl) ?_
  refine va_get (D := (dC, dI)) (ci := 1) (v := .ref c0) (C := R_St) (T := F_St) (N := 4) hx hb hts in_St hown hK hP 0 rfl rfl 0 (by decide) (hts _ w_29) (fun _ h9 => h9) rfl d_St_write_62 ?_
  refine lv_iload_n hx hb d_St_write_65 rfl (lv_at hl 1 rfl) ?_
  refine lv_bipush (v := 16) hx hb d_St_write_66 (by decide) ?_
  refine lv_imul hx hb d_St_write_68 ?_
  refine tv (x2 := dp) (by exact hm) ?_
  refine lv_bipush (v := 16) hx hb d_St_write_69 (by decide) ?_
  refine va_copyx (rest := []) hx hb (by rw [hml]; exact hl.1.symm) hown (hts _ w_181) (hts _ w_183) (hts _ w_182) (hts _ w_7) hK hP hD hS hXr hrl hbA 1 0 rfl rfl (by decide) hd1 (by decide) (by decide) hd2 (by decide) (by decide) d_St_write_71 (fun H locs hP hD hS => ?_)
  have hP : va_P (dC, dI) cls [(h0, .inr (1, [.ref c0, .int (-1), .int 0, .int wr])), (c0, .inl (cA, 512, .inl (va_cpy f g (0 : Int32).toNatClampNeg dp.toNatClampNeg (16 : Int32).toNatClampNeg)))] H := hP
  have hD : va_D A [(h0, .inr (1, [.ref c0, .int (-1), .int 0, .int wr])), (c0, .inl (cA, 512, .inl (va_cpy f g (0 : Int32).toNatClampNeg dp.toNatClampNeg (16 : Int32).toNatClampNeg)))] := hD
  refine lv_aload_n hx hb d_St_write_74 rfl (lv_at hl 0 rfl) ?_
  refine lv_dup hx hb d_St_write_75 rfl ?_
  refine va_get (D := (dC, dI)) (ci := 1) (v := .int wr) (C := R_St) (T := F_St) (N := 4) hx hb hts in_St hown hK hP 0 rfl rfl 3 (by decide) (hts _ w_34) (fun _ h9 => h9) rfl d_St_write_76 ?_
  refine lv_iconst (v := 1) hx hb d_St_write_79 (by decide) ?_
  refine lv_iadd hx hb d_St_write_80 ?_
  refine va_put (D := (dC, dI)) (ci := 1) (v := .int (wr + 1)) (ty := .int) (C := R_St) (T := F_St) (N := 4) hx hb hts in_St t_St t_St_ok n_St hown hK hP hD hS 0 rfl rfl 3 (by decide) (hts _ w_34) (fun _ h9 => h9) rfl (by decide +kernel) (rfl) (rfl) (Nat.le_of_ble_eq_true rfl) d_St_write_81 (fun H locs hP hD hS => ?_)
  have hP : va_P (dC, dI) cls [(h0, .inr (1, [.ref c0, .int (-1), .int 0, .int (wr + 1)])), (c0, .inl (cA, 512, .inl (va_cpy f g (0 : Int32).toNatClampNeg dp.toNatClampNeg (16 : Int32).toNatClampNeg)))] H := hP
  have hD : va_D A [(h0, .inr (1, [.ref c0, .int (-1), .int 0, .int (wr + 1)])), (c0, .inl (cA, 512, .inl (va_cpy f g (0 : Int32).toNatClampNeg dp.toNatClampNeg (16 : Int32).toNatClampNeg)))] := hD
  refine lv_iconst (v := 1) hx hb d_St_write_84 (by decide) ?_
  refine W.widen (k := 0) (n := 0) (by decide) (by decide) ?_
  exact W.zret (v := 1) hx hb hr rfl (fun t ht hW => ⟨⟨1, va_cpy f g (0 : Int32).toNatClampNeg dp.toNatClampNeg (16 : Int32).toNatClampNeg, rfl, rfl, cB.of (hP.sub [0, 1] rfl) (hD.sub [0, 1] (by decide) rfl) (hK.sub [0] rfl) ht hW⟩, hS.F ht⟩) hS.2.2 d_St_write_85
set_option maxHeartbeats 4000000 in
set_option maxRecDepth 100000 in
theorem c_Ld_format (l : Launch) (dC : Nat → ClassId) (dI : Nat → Nat → Nat) (h0 o0 o1 o2 o3 o4 : Nat) (c0 : Nat) (cA : ClassId) (t1 t2 : Nat) (f1 f2 : Nat → Int32) (sz : Nat) : Met l y_Ld_format (Cond.code y_Ld_format b_Ld_format 2 (some .int) :: gw) ({ frames := 2, cells := 0, slots := 0, locals := 123 }) (cP (dC, dI) [.ref h0] sz [(h0, .inr (0, [.ref o0, .ref o1, .ref o2, .ref o3, .ref o4, .int 0])), (o0, .inr (1, [.ref c0, .int (-1), .int 0, .int 0])), (c0, .inl (cA, 512, .inl (fun _ => 0)))] [(cA, .int)] (xF t1 t2 f1 f2 [(h0, .inr (0, [.ref o0, .ref o1, .ref o2, .ref o3, .ref o4, .int 0])), (o0, .inr (1, [.ref c0, .int (-1), .int 0, .int 0])), (c0, .inl (cA, 512, .inl (fun _ => 0)))])) (va_Qi (fun (r : Int32) (u : Unit) => r = 0) (fun (u : Unit) t => cB (dC, dI) (va_A [(h0, .inr (0, [.ref o0, .ref o1, .ref o2, .ref o3, .ref o4, .int 0])), (o0, .inr (1, [.ref c0, .int (-1), .int 0, .int 0])), (c0, .inl (cA, 512, .inl (fun _ => 0)))] sz) [] [] t) (va_A [(h0, .inr (0, [.ref o0, .ref o1, .ref o2, .ref o3, .ref o4, .int 0])), (o0, .inr (1, [.ref c0, .int (-1), .int 0, .int 0])), (c0, .inl (cA, 512, .inl (fun _ => 0)))] sz)) 0 0 (va_A [(h0, .inr (0, [.ref o0, .ref o1, .ref o2, .ref o3, .ref o4, .int 0])), (o0, .inr (1, [.ref c0, .int (-1), .int 0, .int 0])), (c0, .inl (cA, 512, .inl (fun _ => 0)))] sz) := by
  refine Met.ofW (cc := b_Ld_format) (maxL := 2) (ret := (some .int)) (by decide) rfl ?_
  intro p e s m args below meth c s₁ B hml hv
  obtain ⟨rfl, hsz, hP, hK, hD0, hkw, hX⟩ := hv
  have hx := B.exec
  have hb := B.bytes
  have hr := B.returns
  have hts := fun w hw => atoms_spec (ws := Cond.code y_Ld_format b_Ld_format 2 (some .int) :: gw) B.pre w (List.mem_cons_of_mem _ hw)
  have hown : s.vm.findClass "LineDisk" = some m.cls := findClass_of_methodNamed B.named
  have hlocks := B.notSynchronized
  have hin := (name_of_methodNamed B.named B.method).1
  subst hsz
  have hD := hD0.self (sz := s.heap.size)
  generalize hAe : va_A [(h0, .inr (0, [.ref o0, .ref o1, .ref o2, .ref o3, .ref o4, .int 0])), (o0, .inr (1, [.ref c0, .int (-1), .int 0, .int 0])), (c0, .inl (cA, 512, .inl (fun _ => 0)))] s.heap.size = A at hD ⊢
  have hA : ∀ q : Nat, s.heap.size ≤ q → A q := fun q h => by rw [← hAe]; exact Or.inr h
  have hS : va_S A s.heap s.heap [] := va_S.rf
  have hl := lv_entry ([.ref h0]) (n := 2) (Nat.le_of_ble_eq_true rfl)
  rw [lg_entry_eq]
  generalize (lg_sl ([.ref h0]) ++ List.replicate (2 - (lg_sl ([.ref h0])).length) Slot.unset).toArray = ls at hl ⊢
  have hl : lv_has ls 2 [(0, .ref h0)] := hl
  have F : CallFix p m c b_Ld_format 2 s ([.ref h0]).toArray gw "LineDisk" := ⟨hx, hb, hml, hown, hts⟩
  obtain ⟨hz1, hz2, hx1, hx2, hl1, hl2, hn1, hn2⟩ := hX
  rw [hAe] at hz1 hz2 hn1 hn2
  refine lv_aload_n hx hb d_Ld_format_0 rfl (lv_at hl 0 rfl) ?_
  refine va_get (D := (dC, dI)) (ci := 0) (v := .ref o0) (C := R_Ld) (T := F_Ld) (N := 6) hx hb hts in_Ld hown hK hP 0 rfl rfl 0 (by decide) (hts _ w_152) (fun _ h9 => h9) rfl d_Ld_format_1 ?_
  refine va_getN (D := (dC, dI)) (ci := 1) (v := .int 0) (C := R_St) (T := F_St) (N := 4) hx hb hts in_St hown hK hP 1 rfl rfl 2 (by decide) (hkw.use v_33 rfl) (fun _ h9 => h9) rfl d_Ld_format_4 ?_
  refine lv_if_eq (tgt := 13) hx hb d_Ld_format_7 (by decide) (fun _ => ?_) (fun h => absurd (by decide) h)
  refine lv_aload_n hx hb d_Ld_format_13 rfl (lv_at hl 0 rfl) ?_
  refine va_get (D := (dC, dI)) (ci := 0) (v := .ref o0) (C := R_Ld) (T := F_Ld) (N := 6) hx hb hts in_Ld hown hK hP 0 rfl rfl 0 (by decide) (hts _ w_152) (fun _ h9 => h9) rfl d_Ld_format_14 ?_
  refine lv_iconst (v := 2) hx hb d_Ld_format_17 (by decide) ?_
  refine va_gets (C := "LineDisk") hx hb hz1 hS hown (hts _ w_175) (fun _ h9 => h9) d_Ld_format_18 ?_
  refine lv_iconst (v := 0) hx hb d_Ld_format_21 (by decide) ?_
  refine go_i (wr := [(h0, .inr (0, [.ref o0, .ref o1, .ref o2, .ref o3, .ref o4, .int 0]))]) (tr := []) (rV (C := "LineDisk$Store") (ci := 1) (q0 := 0) (b := o0) (n := 3) (As := [.int 2, .ref t1, .int 0]) (rest := []) F hkw (c_St_write l dC dI o0 c0 cA (fun _ => 0) (0) t1 f1 2 32 (by decide) (by decide) (by decide) (by decide) (by decide) s.heap.size) xR_bl (xR_of hx1 hl1 hn1 hS hD (i := 1) (j := 2) rfl rfl) w_177 w_178 w_179 w_2 w_180 rfl rfl (by decide +kernel) ⟨Nat.le_of_ble_eq_true rfl, Nat.le_of_ble_eq_true rfl⟩ (hP.sub (ws' := [(o0, .inr (1, [.ref c0, .int (-1), .int 0, .int 0])), (c0, .inl (cA, 512, .inl (fun _ => 0)))]) [1, 2] rfl) (hD.sub (ws' := [(o0, .inr (1, [.ref c0, .int (-1), .int 0, .int 0])), (c0, .inl (cA, 512, .inl (fun _ => 0)))]) [1, 2] (by decide) rfl) (hK.sub (tys' := [(cA, .int)]) [0] rfl) rfl rfl rfl rfl hl.1 rfl (Nat.le_of_ble_eq_true rfl) d_Ld_format_22 ⟨by decide, by decide⟩) hP hD hK hS hA [1, 2] [0] [] rfl rfl (by decide) (by decide) rfl (fun r v22 H locs hw hP hD hK hS => ?_)
  have hP : va_P (dC, dI) cls [(h0, .inr (0, [.ref o0, .ref o1, .ref o2, .ref o3, .ref o4, .int 0])), (o0, .inr (1, [.ref c0, .int (-1), .int 0, .int (0 + 1)])), (c0, .inl (cA, 512, .inl v22))] H := hP
  have hD : va_D A [(h0, .inr (0, [.ref o0, .ref o1, .ref o2, .ref o3, .ref o4, .int 0])), (o0, .inr (1, [.ref c0, .int (-1), .int 0, .int (0 + 1)])), (c0, .inl (cA, 512, .inl v22))] := hD
  have hK : va_K (dC, dI) cls [(cA, .int)] s := hK
  refine W.widen (k := 0) (n := 0) (by omega) (by omega) ?_
  subst hw
  refine lv_if_eq (tgt := 62) hx hb d_Ld_format_25 (by decide) (fun h => absurd h (by decide)) (fun _ => ?_)
  refine lv_aload_n hx hb d_Ld_format_28 rfl (lv_at hl 0 rfl) ?_
  refine va_get (D := (dC, dI)) (ci := 0) (v := .ref o0) (C := R_Ld) (T := F_Ld) (N := 6) hx hb hts in_Ld hown hK hP 0 rfl rfl 0 (by decide) (hts _ w_152) (fun _ h9 => h9) rfl d_Ld_format_29 ?_
  refine lv_iconst (v := 1) hx hb d_Ld_format_32 (by decide) ?_
  refine va_gets (C := "LineDisk") hx hb hz1 hS hown (hts _ w_175) (fun _ h9 => h9) d_Ld_format_33 ?_
  refine lv_iconst (v := 0) hx hb d_Ld_format_36 (by decide) ?_
  refine go_i (wr := [(h0, .inr (0, [.ref o0, .ref o1, .ref o2, .ref o3, .ref o4, .int 0]))]) (tr := []) (rV (C := "LineDisk$Store") (ci := 1) (q0 := 0) (b := o0) (n := 3) (As := [.int 1, .ref t1, .int 0]) (rest := []) F hkw (c_St_write l dC dI o0 c0 cA (v22) (0 + 1) t1 f1 1 16 (by decide) (by decide) (by decide) (by decide) (by decide) H.size) xR_bl (xR_of hx1 hl1 hn1 hS hD (i := 1) (j := 2) rfl rfl) w_177 w_178 w_179 w_2 w_180 rfl rfl (by decide +kernel) ⟨Nat.le_of_ble_eq_true rfl, Nat.le_of_ble_eq_true rfl⟩ (hP.sub (ws' := [(o0, .inr (1, [.ref c0, .int (-1), .int 0, .int (0 + 1)])), (c0, .inl (cA, 512, .inl v22))]) [1, 2] rfl) (hD.sub (ws' := [(o0, .inr (1, [.ref c0, .int (-1), .int 0, .int (0 + 1)])), (c0, .inl (cA, 512, .inl v22))]) [1, 2] (by decide) rfl) (hK.sub (tys' := [(cA, .int)]) [0] rfl) rfl rfl rfl rfl hl.1 rfl (Nat.le_of_ble_eq_true rfl) d_Ld_format_37 ⟨by decide, by decide⟩) hP hD hK hS hA [1, 2] [0] [] rfl rfl (by decide) (by decide) rfl (fun r v37 H locs hw hP hD hK hS => ?_)
  have hP : va_P (dC, dI) cls [(h0, .inr (0, [.ref o0, .ref o1, .ref o2, .ref o3, .ref o4, .int 0])), (o0, .inr (1, [.ref c0, .int (-1), .int 0, .int (0 + 1 + 1)])), (c0, .inl (cA, 512, .inl v37))] H := hP
  have hD : va_D A [(h0, .inr (0, [.ref o0, .ref o1, .ref o2, .ref o3, .ref o4, .int 0])), (o0, .inr (1, [.ref c0, .int (-1), .int 0, .int (0 + 1 + 1)])), (c0, .inl (cA, 512, .inl v37))] := hD
  have hK : va_K (dC, dI) cls [(cA, .int)] s := hK
  refine W.widen (k := 0) (n := 0) (by omega) (by omega) ?_
  subst hw
  refine lv_if_eq (tgt := 62) hx hb d_Ld_format_40 (by decide) (fun h => absurd h (by decide)) (fun _ => ?_)
  refine lv_aload_n hx hb d_Ld_format_43 rfl (lv_at hl 0 rfl) ?_
  refine va_get (D := (dC, dI)) (ci := 0) (v := .ref o0) (C := R_Ld) (T := F_Ld) (N := 6) hx hb hts in_Ld hown hK hP 0 rfl rfl 0 (by decide) (hts _ w_152) (fun _ h9 => h9) rfl d_Ld_format_44 ?_
  refine lv_iconst (v := 0) hx hb d_Ld_format_47 (by decide) ?_
  refine va_gets (C := "LineDisk") hx hb hz2 hS hown (hts _ w_184) (fun _ h9 => h9) d_Ld_format_48 ?_
  refine lv_iconst (v := 0) hx hb d_Ld_format_51 (by decide) ?_
  refine go_i (wr := [(h0, .inr (0, [.ref o0, .ref o1, .ref o2, .ref o3, .ref o4, .int 0]))]) (tr := []) (rV (C := "LineDisk$Store") (ci := 1) (q0 := 0) (b := o0) (n := 3) (As := [.int 0, .ref t2, .int 0]) (rest := []) F hkw (c_St_write l dC dI o0 c0 cA (v37) (0 + 1 + 1) t2 f2 0 0 (by decide) (by decide) (by decide) (by decide) (by decide) H.size) xR_bl (xR_of hx2 hl2 hn2 hS hD (i := 1) (j := 2) rfl rfl) w_177 w_178 w_179 w_2 w_180 rfl rfl (by decide +kernel) ⟨Nat.le_of_ble_eq_true rfl, Nat.le_of_ble_eq_true rfl⟩ (hP.sub (ws' := [(o0, .inr (1, [.ref c0, .int (-1), .int 0, .int (0 + 1 + 1)])), (c0, .inl (cA, 512, .inl v37))]) [1, 2] rfl) (hD.sub (ws' := [(o0, .inr (1, [.ref c0, .int (-1), .int 0, .int (0 + 1 + 1)])), (c0, .inl (cA, 512, .inl v37))]) [1, 2] (by decide) rfl) (hK.sub (tys' := [(cA, .int)]) [0] rfl) rfl rfl rfl rfl hl.1 rfl (Nat.le_of_ble_eq_true rfl) d_Ld_format_52 ⟨by decide, by decide⟩) hP hD hK hS hA [1, 2] [0] [] rfl rfl (by decide) (by decide) rfl (fun r v52 H locs hw hP hD hK hS => ?_)
  have hP : va_P (dC, dI) cls [(h0, .inr (0, [.ref o0, .ref o1, .ref o2, .ref o3, .ref o4, .int 0])), (o0, .inr (1, [.ref c0, .int (-1), .int 0, .int (0 + 1 + 1 + 1)])), (c0, .inl (cA, 512, .inl v52))] H := hP
  have hD : va_D A [(h0, .inr (0, [.ref o0, .ref o1, .ref o2, .ref o3, .ref o4, .int 0])), (o0, .inr (1, [.ref c0, .int (-1), .int 0, .int (0 + 1 + 1 + 1)])), (c0, .inl (cA, 512, .inl v52))] := hD
  have hK : va_K (dC, dI) cls [(cA, .int)] s := hK
  refine W.widen (k := 0) (n := 0) (by omega) (by omega) ?_
  subst hw
  refine lv_if_eq (tgt := 62) hx hb d_Ld_format_55 (by decide) (fun h => absurd h (by decide)) (fun _ => ?_)
  refine lv_iconst (v := 1) hx hb d_Ld_format_58 (by decide) ?_
  refine lv_goto (tgt := 63) hx hb d_Ld_format_59 (by decide) ?_
  refine lv_istore_n (i := 1) hx hb d_Ld_format_63 rfl hl (by decide) rfl (fun ls hl => ?_)
  have hl : lv_has ls 2 [(1, .int 1), (0, .ref h0)] := hl
  refine lv_iload_n hx hb d_Ld_format_64 rfl (lv_at hl 0 rfl) ?_
  refine lv_if_eq (tgt := 72) hx hb d_Ld_format_65 (by decide) (fun h => absurd h (by decide)) (fun _ => ?_)
  refine lv_iconst (v := 0) hx hb d_Ld_format_68 (by decide) ?_
  refine lv_goto (tgt := 76) hx hb d_Ld_format_69 (by decide) ?_
  refine W.widen (k := 0) (n := 0) (by decide) (by decide) ?_
  exact W.iret (v := 0) hx hb hr (fun t ht hW => ⟨⟨0, (), rfl, rfl, cB.of (hP.sub [] rfl) (hD.sub [] (by decide) rfl) (hK.sub [] rfl) ht hW⟩, hS.F ht⟩) hS.2.2 d_Ld_format_76
