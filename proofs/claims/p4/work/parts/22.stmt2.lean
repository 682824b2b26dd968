def dgN (tx : Nat → Int32) (en : Nat) : Nat → Nat → Int32 → Int32 × Nat
  | 0, a, n => (n, a)
  | f + 1, a, n => if dgt (pk tx en a) = 0 then (n, a) else dgN tx en f (a + 1) (10 * n + pk tx en a - 48)
set_option maxHeartbeats 4000000 in
set_option maxRecDepth 100000 in
theorem lp_Sm_digits {p : Program} {l : Launch} {e : Env} {R : Room} {s : State} {m : MethodId} {args : Array Value} {below : List Frame} {meth : Method} {c : Code} {cells slots : Nat} {Q : State → Prop} {A : Nat → Prop} {dC : Nat → ClassId} {dI : Nat → Nat → Nat} (hx : p.tables.exec = Jvm.exec) (hb : c.code = b_Sm_digits) (hml : c.maxLocals = 4) (hts : ∀ w ∈ gw, w.before args s = true) (hown : s.vm.findClass "LineDisk$Statement" = some m.cls) (hkw : kw s) (hA : ∀ q : Nat, s.heap.size ≤ q → A q) (h0 sx sv : Nat) (cX cV : ClassId) (tx va : Nat → Int32) (en at1 : Nat) (go kd vr fi lf sg rt tg : Int32) (mm : Nat) (hmm : mm ≤ 5) (he : en ≤ 12) (hK0 : va_K (dC, dI) cls [(cX, .int), (cV, .int)] s) (hRf : 1 ≤ R.frames) (hRl : 20 ≤ R.locals) (hRc : cells ≤ R.cells) (hRs : slots ≤ R.slots)  (k_53 : ∀ (k : Nat), k ≤ mm → ∀ (ls : Array Slot) (H : Heap) (locs : List Loc) (n9 : Int32), lv_has ls 4 [(2, .int n9), (0, .ref h0)] → va_P (dC, dI) cls [(h0, .inr (4, [.ref sx, .ref sv, .int (nI en), .int (nI (at1 + k)), .int go, .int kd, .int vr, .int fi, .int lf, .int sg, .int rt, .int tg])), (sx, .inl (cX, 12, .inl tx)), (sv, .inl (cV, 8, .inl va))] H → va_D A [(h0, .inr (4, [.ref sx, .ref sv, .int (nI en), .int (nI (at1 + k)), .int go, .int kd, .int vr, .int fi, .int lf, .int sg, .int rt, .int tg])), (sx, .inl (cX, 12, .inl tx)), (sv, .inl (cV, 8, .inl va))] → va_S A s.heap H locs → ((n9, at1 + k) = dgN tx en mm at1 0 ∧ at1 + k ≤ en) → W p l e R s m args below meth c H locs cells slots Q (F0 m 53 ls [])) : ∀ (j k : Nat), k + j = mm → ∀ (ls : Array Slot) (H : Heap) (locs : List Loc) (n9 : Int32), lv_has ls 4 [(2, .int n9), (3, .int (nI at1)), (0, .ref h0), (1, .int (nI mm))] → va_P (dC, dI) cls [(h0, .inr (4, [.ref sx, .ref sv, .int (nI en), .int (nI (at1 + k)), .int go, .int kd, .int vr, .int fi, .int lf, .int sg, .int rt, .int tg])), (sx, .inl (cX, 12, .inl tx)), (sv, .inl (cV, 8, .inl va))] H → va_D A [(h0, .inr (4, [.ref sx, .ref sv, .int (nI en), .int (nI (at1 + k)), .int go, .int kd, .int vr, .int fi, .int lf, .int sg, .int rt, .int tg])), (sx, .inl (cX, 12, .inl tx)), (sv, .inl (cV, 8, .inl va))] → va_S A s.heap H locs → (dgN tx en mm at1 0 = dgN tx en (mm - k) (at1 + k) n9 ∧ at1 + k ≤ en) → W p l e R s m args below meth c H locs cells slots Q (F0 m 7 ls []) := by
  have F : CallFix p m c b_Sm_digits 4 s args gw "LineDisk$Statement" := ⟨hx, hb, hml, hown, hts⟩
  intro j
  induction j with
  | zero =>
    intro k hk ls H locs n9 hl hP hD hS hf
    have hK := hK0
    have hkN : k = mm := by omega
    refine lv_aload_n hx hb d_Sm_digits_7 rfl (lv_at hl 2 rfl) ?_
    refine va_get (D := (dC, dI)) (ci := 4) (v := .int (nI (at1 + k))) (C := R_Sm) (T := F_Sm) (N := 12) hx hb hts in_Sm hown hK hP 0 rfl rfl 3 (by decide) (hts _ w_112) (fun _ h9 => h9) rfl d_Sm_digits_8 ?_
    refine lv_iload_n hx hb d_Sm_digits_11 rfl (lv_at hl 1 rfl) ?_
    refine lv_iload_n hx hb d_Sm_digits_12 rfl (lv_at hl 3 rfl) ?_
    refine lv_iadd hx hb d_Sm_digits_13 ?_
    refine tv (x2 := nI (at1 + mm)) (by exact nI_add _ _) ?_
    refine lv_icmp_ge (tgt := 53) hx hb d_Sm_digits_14 (by decide) (fun _ => ?_) (fun h => absurd (by rw [hkN]; exact nI_le (Nat.le_refl _) (by omega)) h)
    exact k_53 k (by omega) ls _ _ n9 (lv_sub hl [0, 2] rfl) (hP.sub [0, 1, 2] rfl) (hD.sub [0, 1, 2] (by decide) rfl) hS (⟨by rw [hf.1, show mm - k = 0 by omega]; rfl, hf.2⟩)
  | succ j ih =>
    intro k hk ls H locs n9 hl hP hD hS hf
    have hK := hK0
    have hkN : k < mm := by omega
    obtain ⟨f9, hf9⟩ : ∃ f9, mm - k = f9 + 1 := ⟨mm - k - 1, by omega⟩
    refine lv_aload_n hx hb d_Sm_digits_7 rfl (lv_at hl 2 rfl) ?_
    refine va_get (D := (dC, dI)) (ci := 4) (v := .int (nI (at1 + k))) (C := R_Sm) (T := F_Sm) (N := 12) hx hb hts in_Sm hown hK hP 0 rfl rfl 3 (by decide) (hts _ w_112) (fun _ h9 => h9) rfl d_Sm_digits_8 ?_
    refine lv_iload_n hx hb d_Sm_digits_11 rfl (lv_at hl 1 rfl) ?_
    refine lv_iload_n hx hb d_Sm_digits_12 rfl (lv_at hl 3 rfl) ?_
    refine lv_iadd hx hb d_Sm_digits_13 ?_
    refine tv (x2 := nI (at1 + mm)) (by exact nI_add _ _) ?_
    refine lv_icmp_ge (tgt := 53) hx hb d_Sm_digits_14 (by decide) (fun h => absurd h (fun h => absurd ((nI_leI (by omega) (by omega)).mp h) (by omega))) (fun _ => ?_)
    refine lv_aload_n hx hb d_Sm_digits_17 rfl (lv_at hl 2 rfl) ?_
    refine go_i (wr := []) (tr := []) (rV (C := "LineDisk$Statement") (ci := 4) (q0 := 0) (b := h0) (n := 0) (As := []) (rest := []) F hkw (g_Sm_peek l dC dI h0 sx sv cX cV tx va en (at1 + k) go kd vr fi lf sg rt tg he (by omega) H.size) xT_bl (fun _ _ _ => trivial) w_268 w_270 ws_6 w_5 w_271 rfl rfl (by decide +kernel) ⟨Nat.le_trans (by decide) hRf, Nat.le_trans (by decide) hRl⟩ (hP.sub (ws' := [(h0, .inr (4, [.ref sx, .ref sv, .int (nI en), .int (nI (at1 + k)), .int go, .int kd, .int vr, .int fi, .int lf, .int sg, .int rt, .int tg])), (sx, .inl (cX, 12, .inl tx)), (sv, .inl (cV, 8, .inl va))]) [0, 1, 2] rfl) (hD.sub (ws' := [(h0, .inr (4, [.ref sx, .ref sv, .int (nI en), .int (nI (at1 + k)), .int go, .int kd, .int vr, .int fi, .int lf, .int sg, .int rt, .int tg])), (sx, .inl (cX, 12, .inl tx)), (sv, .inl (cV, 8, .inl va))]) [0, 1, 2] (by decide) rfl) (hK.sub (tys' := [(cX, .int), (cV, .int)]) [0, 1] rfl) rfl rfl rfl rfl hl.1 rfl (Nat.le_of_ble_eq_true rfl) d_Sm_digits_18 ⟨hRc, hRs⟩) hP hD hK hS hA [0, 1, 2] [] [] rfl rfl (by decide) (by decide) rfl (fun r u H locs hw hP hD hK hS => ?_)
    have hP : va_P (dC, dI) cls [(h0, .inr (4, [.ref sx, .ref sv, .int (nI en), .int (nI (at1 + k)), .int go, .int kd, .int vr, .int fi, .int lf, .int sg, .int rt, .int tg])), (sx, .inl (cX, 12, .inl tx)), (sv, .inl (cV, 8, .inl va))] H := hP
    have hD : va_D A [(h0, .inr (4, [.ref sx, .ref sv, .int (nI en), .int (nI (at1 + k)), .int go, .int kd, .int vr, .int fi, .int lf, .int sg, .int rt, .int tg])), (sx, .inl (cX, 12, .inl tx)), (sv, .inl (cV, 8, .inl va))] := hD
    have hK : va_K (dC, dI) cls [(cX, .int), (cV, .int)] s := hK
    refine W.widen (k := cells) (n := slots) (Nat.le_refl _) (Nat.le_refl _) ?_
    subst hw
    refine go_i (wr := [(h0, .inr (4, [.ref sx, .ref sv, .int (nI en), .int (nI (at1 + k)), .int go, .int kd, .int vr, .int fi, .int lf, .int sg, .int rt, .int tg])), (sx, .inl (cX, 12, .inl tx)), (sv, .inl (cV, 8, .inl va))]) (tr := [(cX, .int), (cV, .int)]) (rSN (host := "LineDisk") (n := 1) (As := [.int (pk tx en (at1 + k))]) (rest := []) F hkw (g_Ld_isDigit l dC dI (pk tx en (at1 + k)) H.size) xT_bl (fun _ _ _ => trivial) (hkw.at v_288 rfl) w_229 w_1 w_230 rfl rfl (by decide +kernel) ⟨Nat.le_trans (by decide) hRf, Nat.le_trans (by decide) hRl⟩ (hP.sub (ws' := []) [] rfl) (hD.sub (ws' := []) [] (by decide) rfl) (hK.sub (tys' := []) [] rfl) rfl hl.1 rfl (Nat.le_of_ble_eq_true rfl) d_Sm_digits_21 ⟨hRc, hRs⟩) hP hD hK hS hA [] [0, 1, 2] [0, 1] rfl rfl (by decide) (by decide) rfl (fun r u H locs hw hP hD hK hS => ?_)
    have hP : va_P (dC, dI) cls [(h0, .inr (4, [.ref sx, .ref sv, .int (nI en), .int (nI (at1 + k)), .int go, .int kd, .int vr, .int fi, .int lf, .int sg, .int rt, .int tg])), (sx, .inl (cX, 12, .inl tx)), (sv, .inl (cV, 8, .inl va))] H := hP
    have hD : va_D A [(h0, .inr (4, [.ref sx, .ref sv, .int (nI en), .int (nI (at1 + k)), .int go, .int kd, .int vr, .int fi, .int lf, .int sg, .int rt, .int tg])), (sx, .inl (cX, 12, .inl tx)), (sv, .inl (cV, 8, .inl va))] := hD
    have hK : va_K (dC, dI) cls [(cX, .int), (cV, .int)] s := hK
    refine W.widen (k := cells) (n := slots) (Nat.le_refl _) (Nat.le_refl _) ?_
    subst hw
    refine lv_if_eq (tgt := 53) hx hb d_Sm_digits_24 (by decide) (fun c24 => ?_) (fun c24 => ?_)
    · skip
      exact k_53 k (by omega) ls _ _ n9 (lv_sub hl [0, 2] rfl) (hP.sub [0, 1, 2] rfl) (hD.sub [0, 1, 2] (by decide) rfl) hS (⟨by rw [hf.1, hf9]; show _ = (if dgt (pk tx en (at1 + k)) = 0 then (n9, at1 + k) else _); rw [if_pos c24], hf.2⟩)
    · skip
      refine lv_bipush (v := 10) hx hb d_Sm_digits_27 (by decide) ?_
      refine lv_iload_n hx hb d_Sm_digits_29 rfl (lv_at hl 0 rfl) ?_
      refine lv_imul hx hb d_Sm_digits_30 ?_
      refine lv_aload_n hx hb d_Sm_digits_31 rfl (lv_at hl 2 rfl) ?_
      refine go_i (wr := []) (tr := []) (rV (C := "LineDisk$Statement") (ci := 4) (q0 := 0) (b := h0) (n := 0) (As := []) (rest := [.int (10 * n9)]) F hkw (g_Sm_peek l dC dI h0 sx sv cX cV tx va en (at1 + k) go kd vr fi lf sg rt tg he (by omega) H.size) xT_bl (fun _ _ _ => trivial) w_268 w_270 ws_6 w_5 w_271 rfl rfl (by decide +kernel) ⟨Nat.le_trans (by decide) hRf, Nat.le_trans (by decide) hRl⟩ (hP.sub (ws' := [(h0, .inr (4, [.ref sx, .ref sv, .int (nI en), .int (nI (at1 + k)), .int go, .int kd, .int vr, .int fi, .int lf, .int sg, .int rt, .int tg])), (sx, .inl (cX, 12, .inl tx)), (sv, .inl (cV, 8, .inl va))]) [0, 1, 2] rfl) (hD.sub (ws' := [(h0, .inr (4, [.ref sx, .ref sv, .int (nI en), .int (nI (at1 + k)), .int go, .int kd, .int vr, .int fi, .int lf, .int sg, .int rt, .int tg])), (sx, .inl (cX, 12, .inl tx)), (sv, .inl (cV, 8, .inl va))]) [0, 1, 2] (by decide) rfl) (hK.sub (tys' := [(cX, .int), (cV, .int)]) [0, 1] rfl) rfl rfl rfl rfl hl.1 rfl (Nat.le_of_ble_eq_true rfl) d_Sm_digits_32 ⟨hRc, hRs⟩) hP hD hK hS hA [0, 1, 2] [] [] rfl rfl (by decide) (by decide) rfl (fun r u H locs hw hP hD hK hS => ?_)
      have hP : va_P (dC, dI) cls [(h0, .inr (4, [.ref sx, .ref sv, .int (nI en), .int (nI (at1 + k)), .int go, .int kd, .int vr, .int fi, .int lf, .int sg, .int rt, .int tg])), (sx, .inl (cX, 12, .inl tx)), (sv, .inl (cV, 8, .inl va))] H := hP
      have hD : va_D A [(h0, .inr (4, [.ref sx, .ref sv, .int (nI en), .int (nI (at1 + k)), .int go, .int kd, .int vr, .int fi, .int lf, .int sg, .int rt, .int tg])), (sx, .inl (cX, 12, .inl tx)), (sv, .inl (cV, 8, .inl va))] := hD
      have hK : va_K (dC, dI) cls [(cX, .int), (cV, .int)] s := hK
      refine W.widen (k := cells) (n := slots) (Nat.le_refl _) (Nat.le_refl _) ?_
      subst hw
      refine lv_iadd hx hb d_Sm_digits_35 ?_
      refine lv_bipush (v := 48) hx hb d_Sm_digits_36 (by decide) ?_
      refine lv_isub hx hb d_Sm_digits_38 ?_
      refine lv_istore_n (i := 2) hx hb d_Sm_digits_39 rfl hl (by decide) rfl (fun ls hl => ?_)
      have hl : lv_has ls 4 [(2, .int (((10 * n9) + (pk tx en (at1 + k))) - 48)), (3, .int (nI at1)), (0, .ref h0), (1, .int (nI mm))] := hl
      refine lv_aload_n hx hb d_Sm_digits_40 rfl (lv_at hl 2 rfl) ?_
      refine lv_dup hx hb d_Sm_digits_41 rfl ?_
      refine va_get (D := (dC, dI)) (ci := 4) (v := .int (nI (at1 + k))) (C := R_Sm) (T := F_Sm) (N := 12) hx hb hts in_Sm hown hK hP 0 rfl rfl 3 (by decide) (hts _ w_112) (fun _ h9 => h9) rfl d_Sm_digits_42 ?_
      refine lv_iconst (v := 1) hx hb d_Sm_digits_45 (by decide) ?_
      refine lv_iadd hx hb d_Sm_digits_46 ?_
      refine tv (x2 := nI (at1 + (k + 1))) (by exact (nI_succ (at1 + k)).symm) ?_
      refine va_put (D := (dC, dI)) (ci := 4) (v := .int (nI (at1 + (k + 1)))) (ty := .int) (C := R_Sm) (T := F_Sm) (N := 12) hx hb hts in_Sm t_Sm t_Sm_ok n_Sm hown hK hP hD hS 0 rfl rfl 3 (by decide) (hts _ w_112) (fun _ h9 => h9) rfl (by decide +kernel) (rfl) (rfl) (Nat.le_of_ble_eq_true rfl) d_Sm_digits_47 (fun H locs hP hD hS => ?_)
      have hP : va_P (dC, dI) cls [(h0, .inr (4, [.ref sx, .ref sv, .int (nI en), .int (nI (at1 + (k + 1))), .int go, .int kd, .int vr, .int fi, .int lf, .int sg, .int rt, .int tg])), (sx, .inl (cX, 12, .inl tx)), (sv, .inl (cV, 8, .inl va))] H := hP
      have hD : va_D A [(h0, .inr (4, [.ref sx, .ref sv, .int (nI en), .int (nI (at1 + (k + 1))), .int go, .int kd, .int vr, .int fi, .int lf, .int sg, .int rt, .int tg])), (sx, .inl (cX, 12, .inl tx)), (sv, .inl (cV, 8, .inl va))] := hD
      refine lv_goto (tgt := 7) hx hb d_Sm_digits_50 (by decide) ?_
      exact ih (k + 1) (by omega) ls _ _ (10 * n9 + pk tx en (at1 + k) - 48) (lv_sub hl [0, 1, 2, 3] rfl) (hP.sub [0, 1, 2] rfl) (hD.sub [0, 1, 2] (by decide) rfl) hS (⟨by rw [hf.1, hf9, show mm - (k + 1) = f9 by omega]; show (if dgt (pk tx en (at1 + k)) = 0 then (n9, at1 + k) else _) = _; rw [if_neg c24]; rfl, by have := qk_dgt c24; omega⟩)
set_option maxHeartbeats 4000000 in
set_option maxRecDepth 100000 in
theorem g_Sm_digits (l : Launch) (dC : Nat → ClassId) (dI : Nat → Nat → Nat) (h0 sx sv : Nat) (cX cV : ClassId) (tx va : Nat → Int32) (en at1 : Nat) (go kd vr fi lf sg rt tg : Int32) (he : en ≤ 12) (ha : at1 ≤ en) (mm : Nat) (hmm : mm ≤ 5) (sz : Nat) : Met l y_Sm_digits (Cond.code y_Sm_digits b_Sm_digits 4 (some .int) :: gw) ({ frames := 1, cells := 0, slots := 0, locals := 20 }) (cP (dC, dI) [.ref h0, .int (nI mm)] sz [(h0, .inr (4, [.ref sx, .ref sv, .int (nI en), .int (nI at1), .int go, .int kd, .int vr, .int fi, .int lf, .int sg, .int rt, .int tg])), (sx, .inl (cX, 12, .inl tx)), (sv, .inl (cV, 8, .inl va))] [(cX, .int), (cV, .int)] xT) (va_Qi (fun (r : Int32) (u : Nat) => (r, u) = dgN tx en mm at1 0 ∧ u ≤ en) (fun (u : Nat) t => cB (dC, dI) (va_A [(h0, .inr (4, [.ref sx, .ref sv, .int (nI en), .int (nI at1), .int go, .int kd, .int vr, .int fi, .int lf, .int sg, .int rt, .int tg])), (sx, .inl (cX, 12, .inl tx)), (sv, .inl (cV, 8, .inl va))] sz) [(h0, .inr (4, [.ref sx, .ref sv, .int (nI en), .int (nI u), .int go, .int kd, .int vr, .int fi, .int lf, .int sg, .int rt, .int tg])), (sx, .inl (cX, 12, .inl tx)), (sv, .inl (cV, 8, .inl va))] [(cX, .int), (cV, .int)] t) (va_A [(h0, .inr (4, [.ref sx, .ref sv, .int (nI en), .int (nI at1), .int go, .int kd, .int vr, .int fi, .int lf, .int sg, .int rt, .int tg])), (sx, .inl (cX, 12, .inl tx)), (sv, .inl (cV, 8, .inl va))] sz)) 0 0 (va_A [(h0, .inr (4, [.ref sx, .ref sv, .int (nI en), .int (nI at1), .int go, .int kd, .int vr, .int fi, .int lf, .int sg, .int rt, .int tg])), (sx, .inl (cX, 12, .inl tx)), (sv, .inl (cV, 8, .inl va))] sz) := by
  refine Met.ofW (cc := b_Sm_digits) (maxL := 4) (ret := (some .int)) (by decide) rfl ?_
  intro p e s m args below meth c s₁ B hml hv
  obtain ⟨rfl, hsz, hP, hK, hD0, hkw, hX⟩ := hv
  have hx := B.exec
  have hb := B.bytes
  have hr := B.returns
  have hts := fun w hw => atoms_spec (ws := Cond.code y_Sm_digits b_Sm_digits 4 (some .int) :: gw) B.pre w (List.mem_cons_of_mem _ hw)
  have hown : s.vm.findClass "LineDisk$Statement" = some m.cls := findClass_of_methodNamed B.named
  have hlocks := B.notSynchronized
  have hin := (name_of_methodNamed B.named B.method).1
  subst hsz
  have hD := hD0.self (sz := s.heap.size)
  generalize hAe : va_A [(h0, .inr (4, [.ref sx, .ref sv, .int (nI en), .int (nI at1), .int go, .int kd, .int vr, .int fi, .int lf, .int sg, .int rt, .int tg])), (sx, .inl (cX, 12, .inl tx)), (sv, .inl (cV, 8, .inl va))] s.heap.size = A at hD ⊢
  have hA : ∀ q : Nat, s.heap.size ≤ q → A q := fun q h => by rw [← hAe]; exact Or.inr h
  have hS : va_S A s.heap s.heap [] := va_S.rf
  have hl := lv_entry ([.ref h0, .int (nI mm)]) (n := 4) (Nat.le_of_ble_eq_true rfl)
  rw [lg_entry_eq]
  generalize (lg_sl ([.ref h0, .int (nI mm)]) ++ List.replicate (4 - (lg_sl ([.ref h0, .int (nI mm)])).length) Slot.unset).toArray = ls at hl ⊢
  have hl : lv_has ls 4 [(0, .ref h0), (1, .int (nI mm))] := hl
  have F : CallFix p m c b_Sm_digits 4 s ([.ref h0, .int (nI mm)]).toArray gw "LineDisk$Statement" := ⟨hx, hb, hml, hown, hts⟩
  refine lv_iconst (v := 0) hx hb d_Sm_digits_0 (by decide) ?_
  refine lv_istore_n (i := 2) hx hb d_Sm_digits_1 rfl hl (by decide) rfl (fun ls hl => ?_)
  have hl : lv_has ls 4 [(2, .int 0), (0, .ref h0), (1, .int (nI mm))] := hl
  refine lv_aload_n hx hb d_Sm_digits_2 rfl (lv_at hl 1 rfl) ?_
  refine va_get (D := (dC, dI)) (ci := 4) (v := .int (nI at1)) (C := R_Sm) (T := F_Sm) (N := 12) hx hb hts in_Sm hown hK hP 0 rfl rfl 3 (by decide) (hts _ w_112) (fun _ h9 => h9) rfl d_Sm_digits_3 ?_
  refine lv_istore_n (i := 3) hx hb d_Sm_digits_6 rfl hl (by decide) rfl (fun ls hl => ?_)
  have hl : lv_has ls 4 [(3, .int (nI at1)), (2, .int 0), (0, .ref h0), (1, .int (nI mm))] := hl
  refine lp_Sm_digits hx hb hml hts hown hkw hA h0 sx sv cX cV tx va en at1 go kd vr fi lf sg rt tg mm hmm he hK (by decide) (by decide) (by decide) (by decide) (fun k _ ls H locs n9 hl hP hD hS hf => ?_) mm 0 (by omega) ls _ _ 0 (lv_sub hl [1, 0, 2, 3] rfl) hP hD hS ⟨rfl, ha⟩
  refine lv_iload_n hx hb d_Sm_digits_53 rfl (lv_at hl 0 rfl) ?_
  refine W.widen (k := 0) (n := 0) (by decide) (by decide) ?_
  exact W.iret (v := n9) hx hb hr (fun t ht hW => ⟨⟨n9, at1 + k, rfl, hf, cB.of (hP.sub [0, 1, 2] rfl) (hD.sub [0, 1, 2] (by decide) rfl) (hK.sub [0, 1] rfl) ht hW⟩, hS.F ht⟩) hS.2.2 d_Sm_digits_54
def lnoF (tx : Nat → Int32) (en a : Nat) (g : Int32) : Int32 × Nat × Int32 := if ¬ (dgN tx en 2 a 0).1 = 0 then ((dgN tx en 2 a 0).1, (dgN tx en 2 a 0).2, g) else ((dgN tx en 2 a 0).1, (dgN tx en 2 a 0).2, 0)
set_option maxHeartbeats 4000000 in
set_option maxRecDepth 100000 in
theorem g_Sm_lineNumber (l : Launch) (dC : Nat → ClassId) (dI : Nat → Nat → Nat) (h0 sx sv : Nat) (cX cV : ClassId) (tx va : Nat → Int32) (en at1 : Nat) (go kd vr fi lf sg rt tg : Int32) (he : en ≤ 12) (ha : at1 ≤ en) (sz : Nat) : Met l y_Sm_lineNumber (Cond.code y_Sm_lineNumber b_Sm_lineNumber 2 (some .int) :: gw) ({ frames := 2, cells := 0, slots := 0, locals := 43 }) (cP (dC, dI) [.ref h0] sz [(h0, .inr (4, [.ref sx, .ref sv, .int (nI en), .int (nI at1), .int go, .int kd, .int vr, .int fi, .int lf, .int sg, .int rt, .int tg])), (sx, .inl (cX, 12, .inl tx)), (sv, .inl (cV, 8, .inl va))] [(cX, .int), (cV, .int)] xT) (va_Qi (fun (r : Int32) (u : Nat × Int32) => (r, u) = lnoF tx en at1 go ∧ u.1 ≤ en) (fun (u : Nat × Int32) t => cB (dC, dI) (va_A [(h0, .inr (4, [.ref sx, .ref sv, .int (nI en), .int (nI at1), .int go, .int kd, .int vr, .int fi, .int lf, .int sg, .int rt, .int tg])), (sx, .inl (cX, 12, .inl tx)), (sv, .inl (cV, 8, .inl va))] sz) [(h0, .inr (4, [.ref sx, .ref sv, .int (nI en), .int (nI u.1), .int u.2, .int kd, .int vr, .int fi, .int lf, .int sg, .int rt, .int tg])), (sx, .inl (cX, 12, .inl tx)), (sv, .inl (cV, 8, .inl va))] [(cX, .int), (cV, .int)] t) (va_A [(h0, .inr (4, [.ref sx, .ref sv, .int (nI en), .int (nI at1), .int go, .int kd, .int vr, .int fi, .int lf, .int sg, .int rt, .int tg])), (sx, .inl (cX, 12, .inl tx)), (sv, .inl (cV, 8, .inl va))] sz)) 0 0 (va_A [(h0, .inr (4, [.ref sx, .ref sv, .int (nI en), .int (nI at1), .int go, .int kd, .int vr, .int fi, .int lf, .int sg, .int rt, .int tg])), (sx, .inl (cX, 12, .inl tx)), (sv, .inl (cV, 8, .inl va))] sz) := by
  refine Met.ofW (cc := b_Sm_lineNumber) (maxL := 2) (ret := (some .int)) (by decide) rfl ?_
  intro p e s m args below meth c s₁ B hml hv
  obtain ⟨rfl, hsz, hP, hK, hD0, hkw, hX⟩ := hv
  have hx := B.exec
  have hb := B.bytes
  have hr := B.returns
  have hts := fun w hw => atoms_spec (ws := Cond.code y_Sm_lineNumber b_Sm_lineNumber 2 (some .int) :: gw) B.pre w (List.mem_cons_of_mem _ hw)
  have hown : s.vm.findClass "LineDisk$Statement" = some m.cls := findClass_of_methodNamed B.named
  have hlocks := B.notSynchronized
  have hin := (name_of_methodNamed B.named B.method).1
  subst hsz
  have hD := hD0.self (sz := s.heap.size)
  generalize hAe : va_A [(h0, .inr (4, [.ref sx, .ref sv, .int (nI en), .int (nI at1), .int go, .int kd, .int vr, .int fi, .int lf, .int sg, .int rt, .int tg])), (sx, .inl (cX, 12, .inl tx)), (sv, .inl (cV, 8, .inl va))] s.heap.size = A at hD ⊢
  have hA : ∀ q : Nat, s.heap.size ≤ q → A q := fun q h => by rw [← hAe]; exact Or.inr h
  have hS : va_S A s.heap s.heap [] := va_S.rf
  have hl := lv_entry ([.ref h0]) (n := 2) (Nat.le_of_ble_eq_true rfl)
  rw [lg_entry_eq]
  generalize (lg_sl ([.ref h0]) ++ List.replicate (2 - (lg_sl ([.ref h0])).length) Slot.unset).toArray = ls at hl ⊢
  have hl : lv_has ls 2 [(0, .ref h0)] := hl
  have F : CallFix p m c b_Sm_lineNumber 2 s ([.ref h0]).toArray gw "LineDisk$Statement" := ⟨hx, hb, hml, hown, hts⟩
  refine lv_aload_n hx hb d_Sm_lineNumber_0 rfl (lv_at hl 0 rfl) ?_
  refine lv_iconst (v := 2) hx hb d_Sm_lineNumber_1 (by decide) ?_
  refine go_i (wr := []) (tr := []) (rV (C := "LineDisk$Statement") (ci := 4) (q0 := 0) (b := h0) (n := 1) (As := [.int 2]) (rest := []) F hkw (g_Sm_digits l dC dI h0 sx sv cX cV tx va en at1 go kd vr fi lf sg rt tg he ha 2 (by decide) s.heap.size) xT_bl (fun _ _ _ => trivial) w_289 w_291 ws_11 w_5 w_292 rfl rfl (by decide +kernel) ⟨Nat.le_of_ble_eq_true rfl, Nat.le_of_ble_eq_true rfl⟩ (hP.sub (ws' := [(h0, .inr (4, [.ref sx, .ref sv, .int (nI en), .int (nI at1), .int go, .int kd, .int vr, .int fi, .int lf, .int sg, .int rt, .int tg])), (sx, .inl (cX, 12, .inl tx)), (sv, .inl (cV, 8, .inl va))]) [0, 1, 2] rfl) (hD.sub (ws' := [(h0, .inr (4, [.ref sx, .ref sv, .int (nI en), .int (nI at1), .int go, .int kd, .int vr, .int fi, .int lf, .int sg, .int rt, .int tg])), (sx, .inl (cX, 12, .inl tx)), (sv, .inl (cV, 8, .inl va))]) [0, 1, 2] (by decide) rfl) (hK.sub (tys' := [(cX, .int), (cV, .int)]) [0, 1] rfl) rfl rfl rfl rfl hl.1 rfl (Nat.le_of_ble_eq_true rfl) d_Sm_lineNumber_2 ⟨by decide, by decide⟩) hP hD hK hS hA [0, 1, 2] [] [] rfl rfl (by decide) (by decide) rfl (fun r u9 H locs hw hP hD hK hS => ?_)
  have hP : va_P (dC, dI) cls [(h0, .inr (4, [.ref sx, .ref sv, .int (nI en), .int (nI u9), .int go, .int kd, .int vr, .int fi, .int lf, .int sg, .int rt, .int tg])), (sx, .inl (cX, 12, .inl tx)), (sv, .inl (cV, 8, .inl va))] H := hP
  have hD : va_D A [(h0, .inr (4, [.ref sx, .ref sv, .int (nI en), .int (nI u9), .int go, .int kd, .int vr, .int fi, .int lf, .int sg, .int rt, .int tg])), (sx, .inl (cX, 12, .inl tx)), (sv, .inl (cV, 8, .inl va))] := hD
  have hK : va_K (dC, dI) cls [(cX, .int), (cV, .int)] s := hK
  refine W.widen (k := 0) (n := 0) (by omega) (by omega) ?_
  obtain ⟨e1, e2⟩ := hw
  have e3 : (dgN tx en 2 at1 0).1 = r := by rw [← e1]
  have e4 : (dgN tx en 2 at1 0).2 = u9 := by rw [← e1]
  refine lv_istore_n (i := 1) hx hb d_Sm_lineNumber_5 rfl hl (by decide) rfl (fun ls hl => ?_)
  have hl : lv_has ls 2 [(1, .int r), (0, .ref h0)] := hl
  refine lv_iload_n hx hb d_Sm_lineNumber_6 rfl (lv_at hl 0 rfl) ?_
  refine lv_if_ne (tgt := 15) hx hb d_Sm_lineNumber_7 (by decide) (fun c7 => ?_) (fun c7 => ?_)
  · skip
    refine lv_iload_n hx hb d_Sm_lineNumber_15 rfl (lv_at hl 0 rfl) ?_
    refine W.widen (k := 0) (n := 0) (by decide) (by decide) ?_
    exact W.iret (v := r) hx hb hr (fun t ht hW => ⟨⟨r, (u9, go), rfl, ⟨by
      unfold lnoF
      rw [e3, e4, if_pos c7], e2⟩, cB.of (hP.sub [0, 1, 2] rfl) (hD.sub [0, 1, 2] (by decide) rfl) (hK.sub [0, 1] rfl) ht hW⟩, hS.F ht⟩) hS.2.2 d_Sm_lineNumber_16
  · skip
    refine lv_aload_n hx hb d_Sm_lineNumber_10 rfl (lv_at hl 1 rfl) ?_
    refine lv_iconst (v := 0) hx hb d_Sm_lineNumber_11 (by decide) ?_
    refine va_put (D := (dC, dI)) (ci := 4) (v := .int 0) (ty := .boolean) (C := R_Sm) (T := F_Sm) (N := 12) hx hb hts in_Sm t_Sm t_Sm_ok n_Sm hown hK hP hD hS 0 rfl rfl 4 (by decide) (hts _ w_113) (fun _ h9 => h9) rfl (by decide +kernel) (rfl) (rfl) (Nat.le_of_ble_eq_true rfl) d_Sm_lineNumber_12 (fun H locs hP hD hS => ?_)
    have hP : va_P (dC, dI) cls [(h0, .inr (4, [.ref sx, .ref sv, .int (nI en), .int (nI u9), .int 0, .int kd, .int vr, .int fi, .int lf, .int sg, .int rt, .int tg])), (sx, .inl (cX, 12, .inl tx)), (sv, .inl (cV, 8, .inl va))] H := hP
    have hD : va_D A [(h0, .inr (4, [.ref sx, .ref sv, .int (nI en), .int (nI u9), .int 0, .int kd, .int vr, .int fi, .int lf, .int sg, .int rt, .int tg])), (sx, .inl (cX, 12, .inl tx)), (sv, .inl (cV, 8, .inl va))] := hD
    refine lv_iload_n hx hb d_Sm_lineNumber_15 rfl (lv_at hl 0 rfl) ?_
    refine W.widen (k := 0) (n := 0) (by decide) (by decide) ?_
    exact W.iret (v := r) hx hb hr (fun t ht hW => ⟨⟨r, (u9, 0), rfl, ⟨by
      unfold lnoF
      rw [e3, e4, if_neg (fun h => h c7)], e2⟩, cB.of (hP.sub [0, 1, 2] rfl) (hD.sub [0, 1, 2] (by decide) rfl) (hK.sub [0, 1] rfl) ht hW⟩, hS.F ht⟩) hS.2.2 d_Sm_lineNumber_16
def x2 (r1 n1 : Nat) (f1 : Nat → Int32) (r2 n2 : Nat) (f2 : Nat → Int32) (ws : va_W) : State → Prop := fun U => xP r1 n1 f1 ws U ∧ xP r2 n2 f2 ws U
theorem x2_bl {r1 n1 r2 n2 : Nat} {f1 f2 : Nat → Int32} {ws : va_W} : xBl (x2 r1 n1 f1 r2 n2 f2 ws) := fun U g mk a h => ⟨xP_bl U g mk a h.1, xP_bl U g mk a h.2⟩
def kdT (tx : Nat → Int32) (n : Nat) : Int32 := if nI n ≤ 1 then tx 0 else if vrb (tx 0) = 0 then tx 0 else if ¬ tx 1 = 61 then tx 0 else 61
def atT (c : Int32) : Nat := if ¬ c = 61 then 1 else 0
set_option maxHeartbeats 4000000 in
set_option maxRecDepth 100000 in
theorem g_Sm_take (l : Launch) (dC : Nat → ClassId) (dI : Nat → Nat → Nat) (h0 sx sv : Nat) (cX cV : ClassId) (tx va : Nat → Int32) (en at1 : Nat) (go kd vr fi lf sg rt tg : Int32) (row n0 : Nat) (f : Nat → Int32) (wv : Nat) (vf : Nat → Int32) (fr ln : Int32) (hn0 : n0 < 2 ^ 30) (sz : Nat) : Met l y_Sm_take (Cond.code y_Sm_take b_Sm_take 5 (some .boolean) :: gw) ({ frames := 1, cells := 0, slots := 0, locals := 100 }) (cP (dC, dI) [.ref h0, .ref row, .int fr, .int ln, .ref wv] sz [(h0, .inr (4, [.ref sx, .ref sv, .int (nI en), .int (nI at1), .int go, .int kd, .int vr, .int fi, .int lf, .int sg, .int rt, .int tg])), (sx, .inl (cX, 12, .inl tx)), (sv, .inl (cV, 8, .inl va))] [(cX, .int), (cV, .int)] (x2 row n0 f wv 8 vf [(h0, .inr (4, [.ref sx, .ref sv, .int (nI en), .int (nI at1), .int go, .int kd, .int vr, .int fi, .int lf, .int sg, .int rt, .int tg])), (sx, .inl (cX, 12, .inl tx)), (sv, .inl (cV, 8, .inl va))])) (va_Qi (fun (r : Int32) (u : Nat × Nat × Int32 × (Nat → Int32) × (Nat → Int32)) => (r = 0 ∧ badT n0 fr ln ∧ u = (en, at1, 0, tx, va)) ∨ (r = 1 ∧ ¬ badT n0 fr ln ∧ ∃ j, 1 ≤ j ∧ j ≤ 12 ∧ ln = nI j ∧ u = (j, atT (kdT (va_cpy f tx fr.toNatClampNeg 0 j) j), kdT (va_cpy f tx fr.toNatClampNeg 0 j) j, va_cpy f tx fr.toNatClampNeg 0 j, va_cpy vf va 0 0 8))) (fun (u : Nat × Nat × Int32 × (Nat → Int32) × (Nat → Int32)) t => cB (dC, dI) (va_A [(h0, .inr (4, [.ref sx, .ref sv, .int (nI en), .int (nI at1), .int go, .int kd, .int vr, .int fi, .int lf, .int sg, .int rt, .int tg])), (sx, .inl (cX, 12, .inl tx)), (sv, .inl (cV, 8, .inl va))] sz) [(h0, .inr (4, [.ref sx, .ref sv, .int (nI u.1), .int (nI u.2.1), .int go, .int u.2.2.1, .int vr, .int fi, .int lf, .int sg, .int rt, .int tg])), (sx, .inl (cX, 12, .inl u.2.2.2.1)), (sv, .inl (cV, 8, .inl u.2.2.2.2))] [(cX, .int), (cV, .int)] t) (va_A [(h0, .inr (4, [.ref sx, .ref sv, .int (nI en), .int (nI at1), .int go, .int kd, .int vr, .int fi, .int lf, .int sg, .int rt, .int tg])), (sx, .inl (cX, 12, .inl tx)), (sv, .inl (cV, 8, .inl va))] sz)) 0 0 (va_A [(h0, .inr (4, [.ref sx, .ref sv, .int (nI en), .int (nI at1), .int go, .int kd, .int vr, .int fi, .int lf, .int sg, .int rt, .int tg])), (sx, .inl (cX, 12, .inl tx)), (sv, .inl (cV, 8, .inl va))] sz) := by
  refine Met.ofW (cc := b_Sm_take) (maxL := 5) (ret := (some .boolean)) (by decide) rfl ?_
  intro p e s m args below meth c s₁ B hml hv
  obtain ⟨rfl, hsz, hP, hK, hD0, hkw, hX⟩ := hv
  have hx := B.exec
  have hb := B.bytes
  have hr := B.returns
  have hts := fun w hw => atoms_spec (ws := Cond.code y_Sm_take b_Sm_take 5 (some .boolean) :: gw) B.pre w (List.mem_cons_of_mem _ hw)
  have hown : s.vm.findClass "LineDisk$Statement" = some m.cls := findClass_of_methodNamed B.named
  have hlocks := B.notSynchronized
  have hin := (name_of_methodNamed B.named B.method).1
  subst hsz
  have hD := hD0.self (sz := s.heap.size)
  generalize hAe : va_A [(h0, .inr (4, [.ref sx, .ref sv, .int (nI en), .int (nI at1), .int go, .int kd, .int vr, .int fi, .int lf, .int sg, .int rt, .int tg])), (sx, .inl (cX, 12, .inl tx)), (sv, .inl (cV, 8, .inl va))] s.heap.size = A at hD ⊢
  have hA : ∀ q : Nat, s.heap.size ≤ q → A q := fun q h => by rw [← hAe]; exact Or.inr h
  have hS : va_S A s.heap s.heap [] := va_S.rf
  have hl := lv_entry ([.ref h0, .ref row, .int fr, .int ln, .ref wv]) (n := 5) (Nat.le_of_ble_eq_true rfl)
  rw [lg_entry_eq]
  generalize (lg_sl ([.ref h0, .ref row, .int fr, .int ln, .ref wv]) ++ List.replicate (5 - (lg_sl ([.ref h0, .ref row, .int fr, .int ln, .ref wv])).length) Slot.unset).toArray = ls at hl ⊢
  have hl : lv_has ls 5 [(0, .ref h0), (1, .ref row), (2, .int fr), (3, .int ln), (4, .ref wv)] := hl
  have F : CallFix p m c b_Sm_take 5 s ([.ref h0, .ref row, .int fr, .int ln, .ref wv]).toArray gw "LineDisk$Statement" := ⟨hx, hb, hml, hown, hts⟩
  obtain ⟨⟨hX1, hl1, hA1⟩, hX2, hl2, hA2⟩ := hX
  rw [hAe] at hA1 hA2
  refine lv_aload_n hx hb d_Sm_take_0 rfl (lv_at hl 0 rfl) ?_
  refine lv_iconst (v := 0) hx hb d_Sm_take_1 (by decide) ?_
  refine va_put (D := (dC, dI)) (ci := 4) (v := .int 0) (ty := .int) (C := R_Sm) (T := F_Sm) (N := 12) hx hb hts in_Sm t_Sm t_Sm_ok n_Sm hown hK hP hD hS 0 rfl rfl 5 (by decide) (hts _ w_114) (fun _ h9 => h9) rfl (by decide +kernel) (rfl) (rfl) (Nat.le_of_ble_eq_true rfl) d_Sm_take_2 (fun H locs hP hD hS => ?_)
  have hP : va_P (dC, dI) cls [(h0, .inr (4, [.ref sx, .ref sv, .int (nI en), .int (nI at1), .int go, .int 0, .int vr, .int fi, .int lf, .int sg, .int rt, .int tg])), (sx, .inl (cX, 12, .inl tx)), (sv, .inl (cV, 8, .inl va))] H := hP
  have hD : va_D A [(h0, .inr (4, [.ref sx, .ref sv, .int (nI en), .int (nI at1), .int go, .int 0, .int vr, .int fi, .int lf, .int sg, .int rt, .int tg])), (sx, .inl (cX, 12, .inl tx)), (sv, .inl (cV, 8, .inl va))] := hD
  refine lv_iload_n hx hb d_Sm_take_5 rfl (lv_at hl 3 rfl) ?_
  refine lv_iconst (v := 1) hx hb d_Sm_take_6 (by decide) ?_
  refine lv_icmp_lt (tgt := 28) hx hb d_Sm_take_7 (by decide) (fun c7 => ?_) (fun c7 => ?_)
  · skip
    refine lv_iconst (v := 0) hx hb d_Sm_take_28 (by decide) ?_
    refine W.widen (k := 0) (n := 0) (by decide) (by decide) ?_
    exact W.zret (v := 0) hx hb hr (rfl) (fun t ht hW => ⟨⟨0, (en, at1, 0, tx, va), rfl, Or.inl ⟨rfl, Or.inl c7, rfl⟩, cB.of (hP.sub [0, 1, 2] rfl) (hD.sub [0, 1, 2] (by decide) rfl) (hK.sub [0, 1] rfl) ht hW⟩, hS.F ht⟩) hS.2.2 d_Sm_take_29
  · skip
    refine lv_iload_n hx hb d_Sm_take_10 rfl (lv_at hl 3 rfl) ?_
    refine lv_bipush (v := 12) hx hb d_Sm_take_11 (by decide) ?_
    refine lv_icmp_gt (tgt := 28) hx hb d_Sm_take_13 (by decide) (fun c13 => ?_) (fun c13 => ?_)
    · skip
      refine lv_iconst (v := 0) hx hb d_Sm_take_28 (by decide) ?_
      refine W.widen (k := 0) (n := 0) (by decide) (by decide) ?_
      exact W.zret (v := 0) hx hb hr (rfl) (fun t ht hW => ⟨⟨0, (en, at1, 0, tx, va), rfl, Or.inl ⟨rfl, Or.inr (Or.inl c13), rfl⟩, cB.of (hP.sub [0, 1, 2] rfl) (hD.sub [0, 1, 2] (by decide) rfl) (hK.sub [0, 1] rfl) ht hW⟩, hS.F ht⟩) hS.2.2 d_Sm_take_29
    · skip
      refine lv_iload_n hx hb d_Sm_take_16 rfl (lv_at hl 2 rfl) ?_
      refine lv_if_lt (tgt := 28) hx hb d_Sm_take_17 (by decide) (fun c17 => ?_) (fun c17 => ?_)
      · skip
        refine lv_iconst (v := 0) hx hb d_Sm_take_28 (by decide) ?_
        refine W.widen (k := 0) (n := 0) (by decide) (by decide) ?_
        exact W.zret (v := 0) hx hb hr (rfl) (fun t ht hW => ⟨⟨0, (en, at1, 0, tx, va), rfl, Or.inl ⟨rfl, Or.inr (Or.inr (Or.inl c17)), rfl⟩, cB.of (hP.sub [0, 1, 2] rfl) (hD.sub [0, 1, 2] (by decide) rfl) (hK.sub [0, 1] rfl) ht hW⟩, hS.F ht⟩) hS.2.2 d_Sm_take_29
      · skip
        refine lv_iload_n hx hb d_Sm_take_20 rfl (lv_at hl 2 rfl) ?_
        refine lv_aload_n hx hb d_Sm_take_21 rfl (lv_at hl 1 rfl) ?_
        refine va_slen hx hb hX1 hl1 hA1 hS d_Sm_take_22 ?_
        refine lv_iload_n hx hb d_Sm_take_23 rfl (lv_at hl 3 rfl) ?_
        refine lv_isub hx hb d_Sm_take_24 ?_
        refine lv_icmp_le (tgt := 30) hx hb d_Sm_take_25 (by decide) (fun c25 => ?_) (fun c25 => ?_)
        · skip
          refine lv_aload_n hx hb d_Sm_take_30 rfl (lv_at hl 1 rfl) ?_
          refine lv_iload_n hx hb d_Sm_take_31 rfl (lv_at hl 2 rfl) ?_
          refine lv_aload_n hx hb d_Sm_take_32 rfl (lv_at hl 0 rfl) ?_
          refine va_get (D := (dC, dI)) (ci := 4) (v := .ref sx) (C := R_Sm) (T := F_Sm) (N := 12) hx hb hts in_Sm hown hK hP 0 rfl rfl 0 (by decide) (hts _ w_109) (fun _ h9 => h9) rfl d_Sm_take_33 ?_
          refine lv_iconst (v := 0) hx hb d_Sm_take_36 (by decide) ?_
          refine lv_iload_n hx hb d_Sm_take_37 rfl (lv_at hl 3 rfl) ?_
          obtain ⟨lj, hlj, elj⟩ := nI_of2 (x := ln) (M := 12) (n := 12) (by decide) (ln12 c7 c13).1 (Int32.not_lt.mp c13)
          have hlj1 : 1 ≤ lj := by
            rcases Nat.lt_or_ge lj 1 with h | h
            · exact absurd (by rw [elj, show lj = 0 by omega]; decide) c7
            · exact h
          have hbad : ¬ badT n0 fr ln := fun h => h.elim c7 (fun h => h.elim c13 (fun h => h.elim c17 (fun h => h c25)))
          have hlc : ln.toNatClampNeg = lj := by rw [elj]; exact nI_clamp (by omega)
          refine va_copyx (rest := []) hx hb (by rw [hml]; exact hl.1.symm) hown (hts _ w_260) (hts _ w_183) (hts _ w_182) (hts _ w_7) hK hP hD hS hX1 hl1 hA1 1 0 rfl rfl c17 (by decide) (ln12 c7 c13).1 (frl hn0 c7 c13 c17 c25) (by have := (ln12 c7 c13).2; show 0 + ln.toNatClampNeg ≤ 12; omega) (by decide) (by decide) d_Sm_take_38 (fun H locs hP hD hS => ?_)
          rw [hlc, show (0 : Int32).toNatClampNeg = 0 from rfl] at hP hD
          have hP : va_P (dC, dI) cls [(h0, .inr (4, [.ref sx, .ref sv, .int (nI en), .int (nI at1), .int go, .int 0, .int vr, .int fi, .int lf, .int sg, .int rt, .int tg])), (sx, .inl (cX, 12, .inl (va_cpy f tx fr.toNatClampNeg 0 lj))), (sv, .inl (cV, 8, .inl va))] H := hP
          have hD : va_D A [(h0, .inr (4, [.ref sx, .ref sv, .int (nI en), .int (nI at1), .int go, .int 0, .int vr, .int fi, .int lf, .int sg, .int rt, .int tg])), (sx, .inl (cX, 12, .inl (va_cpy f tx fr.toNatClampNeg 0 lj))), (sv, .inl (cV, 8, .inl va))] := hD
          refine lv_aload hx hb d_Sm_take_41 (lv_at hl 4 rfl) ?_
          refine lv_iconst (v := 0) hx hb d_Sm_take_43 (by decide) ?_
          refine lv_aload_n hx hb d_Sm_take_44 rfl (lv_at hl 0 rfl) ?_
          refine va_get (D := (dC, dI)) (ci := 4) (v := .ref sv) (C := R_Sm) (T := F_Sm) (N := 12) hx hb hts in_Sm hown hK hP 0 rfl rfl 1 (by decide) (hts _ w_110) (fun _ h9 => h9) rfl d_Sm_take_45 ?_
          refine lv_iconst (v := 0) hx hb d_Sm_take_48 (by decide) ?_
          refine lv_bipush (v := 8) hx hb d_Sm_take_49 (by decide) ?_
          refine va_copyx (rest := []) hx hb (by rw [hml]; exact hl.1.symm) hown (hts _ w_260) (hts _ w_183) (hts _ w_182) (hts _ w_7) hK hP hD hS hX2 hl2 hA2 2 1 rfl rfl (by decide) (by decide) (by decide) (by decide) (by decide) (by decide) (by decide) d_Sm_take_51 (fun H locs hP hD hS => ?_)
          have hP : va_P (dC, dI) cls [(h0, .inr (4, [.ref sx, .ref sv, .int (nI en), .int (nI at1), .int go, .int 0, .int vr, .int fi, .int lf, .int sg, .int rt, .int tg])), (sx, .inl (cX, 12, .inl (va_cpy f tx fr.toNatClampNeg 0 lj))), (sv, .inl (cV, 8, .inl (va_cpy vf va 0 0 8)))] H := hP
          have hD : va_D A [(h0, .inr (4, [.ref sx, .ref sv, .int (nI en), .int (nI at1), .int go, .int 0, .int vr, .int fi, .int lf, .int sg, .int rt, .int tg])), (sx, .inl (cX, 12, .inl (va_cpy f tx fr.toNatClampNeg 0 lj))), (sv, .inl (cV, 8, .inl (va_cpy vf va 0 0 8)))] := hD
          subst elj
          have hl : lv_has ls 5 [(0, .ref h0), (1, .ref row), (2, .int fr), (3, .int (nI lj)), (4, .ref wv)] := hl
          refine lv_aload_n hx hb d_Sm_take_54 rfl (lv_at hl 0 rfl) ?_
          refine lv_iload_n hx hb d_Sm_take_55 rfl (lv_at hl 3 rfl) ?_
          refine va_put (D := (dC, dI)) (ci := 4) (v := .int (nI lj)) (ty := .int) (C := R_Sm) (T := F_Sm) (N := 12) hx hb hts in_Sm t_Sm t_Sm_ok n_Sm hown hK hP hD hS 0 rfl rfl 2 (by decide) (hts _ w_111) (fun _ h9 => h9) rfl (by decide +kernel) (rfl) (rfl) (Nat.le_of_ble_eq_true rfl) d_Sm_take_56 (fun H locs hP hD hS => ?_)
          have hP : va_P (dC, dI) cls [(h0, .inr (4, [.ref sx, .ref sv, .int (nI lj), .int (nI at1), .int go, .int 0, .int vr, .int fi, .int lf, .int sg, .int rt, .int tg])), (sx, .inl (cX, 12, .inl (va_cpy f tx fr.toNatClampNeg 0 lj))), (sv, .inl (cV, 8, .inl (va_cpy vf va 0 0 8)))] H := hP
          have hD : va_D A [(h0, .inr (4, [.ref sx, .ref sv, .int (nI lj), .int (nI at1), .int go, .int 0, .int vr, .int fi, .int lf, .int sg, .int rt, .int tg])), (sx, .inl (cX, 12, .inl (va_cpy f tx fr.toNatClampNeg 0 lj))), (sv, .inl (cV, 8, .inl (va_cpy vf va 0 0 8)))] := hD
          refine lv_aload_n hx hb d_Sm_take_59 rfl (lv_at hl 0 rfl) ?_
          refine lv_iload_n hx hb d_Sm_take_60 rfl (lv_at hl 3 rfl) ?_
          refine lv_iconst (v := 1) hx hb d_Sm_take_61 (by decide) ?_
          refine lv_icmp_le (tgt := 93) hx hb d_Sm_take_62 (by decide) (fun c62 => ?_) (fun c62 => ?_)
          · skip
            refine lv_aload_n hx hb d_Sm_take_93 rfl (lv_at hl 0 rfl) ?_
            refine va_get (D := (dC, dI)) (ci := 4) (v := .ref sx) (C := R_Sm) (T := F_Sm) (N := 12) hx hb hts in_Sm hown hK hP 0 rfl rfl 0 (by decide) (hts _ w_109) (fun _ h9 => h9) rfl d_Sm_take_94 ?_
            refine lv_iconst (v := 0) hx hb d_Sm_take_97 (by decide) ?_
            refine va_iald hx hb hK hP 1 0 rfl rfl (vp_in_iff.mpr (by decide)) d_Sm_take_98 ?_
            refine tv (x2 := (va_cpy f tx fr.toNatClampNeg 0 lj) 0) (by exact rfl) ?_
            refine va_put (D := (dC, dI)) (ci := 4) (v := .int ((va_cpy f tx fr.toNatClampNeg 0 lj) 0)) (ty := .int) (C := R_Sm) (T := F_Sm) (N := 12) hx hb hts in_Sm t_Sm t_Sm_ok n_Sm hown hK hP hD hS 0 rfl rfl 5 (by decide) (hts _ w_114) (fun _ h9 => h9) rfl (by decide +kernel) (rfl) (rfl) (Nat.le_of_ble_eq_true rfl) d_Sm_take_99 (fun H locs hP hD hS => ?_)
            have hP : va_P (dC, dI) cls [(h0, .inr (4, [.ref sx, .ref sv, .int (nI lj), .int (nI at1), .int go, .int ((va_cpy f tx fr.toNatClampNeg 0 lj) 0), .int vr, .int fi, .int lf, .int sg, .int rt, .int tg])), (sx, .inl (cX, 12, .inl (va_cpy f tx fr.toNatClampNeg 0 lj))), (sv, .inl (cV, 8, .inl (va_cpy vf va 0 0 8)))] H := hP
            have hD : va_D A [(h0, .inr (4, [.ref sx, .ref sv, .int (nI lj), .int (nI at1), .int go, .int ((va_cpy f tx fr.toNatClampNeg 0 lj) 0), .int vr, .int fi, .int lf, .int sg, .int rt, .int tg])), (sx, .inl (cX, 12, .inl (va_cpy f tx fr.toNatClampNeg 0 lj))), (sv, .inl (cV, 8, .inl (va_cpy vf va 0 0 8)))] := hD
            refine lv_aload_n hx hb d_Sm_take_102 rfl (lv_at hl 0 rfl) ?_
            refine lv_aload_n hx hb d_Sm_take_103 rfl (lv_at hl 0 rfl) ?_
            refine va_get (D := (dC, dI)) (ci := 4) (v := .int ((va_cpy f tx fr.toNatClampNeg 0 lj) 0)) (C := R_Sm) (T := F_Sm) (N := 12) hx hb hts in_Sm hown hK hP 0 rfl rfl 5 (by decide) (hts _ w_114) (fun _ h9 => h9) rfl d_Sm_take_104 ?_
            refine lv_bipush (v := 61) hx hb d_Sm_take_107 (by decide) ?_
            refine lv_icmp_ne (tgt := 116) hx hb d_Sm_take_109 (by decide) (fun c109 => ?_) (fun c109 => ?_)
            · skip
              refine lv_iconst (v := 1) hx hb d_Sm_take_116 (by decide) ?_
              refine va_put (D := (dC, dI)) (ci := 4) (v := .int 1) (ty := .int) (C := R_Sm) (T := F_Sm) (N := 12) hx hb hts in_Sm t_Sm t_Sm_ok n_Sm hown hK hP hD hS 0 rfl rfl 3 (by decide) (hts _ w_112) (fun _ h9 => h9) rfl (by decide +kernel) (rfl) (rfl) (Nat.le_of_ble_eq_true rfl) d_Sm_take_117 (fun H locs hP hD hS => ?_)
              have hP : va_P (dC, dI) cls [(h0, .inr (4, [.ref sx, .ref sv, .int (nI lj), .int 1, .int go, .int ((va_cpy f tx fr.toNatClampNeg 0 lj) 0), .int vr, .int fi, .int lf, .int sg, .int rt, .int tg])), (sx, .inl (cX, 12, .inl (va_cpy f tx fr.toNatClampNeg 0 lj))), (sv, .inl (cV, 8, .inl (va_cpy vf va 0 0 8)))] H := hP
              have hD : va_D A [(h0, .inr (4, [.ref sx, .ref sv, .int (nI lj), .int 1, .int go, .int ((va_cpy f tx fr.toNatClampNeg 0 lj) 0), .int vr, .int fi, .int lf, .int sg, .int rt, .int tg])), (sx, .inl (cX, 12, .inl (va_cpy f tx fr.toNatClampNeg 0 lj))), (sv, .inl (cV, 8, .inl (va_cpy vf va 0 0 8)))] := hD
              refine lv_iconst (v := 1) hx hb d_Sm_take_120 (by decide) ?_
              have ek : kdT (va_cpy f tx fr.toNatClampNeg 0 lj) lj = (va_cpy f tx fr.toNatClampNeg 0 lj) 0 := by (simp only [kdT, c62, if_true, if_false, not_true_eq_false, not_false_eq_true, ite_not] <;> try simp)
              have ea : atT ((va_cpy f tx fr.toNatClampNeg 0 lj) 0) = 1 := by (simp only [atT, c109, if_true, if_false, not_true_eq_false, not_false_eq_true, ite_not] <;> try simp)
              refine W.widen (k := 0) (n := 0) (by decide) (by decide) ?_
              exact W.zret (v := 1) hx hb hr (rfl) (fun t ht hW => ⟨⟨1, (lj, 1, (va_cpy f tx fr.toNatClampNeg 0 lj) 0, va_cpy f tx fr.toNatClampNeg 0 lj, va_cpy vf va 0 0 8), rfl, Or.inr ⟨rfl, hbad, lj, hlj1, hlj, rfl, by rw [ek, ea]⟩, cB.of (hP.sub [0, 1, 2] rfl) (hD.sub [0, 1, 2] (by decide) rfl) (hK.sub [0, 1] rfl) ht hW⟩, hS.F ht⟩) hS.2.2 d_Sm_take_121
            · skip
              refine lv_iconst (v := 0) hx hb d_Sm_take_112 (by decide) ?_
              refine lv_goto (tgt := 117) hx hb d_Sm_take_113 (by decide) ?_
              refine va_put (D := (dC, dI)) (ci := 4) (v := .int 0) (ty := .int) (C := R_Sm) (T := F_Sm) (N := 12) hx hb hts in_Sm t_Sm t_Sm_ok n_Sm hown hK hP hD hS 0 rfl rfl 3 (by decide) (hts _ w_112) (fun _ h9 => h9) rfl (by decide +kernel) (rfl) (rfl) (Nat.le_of_ble_eq_true rfl) d_Sm_take_117 (fun H locs hP hD hS => ?_)
              have hP : va_P (dC, dI) cls [(h0, .inr (4, [.ref sx, .ref sv, .int (nI lj), .int 0, .int go, .int ((va_cpy f tx fr.toNatClampNeg 0 lj) 0), .int vr, .int fi, .int lf, .int sg, .int rt, .int tg])), (sx, .inl (cX, 12, .inl (va_cpy f tx fr.toNatClampNeg 0 lj))), (sv, .inl (cV, 8, .inl (va_cpy vf va 0 0 8)))] H := hP
              have hD : va_D A [(h0, .inr (4, [.ref sx, .ref sv, .int (nI lj), .int 0, .int go, .int ((va_cpy f tx fr.toNatClampNeg 0 lj) 0), .int vr, .int fi, .int lf, .int sg, .int rt, .int tg])), (sx, .inl (cX, 12, .inl (va_cpy f tx fr.toNatClampNeg 0 lj))), (sv, .inl (cV, 8, .inl (va_cpy vf va 0 0 8)))] := hD
              refine lv_iconst (v := 1) hx hb d_Sm_take_120 (by decide) ?_
              have ek : kdT (va_cpy f tx fr.toNatClampNeg 0 lj) lj = (va_cpy f tx fr.toNatClampNeg 0 lj) 0 := by (simp only [kdT, c62, if_true, if_false, not_true_eq_false, not_false_eq_true, ite_not] <;> try simp)
              have ea : atT ((va_cpy f tx fr.toNatClampNeg 0 lj) 0) = 0 := by (simp only [atT, c109, if_true, if_false, not_true_eq_false, not_false_eq_true, ite_not] <;> try simp)
              refine W.widen (k := 0) (n := 0) (by decide) (by decide) ?_
              exact W.zret (v := 1) hx hb hr (rfl) (fun t ht hW => ⟨⟨1, (lj, 0, (va_cpy f tx fr.toNatClampNeg 0 lj) 0, va_cpy f tx fr.toNatClampNeg 0 lj, va_cpy vf va 0 0 8), rfl, Or.inr ⟨rfl, hbad, lj, hlj1, hlj, rfl, by rw [ek, ea]⟩, cB.of (hP.sub [0, 1, 2] rfl) (hD.sub [0, 1, 2] (by decide) rfl) (hK.sub [0, 1] rfl) ht hW⟩, hS.F ht⟩) hS.2.2 d_Sm_take_121
          · skip
            refine lv_aload_n hx hb d_Sm_take_65 rfl (lv_at hl 0 rfl) ?_
            refine va_get (D := (dC, dI)) (ci := 4) (v := .ref sx) (C := R_Sm) (T := F_Sm) (N := 12) hx hb hts in_Sm hown hK hP 0 rfl rfl 0 (by decide) (hts _ w_109) (fun _ h9 => h9) rfl d_Sm_take_66 ?_
            refine lv_iconst (v := 0) hx hb d_Sm_take_69 (by decide) ?_
            refine va_iald hx hb hK hP 1 0 rfl rfl (vp_in_iff.mpr (by decide)) d_Sm_take_70 ?_
            refine tv (x2 := (va_cpy f tx fr.toNatClampNeg 0 lj) 0) (by exact rfl) ?_
            refine go_i (wr := [(h0, .inr (4, [.ref sx, .ref sv, .int (nI lj), .int (nI at1), .int go, .int 0, .int vr, .int fi, .int lf, .int sg, .int rt, .int tg])), (sx, .inl (cX, 12, .inl (va_cpy f tx fr.toNatClampNeg 0 lj))), (sv, .inl (cV, 8, .inl (va_cpy vf va 0 0 8)))]) (tr := [(cX, .int), (cV, .int)]) (rSN (host := "LineDisk") (n := 1) (As := [.int ((va_cpy f tx fr.toNatClampNeg 0 lj) 0)]) (rest := [.ref h0]) F hkw (g_Ld_isVariable l dC dI ((va_cpy f tx fr.toNatClampNeg 0 lj) 0) H.size) xT_bl (fun _ _ _ => trivial) (hkw.at v_261 rfl) w_262 w_1 w_263 rfl rfl (by decide +kernel) ⟨Nat.le_of_ble_eq_true rfl, Nat.le_of_ble_eq_true rfl⟩ (hP.sub (ws' := []) [] rfl) (hD.sub (ws' := []) [] (by decide) rfl) (hK.sub (tys' := []) [] rfl) rfl hl.1 rfl (Nat.le_of_ble_eq_true rfl) d_Sm_take_71 ⟨by decide, by decide⟩) hP hD hK hS hA [] [0, 1, 2] [0, 1] rfl rfl (by decide) (by decide) rfl (fun r u H locs hw hP hD hK hS => ?_)
            have hP : va_P (dC, dI) cls [(h0, .inr (4, [.ref sx, .ref sv, .int (nI lj), .int (nI at1), .int go, .int 0, .int vr, .int fi, .int lf, .int sg, .int rt, .int tg])), (sx, .inl (cX, 12, .inl (va_cpy f tx fr.toNatClampNeg 0 lj))), (sv, .inl (cV, 8, .inl (va_cpy vf va 0 0 8)))] H := hP
            have hD : va_D A [(h0, .inr (4, [.ref sx, .ref sv, .int (nI lj), .int (nI at1), .int go, .int 0, .int vr, .int fi, .int lf, .int sg, .int rt, .int tg])), (sx, .inl (cX, 12, .inl (va_cpy f tx fr.toNatClampNeg 0 lj))), (sv, .inl (cV, 8, .inl (va_cpy vf va 0 0 8)))] := hD
            have hK : va_K (dC, dI) cls [(cX, .int), (cV, .int)] s := hK
            refine W.widen (k := 0) (n := 0) (by omega) (by omega) ?_
            subst hw
            refine lv_if_eq (tgt := 93) hx hb d_Sm_take_74 (by decide) (fun c74 => ?_) (fun c74 => ?_)
            · skip
              refine lv_aload_n hx hb d_Sm_take_93 rfl (lv_at hl 0 rfl) ?_
              refine va_get (D := (dC, dI)) (ci := 4) (v := .ref sx) (C := R_Sm) (T := F_Sm) (N := 12) hx hb hts in_Sm hown hK hP 0 rfl rfl 0 (by decide) (hts _ w_109) (fun _ h9 => h9) rfl d_Sm_take_94 ?_
              refine lv_iconst (v := 0) hx hb d_Sm_take_97 (by decide) ?_
              refine va_iald hx hb hK hP 1 0 rfl rfl (vp_in_iff.mpr (by decide)) d_Sm_take_98 ?_
              refine tv (x2 := (va_cpy f tx fr.toNatClampNeg 0 lj) 0) (by exact rfl) ?_
              refine va_put (D := (dC, dI)) (ci := 4) (v := .int ((va_cpy f tx fr.toNatClampNeg 0 lj) 0)) (ty := .int) (C := R_Sm) (T := F_Sm) (N := 12) hx hb hts in_Sm t_Sm t_Sm_ok n_Sm hown hK hP hD hS 0 rfl rfl 5 (by decide) (hts _ w_114) (fun _ h9 => h9) rfl (by decide +kernel) (rfl) (rfl) (Nat.le_of_ble_eq_true rfl) d_Sm_take_99 (fun H locs hP hD hS => ?_)
              have hP : va_P (dC, dI) cls [(h0, .inr (4, [.ref sx, .ref sv, .int (nI lj), .int (nI at1), .int go, .int ((va_cpy f tx fr.toNatClampNeg 0 lj) 0), .int vr, .int fi, .int lf, .int sg, .int rt, .int tg])), (sx, .inl (cX, 12, .inl (va_cpy f tx fr.toNatClampNeg 0 lj))), (sv, .inl (cV, 8, .inl (va_cpy vf va 0 0 8)))] H := hP
              have hD : va_D A [(h0, .inr (4, [.ref sx, .ref sv, .int (nI lj), .int (nI at1), .int go, .int ((va_cpy f tx fr.toNatClampNeg 0 lj) 0), .int vr, .int fi, .int lf, .int sg, .int rt, .int tg])), (sx, .inl (cX, 12, .inl (va_cpy f tx fr.toNatClampNeg 0 lj))), (sv, .inl (cV, 8, .inl (va_cpy vf va 0 0 8)))] := hD
              refine lv_aload_n hx hb d_Sm_take_102 rfl (lv_at hl 0 rfl) ?_
              refine lv_aload_n hx hb d_Sm_take_103 rfl (lv_at hl 0 rfl) ?_
              refine va_get (D := (dC, dI)) (ci := 4) (v := .int ((va_cpy f tx fr.toNatClampNeg 0 lj) 0)) (C := R_Sm) (T := F_Sm) (N := 12) hx hb hts in_Sm hown hK hP 0 rfl rfl 5 (by decide) (hts _ w_114) (fun _ h9 => h9) rfl d_Sm_take_104 ?_
              refine lv_bipush (v := 61) hx hb d_Sm_take_107 (by decide) ?_
              refine lv_icmp_ne (tgt := 116) hx hb d_Sm_take_109 (by decide) (fun c109 => ?_) (fun c109 => ?_)
              · skip
                refine lv_iconst (v := 1) hx hb d_Sm_take_116 (by decide) ?_
                refine va_put (D := (dC, dI)) (ci := 4) (v := .int 1) (ty := .int) (C := R_Sm) (T := F_Sm) (N := 12) hx hb hts in_Sm t_Sm t_Sm_ok n_Sm hown hK hP hD hS 0 rfl rfl 3 (by decide) (hts _ w_112) (fun _ h9 => h9) rfl (by decide +kernel) (rfl) (rfl) (Nat.le_of_ble_eq_true rfl) d_Sm_take_117 (fun H locs hP hD hS => ?_)
                have hP : va_P (dC, dI) cls [(h0, .inr (4, [.ref sx, .ref sv, .int (nI lj), .int 1, .int go, .int ((va_cpy f tx fr.toNatClampNeg 0 lj) 0), .int vr, .int fi, .int lf, .int sg, .int rt, .int tg])), (sx, .inl (cX, 12, .inl (va_cpy f tx fr.toNatClampNeg 0 lj))), (sv, .inl (cV, 8, .inl (va_cpy vf va 0 0 8)))] H := hP
                have hD : va_D A [(h0, .inr (4, [.ref sx, .ref sv, .int (nI lj), .int 1, .int go, .int ((va_cpy f tx fr.toNatClampNeg 0 lj) 0), .int vr, .int fi, .int lf, .int sg, .int rt, .int tg])), (sx, .inl (cX, 12, .inl (va_cpy f tx fr.toNatClampNeg 0 lj))), (sv, .inl (cV, 8, .inl (va_cpy vf va 0 0 8)))] := hD
                refine lv_iconst (v := 1) hx hb d_Sm_take_120 (by decide) ?_
                have ek : kdT (va_cpy f tx fr.toNatClampNeg 0 lj) lj = (va_cpy f tx fr.toNatClampNeg 0 lj) 0 := by (simp only [kdT, c62, c74, if_true, if_false, not_true_eq_false, not_false_eq_true, ite_not] <;> try simp)
                have ea : atT ((va_cpy f tx fr.toNatClampNeg 0 lj) 0) = 1 := by (simp only [atT, c109, if_true, if_false, not_true_eq_false, not_false_eq_true, ite_not] <;> try simp)
                refine W.widen (k := 0) (n := 0) (by decide) (by decide) ?_
                exact W.zret (v := 1) hx hb hr (rfl) (fun t ht hW => ⟨⟨1, (lj, 1, (va_cpy f tx fr.toNatClampNeg 0 lj) 0, va_cpy f tx fr.toNatClampNeg 0 lj, va_cpy vf va 0 0 8), rfl, Or.inr ⟨rfl, hbad, lj, hlj1, hlj, rfl, by rw [ek, ea]⟩, cB.of (hP.sub [0, 1, 2] rfl) (hD.sub [0, 1, 2] (by decide) rfl) (hK.sub [0, 1] rfl) ht hW⟩, hS.F ht⟩) hS.2.2 d_Sm_take_121
              · skip
                refine lv_iconst (v := 0) hx hb d_Sm_take_112 (by decide) ?_
                refine lv_goto (tgt := 117) hx hb d_Sm_take_113 (by decide) ?_
                refine va_put (D := (dC, dI)) (ci := 4) (v := .int 0) (ty := .int) (C := R_Sm) (T := F_Sm) (N := 12) hx hb hts in_Sm t_Sm t_Sm_ok n_Sm hown hK hP hD hS 0 rfl rfl 3 (by decide) (hts _ w_112) (fun _ h9 => h9) rfl (by decide +kernel) (rfl) (rfl) (Nat.le_of_ble_eq_true rfl) d_Sm_take_117 (fun H locs hP hD hS => ?_)
                have hP : va_P (dC, dI) cls [(h0, .inr (4, [.ref sx, .ref sv, .int (nI lj), .int 0, .int go, .int ((va_cpy f tx fr.toNatClampNeg 0 lj) 0), .int vr, .int fi, .int lf, .int sg, .int rt, .int tg])), (sx, .inl (cX, 12, .inl (va_cpy f tx fr.toNatClampNeg 0 lj))), (sv, .inl (cV, 8, .inl (va_cpy vf va 0 0 8)))] H := hP
                have hD : va_D A [(h0, .inr (4, [.ref sx, .ref sv, .int (nI lj), .int 0, .int go, .int ((va_cpy f tx fr.toNatClampNeg 0 lj) 0), .int vr, .int fi, .int lf, .int sg, .int rt, .int tg])), (sx, .inl (cX, 12, .inl (va_cpy f tx fr.toNatClampNeg 0 lj))), (sv, .inl (cV, 8, .inl (va_cpy vf va 0 0 8)))] := hD
                refine lv_iconst (v := 1) hx hb d_Sm_take_120 (by decide) ?_
                have ek : kdT (va_cpy f tx fr.toNatClampNeg 0 lj) lj = (va_cpy f tx fr.toNatClampNeg 0 lj) 0 := by (simp only [kdT, c62, c74, if_true, if_false, not_true_eq_false, not_false_eq_true, ite_not] <;> try simp)
                have ea : atT ((va_cpy f tx fr.toNatClampNeg 0 lj) 0) = 0 := by (simp only [atT, c109, if_true, if_false, not_true_eq_false, not_false_eq_true, ite_not] <;> try simp)
                refine W.widen (k := 0) (n := 0) (by decide) (by decide) ?_
                exact W.zret (v := 1) hx hb hr (rfl) (fun t ht hW => ⟨⟨1, (lj, 0, (va_cpy f tx fr.toNatClampNeg 0 lj) 0, va_cpy f tx fr.toNatClampNeg 0 lj, va_cpy vf va 0 0 8), rfl, Or.inr ⟨rfl, hbad, lj, hlj1, hlj, rfl, by rw [ek, ea]⟩, cB.of (hP.sub [0, 1, 2] rfl) (hD.sub [0, 1, 2] (by decide) rfl) (hK.sub [0, 1] rfl) ht hW⟩, hS.F ht⟩) hS.2.2 d_Sm_take_121
            · skip
              refine lv_aload_n hx hb d_Sm_take_77 rfl (lv_at hl 0 rfl) ?_
              refine va_get (D := (dC, dI)) (ci := 4) (v := .ref sx) (C := R_Sm) (T := F_Sm) (N := 12) hx hb hts in_Sm hown hK hP 0 rfl rfl 0 (by decide) (hts _ w_109) (fun _ h9 => h9) rfl d_Sm_take_78 ?_
              refine lv_iconst (v := 1) hx hb d_Sm_take_81 (by decide) ?_
              refine va_iald hx hb hK hP 1 0 rfl rfl (vp_in_iff.mpr (by decide)) d_Sm_take_82 ?_
              refine tv (x2 := (va_cpy f tx fr.toNatClampNeg 0 lj) 1) (by exact rfl) ?_
              refine lv_bipush (v := 61) hx hb d_Sm_take_83 (by decide) ?_
              refine lv_icmp_ne (tgt := 93) hx hb d_Sm_take_85 (by decide) (fun c85 => ?_) (fun c85 => ?_)
              · skip
                refine lv_aload_n hx hb d_Sm_take_93 rfl (lv_at hl 0 rfl) ?_
                refine va_get (D := (dC, dI)) (ci := 4) (v := .ref sx) (C := R_Sm) (T := F_Sm) (N := 12) hx hb hts in_Sm hown hK hP 0 rfl rfl 0 (by decide) (hts _ w_109) (fun _ h9 => h9) rfl d_Sm_take_94 ?_
                refine lv_iconst (v := 0) hx hb d_Sm_take_97 (by decide) ?_
                refine va_iald hx hb hK hP 1 0 rfl rfl (vp_in_iff.mpr (by decide)) d_Sm_take_98 ?_
                refine tv (x2 := (va_cpy f tx fr.toNatClampNeg 0 lj) 0) (by exact rfl) ?_
                refine va_put (D := (dC, dI)) (ci := 4) (v := .int ((va_cpy f tx fr.toNatClampNeg 0 lj) 0)) (ty := .int) (C := R_Sm) (T := F_Sm) (N := 12) hx hb hts in_Sm t_Sm t_Sm_ok n_Sm hown hK hP hD hS 0 rfl rfl 5 (by decide) (hts _ w_114) (fun _ h9 => h9) rfl (by decide +kernel) (rfl) (rfl) (Nat.le_of_ble_eq_true rfl) d_Sm_take_99 (fun H locs hP hD hS => ?_)
                have hP : va_P (dC, dI) cls [(h0, .inr (4, [.ref sx, .ref sv, .int (nI lj), .int (nI at1), .int go, .int ((va_cpy f tx fr.toNatClampNeg 0 lj) 0), .int vr, .int fi, .int lf, .int sg, .int rt, .int tg])), (sx, .inl (cX, 12, .inl (va_cpy f tx fr.toNatClampNeg 0 lj))), (sv, .inl (cV, 8, .inl (va_cpy vf va 0 0 8)))] H := hP
                have hD : va_D A [(h0, .inr (4, [.ref sx, .ref sv, .int (nI lj), .int (nI at1), .int go, .int ((va_cpy f tx fr.toNatClampNeg 0 lj) 0), .int vr, .int fi, .int lf, .int sg, .int rt, .int tg])), (sx, .inl (cX, 12, .inl (va_cpy f tx fr.toNatClampNeg 0 lj))), (sv, .inl (cV, 8, .inl (va_cpy vf va 0 0 8)))] := hD
                refine lv_aload_n hx hb d_Sm_take_102 rfl (lv_at hl 0 rfl) ?_
                refine lv_aload_n hx hb d_Sm_take_103 rfl (lv_at hl 0 rfl) ?_
                refine va_get (D := (dC, dI)) (ci := 4) (v := .int ((va_cpy f tx fr.toNatClampNeg 0 lj) 0)) (C := R_Sm) (T := F_Sm) (N := 12) hx hb hts in_Sm hown hK hP 0 rfl rfl 5 (by decide) (hts _ w_114) (fun _ h9 => h9) rfl d_Sm_take_104 ?_
                refine lv_bipush (v := 61) hx hb d_Sm_take_107 (by decide) ?_
                refine lv_icmp_ne (tgt := 116) hx hb d_Sm_take_109 (by decide) (fun c109 => ?_) (fun c109 => ?_)
                · skip
                  refine lv_iconst (v := 1) hx hb d_Sm_take_116 (by decide) ?_
                  refine va_put (D := (dC, dI)) (ci := 4) (v := .int 1) (ty := .int) (C := R_Sm) (T := F_Sm) (N := 12) hx hb hts in_Sm t_Sm t_Sm_ok n_Sm hown hK hP hD hS 0 rfl rfl 3 (by decide) (hts _ w_112) (fun _ h9 => h9) rfl (by decide +kernel) (rfl) (rfl) (Nat.le_of_ble_eq_true rfl) d_Sm_take_117 (fun H locs hP hD hS => ?_)
                  have hP : va_P (dC, dI) cls [(h0, .inr (4, [.ref sx, .ref sv, .int (nI lj), .int 1, .int go, .int ((va_cpy f tx fr.toNatClampNeg 0 lj) 0), .int vr, .int fi, .int lf, .int sg, .int rt, .int tg])), (sx, .inl (cX, 12, .inl (va_cpy f tx fr.toNatClampNeg 0 lj))), (sv, .inl (cV, 8, .inl (va_cpy vf va 0 0 8)))] H := hP
                  have hD : va_D A [(h0, .inr (4, [.ref sx, .ref sv, .int (nI lj), .int 1, .int go, .int ((va_cpy f tx fr.toNatClampNeg 0 lj) 0), .int vr, .int fi, .int lf, .int sg, .int rt, .int tg])), (sx, .inl (cX, 12, .inl (va_cpy f tx fr.toNatClampNeg 0 lj))), (sv, .inl (cV, 8, .inl (va_cpy vf va 0 0 8)))] := hD
                  refine lv_iconst (v := 1) hx hb d_Sm_take_120 (by decide) ?_
                  have ek : kdT (va_cpy f tx fr.toNatClampNeg 0 lj) lj = (va_cpy f tx fr.toNatClampNeg 0 lj) 0 := by (simp only [kdT, c62, c74, c85, if_true, if_false, not_true_eq_false, not_false_eq_true, ite_not] <;> try simp)
                  have ea : atT ((va_cpy f tx fr.toNatClampNeg 0 lj) 0) = 1 := by (simp only [atT, c109, if_true, if_false, not_true_eq_false, not_false_eq_true, ite_not] <;> try simp)
                  refine W.widen (k := 0) (n := 0) (by decide) (by decide) ?_
                  exact W.zret (v := 1) hx hb hr (rfl) (fun t ht hW => ⟨⟨1, (lj, 1, (va_cpy f tx fr.toNatClampNeg 0 lj) 0, va_cpy f tx fr.toNatClampNeg 0 lj, va_cpy vf va 0 0 8), rfl, Or.inr ⟨rfl, hbad, lj, hlj1, hlj, rfl, by rw [ek, ea]⟩, cB.of (hP.sub [0, 1, 2] rfl) (hD.sub [0, 1, 2] (by decide) rfl) (hK.sub [0, 1] rfl) ht hW⟩, hS.F ht⟩) hS.2.2 d_Sm_take_121
                · skip
                  refine lv_iconst (v := 0) hx hb d_Sm_take_112 (by decide) ?_
                  refine lv_goto (tgt := 117) hx hb d_Sm_take_113 (by decide) ?_
                  refine va_put (D := (dC, dI)) (ci := 4) (v := .int 0) (ty := .int) (C := R_Sm) (T := F_Sm) (N := 12) hx hb hts in_Sm t_Sm t_Sm_ok n_Sm hown hK hP hD hS 0 rfl rfl 3 (by decide) (hts _ w_112) (fun _ h9 => h9) rfl (by decide +kernel) (rfl) (rfl) (Nat.le_of_ble_eq_true rfl) d_Sm_take_117 (fun H locs hP hD hS => ?_)
                  have hP : va_P (dC, dI) cls [(h0, .inr (4, [.ref sx, .ref sv, .int (nI lj), .int 0, .int go, .int ((va_cpy f tx fr.toNatClampNeg 0 lj) 0), .int vr, .int fi, .int lf, .int sg, .int rt, .int tg])), (sx, .inl (cX, 12, .inl (va_cpy f tx fr.toNatClampNeg 0 lj))), (sv, .inl (cV, 8, .inl (va_cpy vf va 0 0 8)))] H := hP
                  have hD : va_D A [(h0, .inr (4, [.ref sx, .ref sv, .int (nI lj), .int 0, .int go, .int ((va_cpy f tx fr.toNatClampNeg 0 lj) 0), .int vr, .int fi, .int lf, .int sg, .int rt, .int tg])), (sx, .inl (cX, 12, .inl (va_cpy f tx fr.toNatClampNeg 0 lj))), (sv, .inl (cV, 8, .inl (va_cpy vf va 0 0 8)))] := hD
                  refine lv_iconst (v := 1) hx hb d_Sm_take_120 (by decide) ?_
                  have ek : kdT (va_cpy f tx fr.toNatClampNeg 0 lj) lj = (va_cpy f tx fr.toNatClampNeg 0 lj) 0 := by (simp only [kdT, c62, c74, c85, if_true, if_false, not_true_eq_false, not_false_eq_true, ite_not] <;> try simp)
                  have ea : atT ((va_cpy f tx fr.toNatClampNeg 0 lj) 0) = 0 := by (simp only [atT, c109, if_true, if_false, not_true_eq_false, not_false_eq_true, ite_not] <;> try simp)
                  refine W.widen (k := 0) (n := 0) (by decide) (by decide) ?_
                  exact W.zret (v := 1) hx hb hr (rfl) (fun t ht hW => ⟨⟨1, (lj, 0, (va_cpy f tx fr.toNatClampNeg 0 lj) 0, va_cpy f tx fr.toNatClampNeg 0 lj, va_cpy vf va 0 0 8), rfl, Or.inr ⟨rfl, hbad, lj, hlj1, hlj, rfl, by rw [ek, ea]⟩, cB.of (hP.sub [0, 1, 2] rfl) (hD.sub [0, 1, 2] (by decide) rfl) (hK.sub [0, 1] rfl) ht hW⟩, hS.F ht⟩) hS.2.2 d_Sm_take_121
              · skip
                refine lv_bipush (v := 61) hx hb d_Sm_take_88 (by decide) ?_
                refine lv_goto (tgt := 99) hx hb d_Sm_take_90 (by decide) ?_
                refine va_put (D := (dC, dI)) (ci := 4) (v := .int 61) (ty := .int) (C := R_Sm) (T := F_Sm) (N := 12) hx hb hts in_Sm t_Sm t_Sm_ok n_Sm hown hK hP hD hS 0 rfl rfl 5 (by decide) (hts _ w_114) (fun _ h9 => h9) rfl (by decide +kernel) (rfl) (rfl) (Nat.le_of_ble_eq_true rfl) d_Sm_take_99 (fun H locs hP hD hS => ?_)
                have hP : va_P (dC, dI) cls [(h0, .inr (4, [.ref sx, .ref sv, .int (nI lj), .int (nI at1), .int go, .int 61, .int vr, .int fi, .int lf, .int sg, .int rt, .int tg])), (sx, .inl (cX, 12, .inl (va_cpy f tx fr.toNatClampNeg 0 lj))), (sv, .inl (cV, 8, .inl (va_cpy vf va 0 0 8)))] H := hP
                have hD : va_D A [(h0, .inr (4, [.ref sx, .ref sv, .int (nI lj), .int (nI at1), .int go, .int 61, .int vr, .int fi, .int lf, .int sg, .int rt, .int tg])), (sx, .inl (cX, 12, .inl (va_cpy f tx fr.toNatClampNeg 0 lj))), (sv, .inl (cV, 8, .inl (va_cpy vf va 0 0 8)))] := hD
                refine lv_aload_n hx hb d_Sm_take_102 rfl (lv_at hl 0 rfl) ?_
                refine lv_aload_n hx hb d_Sm_take_103 rfl (lv_at hl 0 rfl) ?_
                refine va_get (D := (dC, dI)) (ci := 4) (v := .int 61) (C := R_Sm) (T := F_Sm) (N := 12) hx hb hts in_Sm hown hK hP 0 rfl rfl 5 (by decide) (hts _ w_114) (fun _ h9 => h9) rfl d_Sm_take_104 ?_
                refine lv_bipush (v := 61) hx hb d_Sm_take_107 (by decide) ?_
                refine lv_icmp_ne (tgt := 116) hx hb d_Sm_take_109 (by decide) (fun h => absurd (by decide) h) (fun _ => ?_)
                refine lv_iconst (v := 0) hx hb d_Sm_take_112 (by decide) ?_
                refine lv_goto (tgt := 117) hx hb d_Sm_take_113 (by decide) ?_
                refine va_put (D := (dC, dI)) (ci := 4) (v := .int 0) (ty := .int) (C := R_Sm) (T := F_Sm) (N := 12) hx hb hts in_Sm t_Sm t_Sm_ok n_Sm hown hK hP hD hS 0 rfl rfl 3 (by decide) (hts _ w_112) (fun _ h9 => h9) rfl (by decide +kernel) (rfl) (rfl) (Nat.le_of_ble_eq_true rfl) d_Sm_take_117 (fun H locs hP hD hS => ?_)
                have hP : va_P (dC, dI) cls [(h0, .inr (4, [.ref sx, .ref sv, .int (nI lj), .int 0, .int go, .int 61, .int vr, .int fi, .int lf, .int sg, .int rt, .int tg])), (sx, .inl (cX, 12, .inl (va_cpy f tx fr.toNatClampNeg 0 lj))), (sv, .inl (cV, 8, .inl (va_cpy vf va 0 0 8)))] H := hP
                have hD : va_D A [(h0, .inr (4, [.ref sx, .ref sv, .int (nI lj), .int 0, .int go, .int 61, .int vr, .int fi, .int lf, .int sg, .int rt, .int tg])), (sx, .inl (cX, 12, .inl (va_cpy f tx fr.toNatClampNeg 0 lj))), (sv, .inl (cV, 8, .inl (va_cpy vf va 0 0 8)))] := hD
                refine lv_iconst (v := 1) hx hb d_Sm_take_120 (by decide) ?_
                have ek : kdT (va_cpy f tx fr.toNatClampNeg 0 lj) lj = 61 := by (simp only [kdT, c62, c74, c85, if_true, if_false, not_true_eq_false, not_false_eq_true, ite_not] <;> try simp)
                have ea : atT (61) = 0 := by (simp only [atT, if_true, if_false, not_true_eq_false, not_false_eq_true, ite_not] <;> try simp)
                refine W.widen (k := 0) (n := 0) (by decide) (by decide) ?_
                exact W.zret (v := 1) hx hb hr (rfl) (fun t ht hW => ⟨⟨1, (lj, 0, 61, va_cpy f tx fr.toNatClampNeg 0 lj, va_cpy vf va 0 0 8), rfl, Or.inr ⟨rfl, hbad, lj, hlj1, hlj, rfl, by rw [ek, ea]⟩, cB.of (hP.sub [0, 1, 2] rfl) (hD.sub [0, 1, 2] (by decide) rfl) (hK.sub [0, 1] rfl) ht hW⟩, hS.F ht⟩) hS.2.2 d_Sm_take_121
        · skip
          refine lv_iconst (v := 0) hx hb d_Sm_take_28 (by decide) ?_
          refine W.widen (k := 0) (n := 0) (by decide) (by decide) ?_
          exact W.zret (v := 0) hx hb hr (rfl) (fun t ht hW => ⟨⟨0, (en, at1, 0, tx, va), rfl, Or.inl ⟨rfl, Or.inr (Or.inr (Or.inr c25)), rfl⟩, cB.of (hP.sub [0, 1, 2] rfl) (hD.sub [0, 1, 2] (by decide) rfl) (hK.sub [0, 1] rfl) ht hW⟩, hS.F ht⟩) hS.2.2 d_Sm_take_29
