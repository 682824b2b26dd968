/-! values: the three methods that call each other, by the depth that is left -/
abbrev PR : Type := Int32 × Nat × Int32
def pcF (val : Option (Nat → Int32 → PR)) (tx va : Nat → Int32) (en : Nat) (a : Nat) (g : Int32) : PR :=
  if dgt (pk tx en a) = 0 then
    (if pk tx en a = 40 then
      (match val with
       | none => (0, a, 0)
       | some v => ((v (a + 1) g).1, expF tx en 41 (v (a + 1) g).2.1 (v (a + 1) g).2.2))
     else (va (variableF tx en a g).1.toNatClampNeg, (variableF tx en a g).2))
  else ((dgN tx en 5 a 0).1, (dgN tx en 5 a 0).2, g)
def prL (pc : Nat → Int32 → PR) (tx : Nat → Int32) (en : Nat) : Nat → PR → PR
  | 0, q => q
  | f + 1, q => if ¬ pk tx en q.2.1 = 42 then q else prL pc tx en f (q.1 * (pc (q.2.1 + 1) q.2.2).1, (pc (q.2.1 + 1) q.2.2).2)
def vlL (pr : Nat → Int32 → PR) (tx : Nat → Int32) (en : Nat) : Nat → PR → PR
  | 0, q => q
  | f + 1, q => if pk tx en q.2.1 = 43 then vlL pr tx en f (q.1 + (pr (q.2.1 + 1) q.2.2).1, (pr (q.2.1 + 1) q.2.2).2)
    else if ¬ pk tx en q.2.1 = 45 then q else vlL pr tx en f (q.1 - (pr (q.2.1 + 1) q.2.2).1, (pr (q.2.1 + 1) q.2.2).2)
def vlD (tx va : Nat → Int32) (en : Nat) : Nat → Nat → Int32 → PR
  | 0 => fun a g => vlL (fun a g => prL (pcF none tx va en) tx en 12 (pcF none tx va en a g)) tx en 12 (prL (pcF none tx va en) tx en 12 (pcF none tx va en a g))
  | d + 1 => fun a g => vlL (fun a g => prL (pcF (some (vlD tx va en d)) tx va en) tx en 12 (pcF (some (vlD tx va en d)) tx va en a g)) tx en 12 (prL (pcF (some (vlD tx va en d)) tx va en) tx en 12 (pcF (some (vlD tx va en d)) tx va en a g))
def pcD (tx va : Nat → Int32) (en : Nat) : Nat → Nat → Int32 → PR
  | 0 => pcF none tx va en
  | d + 1 => pcF (some (vlD tx va en d)) tx va en
def prD (tx va : Nat → Int32) (en d a : Nat) (g : Int32) : PR := prL (pcD tx va en d) tx en 12 (pcD tx va en d a g)
theorem vlD_eq (tx va : Nat → Int32) (en d a : Nat) (g : Int32) : vlD tx va en d a g = vlL (prD tx va en d) tx en 12 (prD tx va en d a g) := by
  cases d <;> rfl
theorem in7 {tx : Nat → Int32} {en a : Nat} {g : Int32} {r : Int32} {u : Nat × Int32} (h : (r, u) = variableF tx en a g) : vp_in r 8 := by
  unfold variableF at h
  split at h
  · rename_i hv
    cases h
    unfold vrb at hv
    split at hv
    · exact absurd rfl hv
    · rename_i h1
      split at hv
      · exact absurd rfl hv
      · rename_i h2
        have h0 : ¬ pk tx en a < 0 := fun h => h1 (Int32.lt_of_lt_of_le h (by decide))
        obtain ⟨j, hj, e⟩ := nI_of h0
        rw [e] at h1 h2 ⊢
        have g1 : ¬ j < 65 := fun h => h1 (nI_lt (b := 65) h (by decide))
        have g2 : ¬ 73 ≤ j := fun h => h2 (nI_le (a := 73) h hj)
        have e2 : nI j - 65 = nI (j - 65) := pk_sub (b := 65) (by omega)
        rw [e2]
        exact vp_in_nI (by omega) (by decide)
  · cases h
    exact vp_in_iff.mpr (by decide)
set_option maxHeartbeats 4000000 in
set_option maxRecDepth 100000 in
theorem g_Sm_piece0 (l : Launch) (dC : Nat → ClassId) (dI : Nat → Nat → Nat) (h0 sx sv : Nat) (cX cV : ClassId) (tx va : Nat → Int32) (en : Nat) (kd vr fi lf sg rt tg : Int32) (he : en ≤ 12) (at1 : Nat) (go : Int32) (ha : at1 ≤ en) (sz : Nat) : Met l y_Sm_piece (Cond.code y_Sm_piece b_Sm_piece 3 (some .int) :: gw) ({ frames := 2, cells := 0, slots := 0, locals := 43 }) (cP (dC, dI) [.ref h0, .int (nI (12 - 0))] sz [(h0, .inr (4, [.ref sx, .ref sv, .int (nI en), .int (nI at1), .int go, .int kd, .int vr, .int fi, .int lf, .int sg, .int rt, .int tg])), (sx, .inl (cX, 12, .inl tx)), (sv, .inl (cV, 8, .inl va))] [(cX, .int), (cV, .int)] xT) (va_Qi (fun (r : Int32) (u : Nat × Int32) => (r, u) = pcD tx va en 0 at1 go ∧ u.1 ≤ en) (fun (u : Nat × Int32) t => cB (dC, dI) (va_A [(h0, .inr (4, [.ref sx, .ref sv, .int (nI en), .int (nI at1), .int go, .int kd, .int vr, .int fi, .int lf, .int sg, .int rt, .int tg])), (sx, .inl (cX, 12, .inl tx)), (sv, .inl (cV, 8, .inl va))] sz) [(h0, .inr (4, [.ref sx, .ref sv, .int (nI en), .int (nI u.1), .int u.2, .int kd, .int vr, .int fi, .int lf, .int sg, .int rt, .int tg])), (sx, .inl (cX, 12, .inl tx)), (sv, .inl (cV, 8, .inl va))] [(cX, .int), (cV, .int)] t) (va_A [(h0, .inr (4, [.ref sx, .ref sv, .int (nI en), .int (nI at1), .int go, .int kd, .int vr, .int fi, .int lf, .int sg, .int rt, .int tg])), (sx, .inl (cX, 12, .inl tx)), (sv, .inl (cV, 8, .inl va))] sz)) 0 0 (va_A [(h0, .inr (4, [.ref sx, .ref sv, .int (nI en), .int (nI at1), .int go, .int kd, .int vr, .int fi, .int lf, .int sg, .int rt, .int tg])), (sx, .inl (cX, 12, .inl tx)), (sv, .inl (cV, 8, .inl va))] sz) := by
  refine Met.ofW (cc := b_Sm_piece) (maxL := 3) (ret := (some .int)) (by decide) rfl ?_
  intro p e s m args below meth c s₁ B hml hv
  obtain ⟨rfl, hsz, hP, hK, hD0, hkw, hX⟩ := hv
  have hx := B.exec
  have hb := B.bytes
  have hr := B.returns
  have hts := fun w hw => atoms_spec (ws := Cond.code y_Sm_piece b_Sm_piece 3 (some .int) :: gw) B.pre w (List.mem_cons_of_mem _ hw)
  have hown : s.vm.findClass "LineDisk$Statement" = some m.cls := findClass_of_methodNamed B.named
  have hlocks := B.notSynchronized
  have hin := (name_of_methodNamed B.named B.method).1
  subst hsz
  have hD := hD0.self (sz := s.heap.size)
  generalize hAe : va_A [(h0, .inr (4, [.ref sx, .ref sv, .int (nI en), .int (nI at1), .int go, .int kd, .int vr, .int fi, .int lf, .int sg, .int rt, .int tg])), (sx, .inl (cX, 12, .inl tx)), (sv, .inl (cV, 8, .inl va))] s.heap.size = A at hD ⊢
  have hA : ∀ q : Nat, s.heap.size ≤ q → A q := fun q h => by rw [← hAe]; exact Or.inr h
  have hS : va_S A s.heap s.heap [] := va_S.rf
  have hl := lv_entry ([.ref h0, .int (nI (12 - 0))]) (n := 3) (Nat.le_of_ble_eq_true rfl)
  rw [lg_entry_eq]
  generalize (lg_sl ([.ref h0, .int (nI (12 - 0))]) ++ List.replicate (3 - (lg_sl ([.ref h0, .int (nI (12 - 0))])).length) Slot.unset).toArray = ls at hl ⊢
  have hl : lv_has ls 3 [(0, .ref h0), (1, .int (nI (12 - 0)))] := hl
  have F : CallFix p m c b_Sm_piece 3 s ([.ref h0, .int (nI (12 - 0))]).toArray gw "LineDisk$Statement" := ⟨hx, hb, hml, hown, hts⟩
  have hRf : 2 ≤ (headSpec (Cond.code y_Sm_piece b_Sm_piece 3 (some .int) :: gw) { frames := 2, cells := 0, slots := 0, locals := 43 }).room.frames := Nat.le_refl _
  have hRl : 43 ≤ (headSpec (Cond.code y_Sm_piece b_Sm_piece 3 (some .int) :: gw) { frames := 2, cells := 0, slots := 0, locals := 43 }).room.locals := Nat.le_refl _
  have epc : pcD tx va en 0 at1 go = pcF none tx va en at1 go := rfl
  refine lv_aload_n hx hb d_Sm_piece_0 rfl (lv_at hl 0 rfl) ?_
  refine go_i (wr := []) (tr := []) (rV (C := "LineDisk$Statement") (ci := 4) (q0 := 0) (b := h0) (n := 0) (As := []) (rest := []) F hkw (g_Sm_peek l dC dI h0 sx sv cX cV tx va en at1 go kd vr fi lf sg rt tg he (by omega) s.heap.size) xT_bl (fun _ _ _ => trivial) w_268 w_270 ws_6 w_5 w_271 rfl rfl (by decide +kernel) ⟨Nat.le_trans (by show (0) + 1 ≤ 2; omega) hRf, Nat.le_trans (by show 8 + (1 + 11) + (0) ≤ 43; omega) hRl⟩ (hP.sub (ws' := [(h0, .inr (4, [.ref sx, .ref sv, .int (nI en), .int (nI at1), .int go, .int kd, .int vr, .int fi, .int lf, .int sg, .int rt, .int tg])), (sx, .inl (cX, 12, .inl tx)), (sv, .inl (cV, 8, .inl va))]) [0, 1, 2] rfl) (hD.sub (ws' := [(h0, .inr (4, [.ref sx, .ref sv, .int (nI en), .int (nI at1), .int go, .int kd, .int vr, .int fi, .int lf, .int sg, .int rt, .int tg])), (sx, .inl (cX, 12, .inl tx)), (sv, .inl (cV, 8, .inl va))]) [0, 1, 2] (by decide) rfl) (hK.sub (tys' := [(cX, .int), (cV, .int)]) [0, 1] rfl) rfl rfl rfl rfl hl.1 rfl (Nat.le_of_ble_eq_true rfl) d_Sm_piece_1 ⟨Nat.le_refl _, Nat.le_refl _⟩) hP hD hK hS hA [0, 1, 2] [] [] rfl rfl (by decide) (by decide) rfl (fun r u H locs hw hP hD hK hS => ?_)
  have hP : va_P (dC, dI) cls [(h0, .inr (4, [.ref sx, .ref sv, .int (nI en), .int (nI at1), .int go, .int kd, .int vr, .int fi, .int lf, .int sg, .int rt, .int tg])), (sx, .inl (cX, 12, .inl tx)), (sv, .inl (cV, 8, .inl va))] H := hP
  have hD : va_D A [(h0, .inr (4, [.ref sx, .ref sv, .int (nI en), .int (nI at1), .int go, .int kd, .int vr, .int fi, .int lf, .int sg, .int rt, .int tg])), (sx, .inl (cX, 12, .inl tx)), (sv, .inl (cV, 8, .inl va))] := hD
  have hK : va_K (dC, dI) cls [(cX, .int), (cV, .int)] s := hK
  refine W.widen (k := 0) (n := 0) (by omega) (by omega) ?_
  subst hw
  refine go_i (wr := [(h0, .inr (4, [.ref sx, .ref sv, .int (nI en), .int (nI at1), .int go, .int kd, .int vr, .int fi, .int lf, .int sg, .int rt, .int tg])), (sx, .inl (cX, 12, .inl tx)), (sv, .inl (cV, 8, .inl va))]) (tr := [(cX, .int), (cV, .int)]) (rSN (host := "LineDisk") (n := 1) (As := [.int (pk tx en at1)]) (rest := []) F hkw (g_Ld_isDigit l dC dI (pk tx en at1) H.size) xT_bl (fun _ _ _ => trivial) (hkw.at v_288 rfl) w_229 w_1 w_230 rfl rfl (by decide +kernel) ⟨Nat.le_trans (by show (0) + 1 ≤ 2; omega) hRf, Nat.le_trans (by show 8 + (1 + 11) + (0) ≤ 43; omega) hRl⟩ (hP.sub (ws' := []) [] rfl) (hD.sub (ws' := []) [] (by decide) rfl) (hK.sub (tys' := []) [] rfl) rfl hl.1 rfl (Nat.le_of_ble_eq_true rfl) d_Sm_piece_4 ⟨Nat.le_refl _, Nat.le_refl _⟩) hP hD hK hS hA [] [0, 1, 2] [0, 1] rfl rfl (by decide) (by decide) rfl (fun r u H locs hw hP hD hK hS => ?_)
  have hP : va_P (dC, dI) cls [(h0, .inr (4, [.ref sx, .ref sv, .int (nI en), .int (nI at1), .int go, .int kd, .int vr, .int fi, .int lf, .int sg, .int rt, .int tg])), (sx, .inl (cX, 12, .inl tx)), (sv, .inl (cV, 8, .inl va))] H := hP
  have hD : va_D A [(h0, .inr (4, [.ref sx, .ref sv, .int (nI en), .int (nI at1), .int go, .int kd, .int vr, .int fi, .int lf, .int sg, .int rt, .int tg])), (sx, .inl (cX, 12, .inl tx)), (sv, .inl (cV, 8, .inl va))] := hD
  have hK : va_K (dC, dI) cls [(cX, .int), (cV, .int)] s := hK
  refine W.widen (k := 0) (n := 0) (by omega) (by omega) ?_
  subst hw
  refine lv_if_eq (tgt := 16) hx hb d_Sm_piece_7 (by decide) (fun c7 => ?_) (fun c7 => ?_)
  · skip
    refine lv_aload_n hx hb d_Sm_piece_16 rfl (lv_at hl 0 rfl) ?_
    refine go_i (wr := []) (tr := []) (rV (C := "LineDisk$Statement") (ci := 4) (q0 := 0) (b := h0) (n := 0) (As := []) (rest := []) F hkw (g_Sm_peek l dC dI h0 sx sv cX cV tx va en at1 go kd vr fi lf sg rt tg he (by omega) H.size) xT_bl (fun _ _ _ => trivial) w_268 w_270 ws_6 w_5 w_271 rfl rfl (by decide +kernel) ⟨Nat.le_trans (by show (0) + 1 ≤ 2; omega) hRf, Nat.le_trans (by show 8 + (1 + 11) + (0) ≤ 43; omega) hRl⟩ (hP.sub (ws' := [(h0, .inr (4, [.ref sx, .ref sv, .int (nI en), .int (nI at1), .int go, .int kd, .int vr, .int fi, .int lf, .int sg, .int rt, .int tg])), (sx, .inl (cX, 12, .inl tx)), (sv, .inl (cV, 8, .inl va))]) [0, 1, 2] rfl) (hD.sub (ws' := [(h0, .inr (4, [.ref sx, .ref sv, .int (nI en), .int (nI at1), .int go, .int kd, .int vr, .int fi, .int lf, .int sg, .int rt, .int tg])), (sx, .inl (cX, 12, .inl tx)), (sv, .inl (cV, 8, .inl va))]) [0, 1, 2] (by decide) rfl) (hK.sub (tys' := [(cX, .int), (cV, .int)]) [0, 1] rfl) rfl rfl rfl rfl hl.1 rfl (Nat.le_of_ble_eq_true rfl) d_Sm_piece_17 ⟨Nat.le_refl _, Nat.le_refl _⟩) hP hD hK hS hA [0, 1, 2] [] [] rfl rfl (by decide) (by decide) rfl (fun r u H locs hw hP hD hK hS => ?_)
    have hP : va_P (dC, dI) cls [(h0, .inr (4, [.ref sx, .ref sv, .int (nI en), .int (nI at1), .int go, .int kd, .int vr, .int fi, .int lf, .int sg, .int rt, .int tg])), (sx, .inl (cX, 12, .inl tx)), (sv, .inl (cV, 8, .inl va))] H := hP
    have hD : va_D A [(h0, .inr (4, [.ref sx, .ref sv, .int (nI en), .int (nI at1), .int go, .int kd, .int vr, .int fi, .int lf, .int sg, .int rt, .int tg])), (sx, .inl (cX, 12, .inl tx)), (sv, .inl (cV, 8, .inl va))] := hD
    have hK : va_K (dC, dI) cls [(cX, .int), (cV, .int)] s := hK
    refine W.widen (k := 0) (n := 0) (by omega) (by omega) ?_
    subst hw
    refine lv_bipush (v := 40) hx hb d_Sm_piece_20 (by decide) ?_
    refine lv_icmp_eq (tgt := 35) hx hb d_Sm_piece_22 (by decide) (fun c22 => ?_) (fun c22 => ?_)
    · skip
      refine lv_iload_n hx hb d_Sm_piece_35 rfl (lv_at hl 1 rfl) ?_
      refine lv_bipush (v := 12) hx hb d_Sm_piece_36 (by decide) ?_
      refine lv_icmp_lt (tgt := 48) hx hb d_Sm_piece_38 (by decide) (fun h => absurd h (by decide)) (fun _ => ?_)
      refine lv_aload_n hx hb d_Sm_piece_41 rfl (lv_at hl 0 rfl) ?_
      refine lv_iconst (v := 0) hx hb d_Sm_piece_42 (by decide) ?_
      refine va_put (D := (dC, dI)) (ci := 4) (v := .int 0) (ty := .boolean) (C := R_Sm) (T := F_Sm) (N := 12) hx hb hts in_Sm t_Sm t_Sm_ok n_Sm hown hK hP hD hS 0 rfl rfl 4 (by decide) (hts _ w_113) (fun _ h9 => h9) rfl (by decide +kernel) (rfl) (rfl) (Nat.le_of_ble_eq_true rfl) d_Sm_piece_43 (fun H locs hP hD hS => ?_)
      have hP : va_P (dC, dI) cls [(h0, .inr (4, [.ref sx, .ref sv, .int (nI en), .int (nI at1), .int 0, .int kd, .int vr, .int fi, .int lf, .int sg, .int rt, .int tg])), (sx, .inl (cX, 12, .inl tx)), (sv, .inl (cV, 8, .inl va))] H := hP
      have hD : va_D A [(h0, .inr (4, [.ref sx, .ref sv, .int (nI en), .int (nI at1), .int 0, .int kd, .int vr, .int fi, .int lf, .int sg, .int rt, .int tg])), (sx, .inl (cX, 12, .inl tx)), (sv, .inl (cV, 8, .inl va))] := hD
      refine lv_iconst (v := 0) hx hb d_Sm_piece_46 (by decide) ?_
      refine W.widen (k := 0) (n := 0) (Nat.le_refl _) (Nat.le_refl _) ?_
      exact W.iret (v := 0) hx hb hr (fun t ht hW => ⟨⟨0, (at1, 0), rfl, ⟨by rw [epc]; unfold pcF; rw [if_pos c7, if_pos c22], ha⟩, cB.of (hP.sub [0, 1, 2] rfl) (hD.sub [0, 1, 2] (by decide) rfl) (hK.sub [0, 1] rfl) ht hW⟩, hS.F ht⟩) hS.2.2 d_Sm_piece_47
    · skip
      refine lv_aload_n hx hb d_Sm_piece_25 rfl (lv_at hl 0 rfl) ?_
      refine va_get (D := (dC, dI)) (ci := 4) (v := .ref sv) (C := R_Sm) (T := F_Sm) (N := 12) hx hb hts in_Sm hown hK hP 0 rfl rfl 1 (by decide) (hts _ w_110) (fun _ h9 => h9) rfl d_Sm_piece_26 ?_
      refine lv_aload_n hx hb d_Sm_piece_29 rfl (lv_at hl 0 rfl) ?_
      refine go_i (wr := []) (tr := []) (rV (C := "LineDisk$Statement") (ci := 4) (q0 := 0) (b := h0) (n := 0) (As := []) (rest := [.ref sv]) F hkw (g_Sm_variable l dC dI h0 sx sv cX cV tx va en at1 go kd vr fi lf sg rt tg he ha H.size) xT_bl (fun _ _ _ => trivial) w_264 w_266 ws_5 w_5 w_267 rfl rfl (by decide +kernel) ⟨Nat.le_trans (by show (1) + 1 ≤ 2; omega) hRf, Nat.le_trans (by show 8 + (2 + 11) + (20) ≤ 43; omega) hRl⟩ (hP.sub (ws' := [(h0, .inr (4, [.ref sx, .ref sv, .int (nI en), .int (nI at1), .int go, .int kd, .int vr, .int fi, .int lf, .int sg, .int rt, .int tg])), (sx, .inl (cX, 12, .inl tx)), (sv, .inl (cV, 8, .inl va))]) [0, 1, 2] rfl) (hD.sub (ws' := [(h0, .inr (4, [.ref sx, .ref sv, .int (nI en), .int (nI at1), .int go, .int kd, .int vr, .int fi, .int lf, .int sg, .int rt, .int tg])), (sx, .inl (cX, 12, .inl tx)), (sv, .inl (cV, 8, .inl va))]) [0, 1, 2] (by decide) rfl) (hK.sub (tys' := [(cX, .int), (cV, .int)]) [0, 1] rfl) rfl rfl rfl rfl hl.1 rfl (Nat.le_of_ble_eq_true rfl) d_Sm_piece_30 ⟨Nat.le_refl _, Nat.le_refl _⟩) hP hD hK hS hA [0, 1, 2] [] [] rfl rfl (by decide) (by decide) rfl (fun r u9 H locs hvr hP hD hK hS => ?_)
      have hP : va_P (dC, dI) cls [(h0, .inr (4, [.ref sx, .ref sv, .int (nI en), .int (nI u9.1), .int u9.2, .int kd, .int vr, .int fi, .int lf, .int sg, .int rt, .int tg])), (sx, .inl (cX, 12, .inl tx)), (sv, .inl (cV, 8, .inl va))] H := hP
      have hD : va_D A [(h0, .inr (4, [.ref sx, .ref sv, .int (nI en), .int (nI u9.1), .int u9.2, .int kd, .int vr, .int fi, .int lf, .int sg, .int rt, .int tg])), (sx, .inl (cX, 12, .inl tx)), (sv, .inl (cV, 8, .inl va))] := hD
      have hK : va_K (dC, dI) cls [(cX, .int), (cV, .int)] s := hK
      refine W.widen (k := 0) (n := 0) (by omega) (by omega) ?_
      refine va_iald hx hb hK hP 2 1 rfl rfl (in7 hvr.1) d_Sm_piece_33 ?_
      refine W.widen (k := 0) (n := 0) (Nat.le_refl _) (Nat.le_refl _) ?_
      exact W.iret (v := va r.toNatClampNeg) hx hb hr (fun t ht hW => ⟨⟨va r.toNatClampNeg, u9, rfl, ⟨by rw [epc]; unfold pcF; rw [if_pos c7, if_neg c22, ← hvr.1], hvr.2⟩, cB.of (hP.sub [0, 1, 2] rfl) (hD.sub [0, 1, 2] (by decide) rfl) (hK.sub [0, 1] rfl) ht hW⟩, hS.F ht⟩) hS.2.2 d_Sm_piece_34
  · skip
    refine lv_aload_n hx hb d_Sm_piece_10 rfl (lv_at hl 0 rfl) ?_
    refine lv_iconst (v := 5) hx hb d_Sm_piece_11 (by decide) ?_
    refine go_i (wr := []) (tr := []) (rV (C := "LineDisk$Statement") (ci := 4) (q0 := 0) (b := h0) (n := 1) (As := [.int 5]) (rest := []) F hkw (g_Sm_digits l dC dI h0 sx sv cX cV tx va en at1 go kd vr fi lf sg rt tg he ha 5 (by decide) H.size) xT_bl (fun _ _ _ => trivial) w_289 w_291 ws_11 w_5 w_292 rfl rfl (by decide +kernel) ⟨Nat.le_trans (by show (1) + 1 ≤ 2; omega) hRf, Nat.le_trans (by show 8 + (4 + 11) + (20) ≤ 43; omega) hRl⟩ (hP.sub (ws' := [(h0, .inr (4, [.ref sx, .ref sv, .int (nI en), .int (nI at1), .int go, .int kd, .int vr, .int fi, .int lf, .int sg, .int rt, .int tg])), (sx, .inl (cX, 12, .inl tx)), (sv, .inl (cV, 8, .inl va))]) [0, 1, 2] rfl) (hD.sub (ws' := [(h0, .inr (4, [.ref sx, .ref sv, .int (nI en), .int (nI at1), .int go, .int kd, .int vr, .int fi, .int lf, .int sg, .int rt, .int tg])), (sx, .inl (cX, 12, .inl tx)), (sv, .inl (cV, 8, .inl va))]) [0, 1, 2] (by decide) rfl) (hK.sub (tys' := [(cX, .int), (cV, .int)]) [0, 1] rfl) rfl rfl rfl rfl hl.1 rfl (Nat.le_of_ble_eq_true rfl) d_Sm_piece_12 ⟨Nat.le_refl _, Nat.le_refl _⟩) hP hD hK hS hA [0, 1, 2] [] [] rfl rfl (by decide) (by decide) rfl (fun r u9 H locs hdg hP hD hK hS => ?_)
    have hP : va_P (dC, dI) cls [(h0, .inr (4, [.ref sx, .ref sv, .int (nI en), .int (nI u9), .int go, .int kd, .int vr, .int fi, .int lf, .int sg, .int rt, .int tg])), (sx, .inl (cX, 12, .inl tx)), (sv, .inl (cV, 8, .inl va))] H := hP
    have hD : va_D A [(h0, .inr (4, [.ref sx, .ref sv, .int (nI en), .int (nI u9), .int go, .int kd, .int vr, .int fi, .int lf, .int sg, .int rt, .int tg])), (sx, .inl (cX, 12, .inl tx)), (sv, .inl (cV, 8, .inl va))] := hD
    have hK : va_K (dC, dI) cls [(cX, .int), (cV, .int)] s := hK
    refine W.widen (k := 0) (n := 0) (by omega) (by omega) ?_
    refine W.widen (k := 0) (n := 0) (Nat.le_refl _) (Nat.le_refl _) ?_
    exact W.iret (v := r) hx hb hr (fun t ht hW => ⟨⟨r, (u9, go), rfl, ⟨by rw [epc]; unfold pcF; rw [if_neg c7, ← hdg.1], hdg.2⟩, cB.of (hP.sub [0, 1, 2] rfl) (hD.sub [0, 1, 2] (by decide) rfl) (hK.sub [0, 1] rfl) ht hW⟩, hS.F ht⟩) hS.2.2 d_Sm_piece_15
set_option maxHeartbeats 4000000 in
set_option maxRecDepth 100000 in
theorem g_Sm_pieceS (l : Launch) (dC : Nat → ClassId) (dI : Nat → Nat → Nat) (h0 sx sv : Nat) (cX cV : ClassId) (tx va : Nat → Int32) (en : Nat) (kd vr fi lf sg rt tg : Int32) (he : en ≤ 12) (d : Nat) (hd : d + 1 ≤ 12) (hvl : ∀ (at1 : Nat) (go : Int32) (sz : Nat), at1 ≤ en → Met l y_Sm_value (Cond.code y_Sm_value b_Sm_value 6 (some .int) :: gw) ({ frames := 2 + 3 * d + 2, cells := 0, slots := 0, locals := 43 + 70 * d + 45 }) (cP (dC, dI) [.ref h0, .int (nI (12 - d))] sz [(h0, .inr (4, [.ref sx, .ref sv, .int (nI en), .int (nI at1), .int go, .int kd, .int vr, .int fi, .int lf, .int sg, .int rt, .int tg])), (sx, .inl (cX, 12, .inl tx)), (sv, .inl (cV, 8, .inl va))] [(cX, .int), (cV, .int)] xT) (va_Qi (fun (r : Int32) (u : Nat × Int32) => (r, u) = vlD tx va en d at1 go ∧ u.1 ≤ en) (fun (u : Nat × Int32) t => cB (dC, dI) (va_A [(h0, .inr (4, [.ref sx, .ref sv, .int (nI en), .int (nI at1), .int go, .int kd, .int vr, .int fi, .int lf, .int sg, .int rt, .int tg])), (sx, .inl (cX, 12, .inl tx)), (sv, .inl (cV, 8, .inl va))] sz) [(h0, .inr (4, [.ref sx, .ref sv, .int (nI en), .int (nI u.1), .int u.2, .int kd, .int vr, .int fi, .int lf, .int sg, .int rt, .int tg])), (sx, .inl (cX, 12, .inl tx)), (sv, .inl (cV, 8, .inl va))] [(cX, .int), (cV, .int)] t) (va_A [(h0, .inr (4, [.ref sx, .ref sv, .int (nI en), .int (nI at1), .int go, .int kd, .int vr, .int fi, .int lf, .int sg, .int rt, .int tg])), (sx, .inl (cX, 12, .inl tx)), (sv, .inl (cV, 8, .inl va))] sz)) 0 0 (va_A [(h0, .inr (4, [.ref sx, .ref sv, .int (nI en), .int (nI at1), .int go, .int kd, .int vr, .int fi, .int lf, .int sg, .int rt, .int tg])), (sx, .inl (cX, 12, .inl tx)), (sv, .inl (cV, 8, .inl va))] sz)) (at1 : Nat) (go : Int32) (ha : at1 ≤ en) (sz : Nat) : Met l y_Sm_piece (Cond.code y_Sm_piece b_Sm_piece 3 (some .int) :: gw) ({ frames := 2 + 3 * (d + 1), cells := 0, slots := 0, locals := 43 + 70 * (d + 1) }) (cP (dC, dI) [.ref h0, .int (nI (12 - (d + 1)))] sz [(h0, .inr (4, [.ref sx, .ref sv, .int (nI en), .int (nI at1), .int go, .int kd, .int vr, .int fi, .int lf, .int sg, .int rt, .int tg])), (sx, .inl (cX, 12, .inl tx)), (sv, .inl (cV, 8, .inl va))] [(cX, .int), (cV, .int)] xT) (va_Qi (fun (r : Int32) (u : Nat × Int32) => (r, u) = pcD tx va en (d + 1) at1 go ∧ u.1 ≤ en) (fun (u : Nat × Int32) t => cB (dC, dI) (va_A [(h0, .inr (4, [.ref sx, .ref sv, .int (nI en), .int (nI at1), .int go, .int kd, .int vr, .int fi, .int lf, .int sg, .int rt, .int tg])), (sx, .inl (cX, 12, .inl tx)), (sv, .inl (cV, 8, .inl va))] sz) [(h0, .inr (4, [.ref sx, .ref sv, .int (nI en), .int (nI u.1), .int u.2, .int kd, .int vr, .int fi, .int lf, .int sg, .int rt, .int tg])), (sx, .inl (cX, 12, .inl tx)), (sv, .inl (cV, 8, .inl va))] [(cX, .int), (cV, .int)] t) (va_A [(h0, .inr (4, [.ref sx, .ref sv, .int (nI en), .int (nI at1), .int go, .int kd, .int vr, .int fi, .int lf, .int sg, .int rt, .int tg])), (sx, .inl (cX, 12, .inl tx)), (sv, .inl (cV, 8, .inl va))] sz)) 0 0 (va_A [(h0, .inr (4, [.ref sx, .ref sv, .int (nI en), .int (nI at1), .int go, .int kd, .int vr, .int fi, .int lf, .int sg, .int rt, .int tg])), (sx, .inl (cX, 12, .inl tx)), (sv, .inl (cV, 8, .inl va))] sz) := by
  refine Met.ofW (cc := b_Sm_piece) (maxL := 3) (ret := (some .int)) (by decide) rfl ?_
  intro p e s m args below meth c s₁ B hml hv
  obtain ⟨rfl, hsz, hP, hK, hD0, hkw, hX⟩ := hv
  have hx := B.exec
  have hb := B.bytes
  have hr := B.returns
  have hts := fun w hw => atoms_spec (ws := Cond.code y_Sm_piece b_Sm_piece 3 (some .int) :: gw) B.pre w (List.mem_cons_of_mem _ hw)
  have hown : s.vm.findClass "LineDisk$Statement" = some m.cls := findClass_of_methodNamed B.named
  have hlocks := B.notSynchronized
  have hin := (name_of_methodNamed B.named B.method).1
  subst hsz
  have hD := hD0.self (sz := s.heap.size)
  generalize hAe : va_A [(h0, .inr (4, [.ref sx, .ref sv, .int (nI en), .int (nI at1), .int go, .int kd, .int vr, .int fi, .int lf, .int sg, .int rt, .int tg])), (sx, .inl (cX, 12, .inl tx)), (sv, .inl (cV, 8, .inl va))] s.heap.size = A at hD ⊢
  have hA : ∀ q : Nat, s.heap.size ≤ q → A q := fun q h => by rw [← hAe]; exact Or.inr h
  have hS : va_S A s.heap s.heap [] := va_S.rf
  have hl := lv_entry ([.ref h0, .int (nI (12 - (d + 1)))]) (n := 3) (Nat.le_of_ble_eq_true rfl)
  rw [lg_entry_eq]
  generalize (lg_sl ([.ref h0, .int (nI (12 - (d + 1)))]) ++ List.replicate (3 - (lg_sl ([.ref h0, .int (nI (12 - (d + 1)))])).length) Slot.unset).toArray = ls at hl ⊢
  have hl : lv_has ls 3 [(0, .ref h0), (1, .int (nI (12 - (d + 1))))] := hl
  have F : CallFix p m c b_Sm_piece 3 s ([.ref h0, .int (nI (12 - (d + 1)))]).toArray gw "LineDisk$Statement" := ⟨hx, hb, hml, hown, hts⟩
  have hRf : 2 + 3 * (d + 1) ≤ (headSpec (Cond.code y_Sm_piece b_Sm_piece 3 (some .int) :: gw) { frames := 2 + 3 * (d + 1), cells := 0, slots := 0, locals := 43 + 70 * (d + 1) }).room.frames := Nat.le_refl _
  have hRl : 43 + 70 * (d + 1) ≤ (headSpec (Cond.code y_Sm_piece b_Sm_piece 3 (some .int) :: gw) { frames := 2 + 3 * (d + 1), cells := 0, slots := 0, locals := 43 + 70 * (d + 1) }).room.locals := Nat.le_refl _
  have epc : pcD tx va en (d + 1) at1 go = pcF (some (vlD tx va en d)) tx va en at1 go := rfl
  refine lv_aload_n hx hb d_Sm_piece_0 rfl (lv_at hl 0 rfl) ?_
  refine go_i (wr := []) (tr := []) (rV (C := "LineDisk$Statement") (ci := 4) (q0 := 0) (b := h0) (n := 0) (As := []) (rest := []) F hkw (g_Sm_peek l dC dI h0 sx sv cX cV tx va en at1 go kd vr fi lf sg rt tg he (by omega) s.heap.size) xT_bl (fun _ _ _ => trivial) w_268 w_270 ws_6 w_5 w_271 rfl rfl (by decide +kernel) ⟨Nat.le_trans (by show (0) + 1 ≤ 2 + 3 * (d + 1); omega) hRf, Nat.le_trans (by show 8 + (1 + 11) + (0) ≤ 43 + 70 * (d + 1); omega) hRl⟩ (hP.sub (ws' := [(h0, .inr (4, [.ref sx, .ref sv, .int (nI en), .int (nI at1), .int go, .int kd, .int vr, .int fi, .int lf, .int sg, .int rt, .int tg])), (sx, .inl (cX, 12, .inl tx)), (sv, .inl (cV, 8, .inl va))]) [0, 1, 2] rfl) (hD.sub (ws' := [(h0, .inr (4, [.ref sx, .ref sv, .int (nI en), .int (nI at1), .int go, .int kd, .int vr, .int fi, .int lf, .int sg, .int rt, .int tg])), (sx, .inl (cX, 12, .inl tx)), (sv, .inl (cV, 8, .inl va))]) [0, 1, 2] (by decide) rfl) (hK.sub (tys' := [(cX, .int), (cV, .int)]) [0, 1] rfl) rfl rfl rfl rfl hl.1 rfl (Nat.le_of_ble_eq_true rfl) d_Sm_piece_1 ⟨Nat.le_refl _, Nat.le_refl _⟩) hP hD hK hS hA [0, 1, 2] [] [] rfl rfl (by decide) (by decide) rfl (fun r u H locs hw hP hD hK hS => ?_)
  have hP : va_P (dC, dI) cls [(h0, .inr (4, [.ref sx, .ref sv, .int (nI en), .int (nI at1), .int go, .int kd, .int vr, .int fi, .int lf, .int sg, .int rt, .int tg])), (sx, .inl (cX, 12, .inl tx)), (sv, .inl (cV, 8, .inl va))] H := hP
  have hD : va_D A [(h0, .inr (4, [.ref sx, .ref sv, .int (nI en), .int (nI at1), .int go, .int kd, .int vr, .int fi, .int lf, .int sg, .int rt, .int tg])), (sx, .inl (cX, 12, .inl tx)), (sv, .inl (cV, 8, .inl va))] := hD
  have hK : va_K (dC, dI) cls [(cX, .int), (cV, .int)] s := hK
  refine W.widen (k := 0) (n := 0) (by omega) (by omega) ?_
  subst hw
  refine go_i (wr := [(h0, .inr (4, [.ref sx, .ref sv, .int (nI en), .int (nI at1), .int go, .int kd, .int vr, .int fi, .int lf, .int sg, .int rt, .int tg])), (sx, .inl (cX, 12, .inl tx)), (sv, .inl (cV, 8, .inl va))]) (tr := [(cX, .int), (cV, .int)]) (rSN (host := "LineDisk") (n := 1) (As := [.int (pk tx en at1)]) (rest := []) F hkw (g_Ld_isDigit l dC dI (pk tx en at1) H.size) xT_bl (fun _ _ _ => trivial) (hkw.at v_288 rfl) w_229 w_1 w_230 rfl rfl (by decide +kernel) ⟨Nat.le_trans (by show (0) + 1 ≤ 2 + 3 * (d + 1); omega) hRf, Nat.le_trans (by show 8 + (1 + 11) + (0) ≤ 43 + 70 * (d + 1); omega) hRl⟩ (hP.sub (ws' := []) [] rfl) (hD.sub (ws' := []) [] (by decide) rfl) (hK.sub (tys' := []) [] rfl) rfl hl.1 rfl (Nat.le_of_ble_eq_true rfl) d_Sm_piece_4 ⟨Nat.le_refl _, Nat.le_refl _⟩) hP hD hK hS hA [] [0, 1, 2] [0, 1] rfl rfl (by decide) (by decide) rfl (fun r u H locs hw hP hD hK hS => ?_)
  have hP : va_P (dC, dI) cls [(h0, .inr (4, [.ref sx, .ref sv, .int (nI en), .int (nI at1), .int go, .int kd, .int vr, .int fi, .int lf, .int sg, .int rt, .int tg])), (sx, .inl (cX, 12, .inl tx)), (sv, .inl (cV, 8, .inl va))] H := hP
  have hD : va_D A [(h0, .inr (4, [.ref sx, .ref sv, .int (nI en), .int (nI at1), .int go, .int kd, .int vr, .int fi, .int lf, .int sg, .int rt, .int tg])), (sx, .inl (cX, 12, .inl tx)), (sv, .inl (cV, 8, .inl va))] := hD
  have hK : va_K (dC, dI) cls [(cX, .int), (cV, .int)] s := hK
  refine W.widen (k := 0) (n := 0) (by omega) (by omega) ?_
  subst hw
  refine lv_if_eq (tgt := 16) hx hb d_Sm_piece_7 (by decide) (fun c7 => ?_) (fun c7 => ?_)
  · skip
    refine lv_aload_n hx hb d_Sm_piece_16 rfl (lv_at hl 0 rfl) ?_
    refine go_i (wr := []) (tr := []) (rV (C := "LineDisk$Statement") (ci := 4) (q0 := 0) (b := h0) (n := 0) (As := []) (rest := []) F hkw (g_Sm_peek l dC dI h0 sx sv cX cV tx va en at1 go kd vr fi lf sg rt tg he (by omega) H.size) xT_bl (fun _ _ _ => trivial) w_268 w_270 ws_6 w_5 w_271 rfl rfl (by decide +kernel) ⟨Nat.le_trans (by show (0) + 1 ≤ 2 + 3 * (d + 1); omega) hRf, Nat.le_trans (by show 8 + (1 + 11) + (0) ≤ 43 + 70 * (d + 1); omega) hRl⟩ (hP.sub (ws' := [(h0, .inr (4, [.ref sx, .ref sv, .int (nI en), .int (nI at1), .int go, .int kd, .int vr, .int fi, .int lf, .int sg, .int rt, .int tg])), (sx, .inl (cX, 12, .inl tx)), (sv, .inl (cV, 8, .inl va))]) [0, 1, 2] rfl) (hD.sub (ws' := [(h0, .inr (4, [.ref sx, .ref sv, .int (nI en), .int (nI at1), .int go, .int kd, .int vr, .int fi, .int lf, .int sg, .int rt, .int tg])), (sx, .inl (cX, 12, .inl tx)), (sv, .inl (cV, 8, .inl va))]) [0, 1, 2] (by decide) rfl) (hK.sub (tys' := [(cX, .int), (cV, .int)]) [0, 1] rfl) rfl rfl rfl rfl hl.1 rfl (Nat.le_of_ble_eq_true rfl) d_Sm_piece_17 ⟨Nat.le_refl _, Nat.le_refl _⟩) hP hD hK hS hA [0, 1, 2] [] [] rfl rfl (by decide) (by decide) rfl (fun r u H locs hw hP hD hK hS => ?_)
    have hP : va_P (dC, dI) cls [(h0, .inr (4, [.ref sx, .ref sv, .int (nI en), .int (nI at1), .int go, .int kd, .int vr, .int fi, .int lf, .int sg, .int rt, .int tg])), (sx, .inl (cX, 12, .inl tx)), (sv, .inl (cV, 8, .inl va))] H := hP
    have hD : va_D A [(h0, .inr (4, [.ref sx, .ref sv, .int (nI en), .int (nI at1), .int go, .int kd, .int vr, .int fi, .int lf, .int sg, .int rt, .int tg])), (sx, .inl (cX, 12, .inl tx)), (sv, .inl (cV, 8, .inl va))] := hD
    have hK : va_K (dC, dI) cls [(cX, .int), (cV, .int)] s := hK
    refine W.widen (k := 0) (n := 0) (by omega) (by omega) ?_
    subst hw
    refine lv_bipush (v := 40) hx hb d_Sm_piece_20 (by decide) ?_
    refine lv_icmp_eq (tgt := 35) hx hb d_Sm_piece_22 (by decide) (fun c22 => ?_) (fun c22 => ?_)
    · skip
      refine lv_iload_n hx hb d_Sm_piece_35 rfl (lv_at hl 1 rfl) ?_
      refine lv_bipush (v := 12) hx hb d_Sm_piece_36 (by decide) ?_
      refine lv_icmp_lt (tgt := 48) hx hb d_Sm_piece_38 (by decide) (fun _ => ?_) (fun h => absurd (nI_lt (b := 12) (by omega) (by decide)) h)
      refine lv_aload_n hx hb d_Sm_piece_48 rfl (lv_at hl 0 rfl) ?_
      refine lv_dup hx hb d_Sm_piece_49 rfl ?_
      refine va_get (D := (dC, dI)) (ci := 4) (v := .int (nI at1)) (C := R_Sm) (T := F_Sm) (N := 12) hx hb hts in_Sm hown hK hP 0 rfl rfl 3 (by decide) (hts _ w_112) (fun _ h9 => h9) rfl d_Sm_piece_50 ?_
      refine lv_iconst (v := 1) hx hb d_Sm_piece_53 (by decide) ?_
      refine lv_iadd hx hb d_Sm_piece_54 ?_
      refine tv (x2 := nI (at1 + 1)) (by exact (nI_succ at1).symm) ?_
      refine va_put (D := (dC, dI)) (ci := 4) (v := .int (nI (at1 + 1))) (ty := .int) (C := R_Sm) (T := F_Sm) (N := 12) hx hb hts in_Sm t_Sm t_Sm_ok n_Sm hown hK hP hD hS 0 rfl rfl 3 (by decide) (hts _ w_112) (fun _ h9 => h9) rfl (by decide +kernel) (rfl) (rfl) (Nat.le_of_ble_eq_true rfl) d_Sm_piece_55 (fun H locs hP hD hS => ?_)
      have hP : va_P (dC, dI) cls [(h0, .inr (4, [.ref sx, .ref sv, .int (nI en), .int (nI (at1 + 1)), .int go, .int kd, .int vr, .int fi, .int lf, .int sg, .int rt, .int tg])), (sx, .inl (cX, 12, .inl tx)), (sv, .inl (cV, 8, .inl va))] H := hP
      have hD : va_D A [(h0, .inr (4, [.ref sx, .ref sv, .int (nI en), .int (nI (at1 + 1)), .int go, .int kd, .int vr, .int fi, .int lf, .int sg, .int rt, .int tg])), (sx, .inl (cX, 12, .inl tx)), (sv, .inl (cV, 8, .inl va))] := hD
      refine lv_aload_n hx hb d_Sm_piece_58 rfl (lv_at hl 0 rfl) ?_
      refine lv_iload_n hx hb d_Sm_piece_59 rfl (lv_at hl 1 rfl) ?_
      refine lv_iconst (v := 1) hx hb d_Sm_piece_60 (by decide) ?_
      refine lv_iadd hx hb d_Sm_piece_61 ?_
      refine tv (x2 := nI (12 - d)) (by exact by rw [nI_1, show 12 - (d + 1) + 1 = 12 - d by omega]) ?_
      refine go_i (wr := []) (tr := []) (rV (C := "LineDisk$Statement") (ci := 4) (q0 := 0) (b := h0) (n := 1) (As := [.int (nI (12 - d))]) (rest := []) F hkw (hvl (at1 + 1) go H.size (by have := qk_lt c22 (by decide); omega)) xT_bl (fun _ _ _ => trivial) w_276 w_278 ws_8 w_5 w_279 rfl rfl (by decide +kernel) ⟨Nat.le_trans (by show (2 + 3 * d + 2) + 1 ≤ 2 + 3 * (d + 1); omega) hRf, Nat.le_trans (by show 8 + (6 + 11) + (43 + 70 * d + 45) ≤ 43 + 70 * (d + 1); omega) hRl⟩ (hP.sub (ws' := [(h0, .inr (4, [.ref sx, .ref sv, .int (nI en), .int (nI (at1 + 1)), .int go, .int kd, .int vr, .int fi, .int lf, .int sg, .int rt, .int tg])), (sx, .inl (cX, 12, .inl tx)), (sv, .inl (cV, 8, .inl va))]) [0, 1, 2] rfl) (hD.sub (ws' := [(h0, .inr (4, [.ref sx, .ref sv, .int (nI en), .int (nI (at1 + 1)), .int go, .int kd, .int vr, .int fi, .int lf, .int sg, .int rt, .int tg])), (sx, .inl (cX, 12, .inl tx)), (sv, .inl (cV, 8, .inl va))]) [0, 1, 2] (by decide) rfl) (hK.sub (tys' := [(cX, .int), (cV, .int)]) [0, 1] rfl) rfl rfl rfl rfl hl.1 rfl (Nat.le_of_ble_eq_true rfl) d_Sm_piece_62 ⟨Nat.le_refl _, Nat.le_refl _⟩) hP hD hK hS hA [0, 1, 2] [] [] rfl rfl (by decide) (by decide) rfl (fun r u8 H locs hv8 hP hD hK hS => ?_)
      have hP : va_P (dC, dI) cls [(h0, .inr (4, [.ref sx, .ref sv, .int (nI en), .int (nI u8.1), .int u8.2, .int kd, .int vr, .int fi, .int lf, .int sg, .int rt, .int tg])), (sx, .inl (cX, 12, .inl tx)), (sv, .inl (cV, 8, .inl va))] H := hP
      have hD : va_D A [(h0, .inr (4, [.ref sx, .ref sv, .int (nI en), .int (nI u8.1), .int u8.2, .int kd, .int vr, .int fi, .int lf, .int sg, .int rt, .int tg])), (sx, .inl (cX, 12, .inl tx)), (sv, .inl (cV, 8, .inl va))] := hD
      have hK : va_K (dC, dI) cls [(cX, .int), (cV, .int)] s := hK
      refine W.widen (k := 0) (n := 0) (by omega) (by omega) ?_
      refine lv_istore_n (i := 2) hx hb d_Sm_piece_65 rfl hl (by decide) rfl (fun ls hl => ?_)
      have hl : lv_has ls 3 [(2, .int r), (0, .ref h0), (1, .int (nI (12 - (d + 1))))] := hl
      refine lv_aload_n hx hb d_Sm_piece_66 rfl (lv_at hl 1 rfl) ?_
      refine lv_bipush (v := 41) hx hb d_Sm_piece_67 (by decide) ?_
      refine go_v (wr := []) (tr := []) (rV (C := "LineDisk$Statement") (ci := 4) (q0 := 0) (b := h0) (n := 1) (As := [.int 41]) (rest := []) F hkw (g_Sm_expect l dC dI h0 sx sv cX cV tx va en u8.1 u8.2 kd vr fi lf sg rt tg he hv8.2 41 (by decide) H.size) xT_bl (fun _ _ _ => trivial) w_272 w_274 ws_7 w_5 w_275 rfl rfl (by decide +kernel) ⟨Nat.le_trans (by show (1) + 1 ≤ 2 + 3 * (d + 1); omega) hRf, Nat.le_trans (by show 8 + (2 + 11) + (20) ≤ 43 + 70 * (d + 1); omega) hRl⟩ (hP.sub (ws' := [(h0, .inr (4, [.ref sx, .ref sv, .int (nI en), .int (nI u8.1), .int u8.2, .int kd, .int vr, .int fi, .int lf, .int sg, .int rt, .int tg])), (sx, .inl (cX, 12, .inl tx)), (sv, .inl (cV, 8, .inl va))]) [0, 1, 2] rfl) (hD.sub (ws' := [(h0, .inr (4, [.ref sx, .ref sv, .int (nI en), .int (nI u8.1), .int u8.2, .int kd, .int vr, .int fi, .int lf, .int sg, .int rt, .int tg])), (sx, .inl (cX, 12, .inl tx)), (sv, .inl (cV, 8, .inl va))]) [0, 1, 2] (by decide) rfl) (hK.sub (tys' := [(cX, .int), (cV, .int)]) [0, 1] rfl) rfl rfl rfl rfl hl.1 rfl (Nat.le_of_ble_eq_true rfl) d_Sm_piece_69 ⟨Nat.le_refl _, Nat.le_refl _⟩) hP hD hK hS hA [0, 1, 2] [] [] rfl rfl (by decide) (by decide) rfl (fun u9 H locs he9 hP hD hK hS => ?_)
      have hP : va_P (dC, dI) cls [(h0, .inr (4, [.ref sx, .ref sv, .int (nI en), .int (nI u9.1), .int u9.2, .int kd, .int vr, .int fi, .int lf, .int sg, .int rt, .int tg])), (sx, .inl (cX, 12, .inl tx)), (sv, .inl (cV, 8, .inl va))] H := hP
      have hD : va_D A [(h0, .inr (4, [.ref sx, .ref sv, .int (nI en), .int (nI u9.1), .int u9.2, .int kd, .int vr, .int fi, .int lf, .int sg, .int rt, .int tg])), (sx, .inl (cX, 12, .inl tx)), (sv, .inl (cV, 8, .inl va))] := hD
      have hK : va_K (dC, dI) cls [(cX, .int), (cV, .int)] s := hK
      refine W.widen (k := 0) (n := 0) (by omega) (by omega) ?_
      refine lv_iload_n hx hb d_Sm_piece_72 rfl (lv_at hl 0 rfl) ?_
      refine W.widen (k := 0) (n := 0) (Nat.le_refl _) (Nat.le_refl _) ?_
      exact W.iret (v := r) hx hb hr (fun t ht hW => ⟨⟨r, u9, rfl, ⟨by rw [epc]; unfold pcF; rw [if_pos c7, if_pos c22]; show _ = ((vlD tx va en d (at1 + 1) go).1, expF tx en 41 (vlD tx va en d (at1 + 1) go).2.1 (vlD tx va en d (at1 + 1) go).2.2); rw [← hv8.1]; exact Prod.ext rfl he9.1, he9.2⟩, cB.of (hP.sub [0, 1, 2] rfl) (hD.sub [0, 1, 2] (by decide) rfl) (hK.sub [0, 1] rfl) ht hW⟩, hS.F ht⟩) hS.2.2 d_Sm_piece_73
    · skip
      refine lv_aload_n hx hb d_Sm_piece_25 rfl (lv_at hl 0 rfl) ?_
      refine va_get (D := (dC, dI)) (ci := 4) (v := .ref sv) (C := R_Sm) (T := F_Sm) (N := 12) hx hb hts in_Sm hown hK hP 0 rfl rfl 1 (by decide) (hts _ w_110) (fun _ h9 => h9) rfl d_Sm_piece_26 ?_
      refine lv_aload_n hx hb d_Sm_piece_29 rfl (lv_at hl 0 rfl) ?_
      refine go_i (wr := []) (tr := []) (rV (C := "LineDisk$Statement") (ci := 4) (q0 := 0) (b := h0) (n := 0) (As := []) (rest := [.ref sv]) F hkw (g_Sm_variable l dC dI h0 sx sv cX cV tx va en at1 go kd vr fi lf sg rt tg he ha H.size) xT_bl (fun _ _ _ => trivial) w_264 w_266 ws_5 w_5 w_267 rfl rfl (by decide +kernel) ⟨Nat.le_trans (by show (1) + 1 ≤ 2 + 3 * (d + 1); omega) hRf, Nat.le_trans (by show 8 + (2 + 11) + (20) ≤ 43 + 70 * (d + 1); omega) hRl⟩ (hP.sub (ws' := [(h0, .inr (4, [.ref sx, .ref sv, .int (nI en), .int (nI at1), .int go, .int kd, .int vr, .int fi, .int lf, .int sg, .int rt, .int tg])), (sx, .inl (cX, 12, .inl tx)), (sv, .inl (cV, 8, .inl va))]) [0, 1, 2] rfl) (hD.sub (ws' := [(h0, .inr (4, [.ref sx, .ref sv, .int (nI en), .int (nI at1), .int go, .int kd, .int vr, .int fi, .int lf, .int sg, .int rt, .int tg])), (sx, .inl (cX, 12, .inl tx)), (sv, .inl (cV, 8, .inl va))]) [0, 1, 2] (by decide) rfl) (hK.sub (tys' := [(cX, .int), (cV, .int)]) [0, 1] rfl) rfl rfl rfl rfl hl.1 rfl (Nat.le_of_ble_eq_true rfl) d_Sm_piece_30 ⟨Nat.le_refl _, Nat.le_refl _⟩) hP hD hK hS hA [0, 1, 2] [] [] rfl rfl (by decide) (by decide) rfl (fun r u9 H locs hvr hP hD hK hS => ?_)
      have hP : va_P (dC, dI) cls [(h0, .inr (4, [.ref sx, .ref sv, .int (nI en), .int (nI u9.1), .int u9.2, .int kd, .int vr, .int fi, .int lf, .int sg, .int rt, .int tg])), (sx, .inl (cX, 12, .inl tx)), (sv, .inl (cV, 8, .inl va))] H := hP
      have hD : va_D A [(h0, .inr (4, [.ref sx, .ref sv, .int (nI en), .int (nI u9.1), .int u9.2, .int kd, .int vr, .int fi, .int lf, .int sg, .int rt, .int tg])), (sx, .inl (cX, 12, .inl tx)), (sv, .inl (cV, 8, .inl va))] := hD
      have hK : va_K (dC, dI) cls [(cX, .int), (cV, .int)] s := hK
      refine W.widen (k := 0) (n := 0) (by omega) (by omega) ?_
      refine va_iald hx hb hK hP 2 1 rfl rfl (in7 hvr.1) d_Sm_piece_33 ?_
      refine W.widen (k := 0) (n := 0) (Nat.le_refl _) (Nat.le_refl _) ?_
      exact W.iret (v := va r.toNatClampNeg) hx hb hr (fun t ht hW => ⟨⟨va r.toNatClampNeg, u9, rfl, ⟨by rw [epc]; unfold pcF; rw [if_pos c7, if_neg c22, ← hvr.1], hvr.2⟩, cB.of (hP.sub [0, 1, 2] rfl) (hD.sub [0, 1, 2] (by decide) rfl) (hK.sub [0, 1] rfl) ht hW⟩, hS.F ht⟩) hS.2.2 d_Sm_piece_34
  · skip
    refine lv_aload_n hx hb d_Sm_piece_10 rfl (lv_at hl 0 rfl) ?_
    refine lv_iconst (v := 5) hx hb d_Sm_piece_11 (by decide) ?_
    refine go_i (wr := []) (tr := []) (rV (C := "LineDisk$Statement") (ci := 4) (q0 := 0) (b := h0) (n := 1) (As := [.int 5]) (rest := []) F hkw (g_Sm_digits l dC dI h0 sx sv cX cV tx va en at1 go kd vr fi lf sg rt tg he ha 5 (by decide) H.size) xT_bl (fun _ _ _ => trivial) w_289 w_291 ws_11 w_5 w_292 rfl rfl (by decide +kernel) ⟨Nat.le_trans (by show (1) + 1 ≤ 2 + 3 * (d + 1); omega) hRf, Nat.le_trans (by show 8 + (4 + 11) + (20) ≤ 43 + 70 * (d + 1); omega) hRl⟩ (hP.sub (ws' := [(h0, .inr (4, [.ref sx, .ref sv, .int (nI en), .int (nI at1), .int go, .int kd, .int vr, .int fi, .int lf, .int sg, .int rt, .int tg])), (sx, .inl (cX, 12, .inl tx)), (sv, .inl (cV, 8, .inl va))]) [0, 1, 2] rfl) (hD.sub (ws' := [(h0, .inr (4, [.ref sx, .ref sv, .int (nI en), .int (nI at1), .int go, .int kd, .int vr, .int fi, .int lf, .int sg, .int rt, .int tg])), (sx, .inl (cX, 12, .inl tx)), (sv, .inl (cV, 8, .inl va))]) [0, 1, 2] (by decide) rfl) (hK.sub (tys' := [(cX, .int), (cV, .int)]) [0, 1] rfl) rfl rfl rfl rfl hl.1 rfl (Nat.le_of_ble_eq_true rfl) d_Sm_piece_12 ⟨Nat.le_refl _, Nat.le_refl _⟩) hP hD hK hS hA [0, 1, 2] [] [] rfl rfl (by decide) (by decide) rfl (fun r u9 H locs hdg hP hD hK hS => ?_)
    have hP : va_P (dC, dI) cls [(h0, .inr (4, [.ref sx, .ref sv, .int (nI en), .int (nI u9), .int go, .int kd, .int vr, .int fi, .int lf, .int sg, .int rt, .int tg])), (sx, .inl (cX, 12, .inl tx)), (sv, .inl (cV, 8, .inl va))] H := hP
    have hD : va_D A [(h0, .inr (4, [.ref sx, .ref sv, .int (nI en), .int (nI u9), .int go, .int kd, .int vr, .int fi, .int lf, .int sg, .int rt, .int tg])), (sx, .inl (cX, 12, .inl tx)), (sv, .inl (cV, 8, .inl va))] := hD
    have hK : va_K (dC, dI) cls [(cX, .int), (cV, .int)] s := hK
    refine W.widen (k := 0) (n := 0) (by omega) (by omega) ?_
    refine W.widen (k := 0) (n := 0) (Nat.le_refl _) (Nat.le_refl _) ?_
    exact W.iret (v := r) hx hb hr (fun t ht hW => ⟨⟨r, (u9, go), rfl, ⟨by rw [epc]; unfold pcF; rw [if_neg c7, ← hdg.1], hdg.2⟩, cB.of (hP.sub [0, 1, 2] rfl) (hD.sub [0, 1, 2] (by decide) rfl) (hK.sub [0, 1] rfl) ht hW⟩, hS.F ht⟩) hS.2.2 d_Sm_piece_15
set_option maxHeartbeats 4000000 in
set_option maxRecDepth 100000 in
theorem lp_Sm_product {p : Program} {l : Launch} {e : Env} {R : Room} {s : State} {m : MethodId} {args : Array Value} {below : List Frame} {meth : Method} {c : Code} {cells slots : Nat} {Q : State → Prop} {A : Nat → Prop} {dC : Nat → ClassId} {dI : Nat → Nat → Nat} (hx : p.tables.exec = Jvm.exec) (hb : c.code = b_Sm_product) (hml : c.maxLocals = 4) (hts : ∀ w ∈ gw, w.before args s = true) (hown : s.vm.findClass "LineDisk$Statement" = some m.cls) (hkw : kw s) (hA : ∀ q : Nat, s.heap.size ≤ q → A q) (h0 sx sv : Nat) (cX cV : ClassId) (tx va : Nat → Int32) (en : Nat) (kd vr fi lf sg rt tg : Int32) (he : en ≤ 12) (d : Nat) (hd : d ≤ 12) (hpc : ∀ (at1 : Nat) (go : Int32) (sz : Nat), at1 ≤ en → Met l y_Sm_piece (Cond.code y_Sm_piece b_Sm_piece 3 (some .int) :: gw) ({ frames := 2 + 3 * d, cells := 0, slots := 0, locals := 43 + 70 * d }) (cP (dC, dI) [.ref h0, .int (nI (12 - d))] sz [(h0, .inr (4, [.ref sx, .ref sv, .int (nI en), .int (nI at1), .int go, .int kd, .int vr, .int fi, .int lf, .int sg, .int rt, .int tg])), (sx, .inl (cX, 12, .inl tx)), (sv, .inl (cV, 8, .inl va))] [(cX, .int), (cV, .int)] xT) (va_Qi (fun (r : Int32) (u : Nat × Int32) => (r, u) = pcD tx va en d at1 go ∧ u.1 ≤ en) (fun (u : Nat × Int32) t => cB (dC, dI) (va_A [(h0, .inr (4, [.ref sx, .ref sv, .int (nI en), .int (nI at1), .int go, .int kd, .int vr, .int fi, .int lf, .int sg, .int rt, .int tg])), (sx, .inl (cX, 12, .inl tx)), (sv, .inl (cV, 8, .inl va))] sz) [(h0, .inr (4, [.ref sx, .ref sv, .int (nI en), .int (nI u.1), .int u.2, .int kd, .int vr, .int fi, .int lf, .int sg, .int rt, .int tg])), (sx, .inl (cX, 12, .inl tx)), (sv, .inl (cV, 8, .inl va))] [(cX, .int), (cV, .int)] t) (va_A [(h0, .inr (4, [.ref sx, .ref sv, .int (nI en), .int (nI at1), .int go, .int kd, .int vr, .int fi, .int lf, .int sg, .int rt, .int tg])), (sx, .inl (cX, 12, .inl tx)), (sv, .inl (cV, 8, .inl va))] sz)) 0 0 (va_A [(h0, .inr (4, [.ref sx, .ref sv, .int (nI en), .int (nI at1), .int go, .int kd, .int vr, .int fi, .int lf, .int sg, .int rt, .int tg])), (sx, .inl (cX, 12, .inl tx)), (sv, .inl (cV, 8, .inl va))] sz)) (q0 : PR) (hK0 : va_K (dC, dI) cls [(cX, .int), (cV, .int)] s) (hRf : 2 + 3 * d + 1 ≤ R.frames) (hRl : 43 + 70 * d + 22 ≤ R.locals) (hRc : cells ≤ R.cells) (hRs : slots ≤ R.slots)  (k_47 : ∀ (k : Nat), k ≤ 12 → ∀ (ls : Array Slot) (H : Heap) (locs : List Loc) (p9 : Int32) (a9 : Nat) (g9 : Int32), lv_has ls 4 [(2, .int p9), (0, .ref h0)] → va_P (dC, dI) cls [(h0, .inr (4, [.ref sx, .ref sv, .int (nI en), .int (nI a9), .int g9, .int kd, .int vr, .int fi, .int lf, .int sg, .int rt, .int tg])), (sx, .inl (cX, 12, .inl tx)), (sv, .inl (cV, 8, .inl va))] H → va_D A [(h0, .inr (4, [.ref sx, .ref sv, .int (nI en), .int (nI a9), .int g9, .int kd, .int vr, .int fi, .int lf, .int sg, .int rt, .int tg])), (sx, .inl (cX, 12, .inl tx)), (sv, .inl (cV, 8, .inl va))] → va_S A s.heap H locs → ((p9, a9, g9) = prL (pcD tx va en d) tx en 12 q0 ∧ a9 ≤ en) → W p l e R s m args below meth c H locs cells slots Q (F0 m 47 ls [])) : ∀ (j k : Nat), k + j = 12 → ∀ (ls : Array Slot) (H : Heap) (locs : List Loc) (p9 : Int32) (a9 : Nat) (g9 : Int32), lv_has ls 4 [(3, .int (nI k)), (2, .int p9), (0, .ref h0), (1, .int (nI (12 - d)))] → va_P (dC, dI) cls [(h0, .inr (4, [.ref sx, .ref sv, .int (nI en), .int (nI a9), .int g9, .int kd, .int vr, .int fi, .int lf, .int sg, .int rt, .int tg])), (sx, .inl (cX, 12, .inl tx)), (sv, .inl (cV, 8, .inl va))] H → va_D A [(h0, .inr (4, [.ref sx, .ref sv, .int (nI en), .int (nI a9), .int g9, .int kd, .int vr, .int fi, .int lf, .int sg, .int rt, .int tg])), (sx, .inl (cX, 12, .inl tx)), (sv, .inl (cV, 8, .inl va))] → va_S A s.heap H locs → (prL (pcD tx va en d) tx en 12 q0 = prL (pcD tx va en d) tx en (12 - k) (p9, a9, g9) ∧ a9 ≤ en) → W p l e R s m args below meth c H locs cells slots Q (F0 m 8 ls []) := by
  have F : CallFix p m c b_Sm_product 4 s args gw "LineDisk$Statement" := ⟨hx, hb, hml, hown, hts⟩
  intro j
  induction j with
  | zero =>
    intro k hk ls H locs p9 a9 g9 hl hP hD hS hf
    have hK := hK0
    have hkN : k = 12 := by omega
    refine lv_iload_n hx hb d_Sm_product_8 rfl (lv_at hl 0 rfl) ?_
    refine lv_bipush (v := 12) hx hb d_Sm_product_9 (by decide) ?_
    refine lv_icmp_ge (tgt := 47) hx hb d_Sm_product_11 (by decide) (fun _ => ?_) (fun h => absurd (by rw [hkN]; exact nI_le (a := 12) (b := 12) (Nat.le_refl _) (by decide)) h)
    exact k_47 k (by omega) ls _ _ p9 a9 g9 (lv_sub hl [1, 2] rfl) (hP.sub [0, 1, 2] rfl) (hD.sub [0, 1, 2] (by decide) rfl) hS (⟨by rw [hf.1, show 12 - k = 0 by omega]; rfl, hf.2⟩)
  | succ j ih =>
    intro k hk ls H locs p9 a9 g9 hl hP hD hS hf
    have hK := hK0
    have hkN : k < 12 := by omega
    obtain ⟨f9, hf9⟩ : ∃ f9, 12 - k = f9 + 1 := ⟨12 - k - 1, by omega⟩
    have ha9 : a9 ≤ en := hf.2
    refine lv_iload_n hx hb d_Sm_product_8 rfl (lv_at hl 0 rfl) ?_
    refine lv_bipush (v := 12) hx hb d_Sm_product_9 (by decide) ?_
    refine lv_icmp_ge (tgt := 47) hx hb d_Sm_product_11 (by decide) (fun h => absurd h (nI_ge (b := 12) hkN (by decide))) (fun _ => ?_)
    refine lv_aload_n hx hb d_Sm_product_14 rfl (lv_at hl 2 rfl) ?_
    refine go_i (wr := []) (tr := []) (rV (C := "LineDisk$Statement") (ci := 4) (q0 := 0) (b := h0) (n := 0) (As := []) (rest := []) F hkw (g_Sm_peek l dC dI h0 sx sv cX cV tx va en a9 g9 kd vr fi lf sg rt tg he (by omega) H.size) xT_bl (fun _ _ _ => trivial) w_268 w_270 ws_6 w_5 w_271 rfl rfl (by decide +kernel) ⟨Nat.le_trans (by show (0) + 1 ≤ 2 + 3 * d + 1; omega) hRf, Nat.le_trans (by show 8 + (1 + 11) + (0) ≤ 43 + 70 * d + 22; omega) hRl⟩ (hP.sub (ws' := [(h0, .inr (4, [.ref sx, .ref sv, .int (nI en), .int (nI a9), .int g9, .int kd, .int vr, .int fi, .int lf, .int sg, .int rt, .int tg])), (sx, .inl (cX, 12, .inl tx)), (sv, .inl (cV, 8, .inl va))]) [0, 1, 2] rfl) (hD.sub (ws' := [(h0, .inr (4, [.ref sx, .ref sv, .int (nI en), .int (nI a9), .int g9, .int kd, .int vr, .int fi, .int lf, .int sg, .int rt, .int tg])), (sx, .inl (cX, 12, .inl tx)), (sv, .inl (cV, 8, .inl va))]) [0, 1, 2] (by decide) rfl) (hK.sub (tys' := [(cX, .int), (cV, .int)]) [0, 1] rfl) rfl rfl rfl rfl hl.1 rfl (Nat.le_of_ble_eq_true rfl) d_Sm_product_15 ⟨hRc, hRs⟩) hP hD hK hS hA [0, 1, 2] [] [] rfl rfl (by decide) (by decide) rfl (fun r u H locs hw hP hD hK hS => ?_)
    have hP : va_P (dC, dI) cls [(h0, .inr (4, [.ref sx, .ref sv, .int (nI en), .int (nI a9), .int g9, .int kd, .int vr, .int fi, .int lf, .int sg, .int rt, .int tg])), (sx, .inl (cX, 12, .inl tx)), (sv, .inl (cV, 8, .inl va))] H := hP
    have hD : va_D A [(h0, .inr (4, [.ref sx, .ref sv, .int (nI en), .int (nI a9), .int g9, .int kd, .int vr, .int fi, .int lf, .int sg, .int rt, .int tg])), (sx, .inl (cX, 12, .inl tx)), (sv, .inl (cV, 8, .inl va))] := hD
    have hK : va_K (dC, dI) cls [(cX, .int), (cV, .int)] s := hK
    refine W.widen (k := cells) (n := slots) (Nat.le_refl _) (Nat.le_refl _) ?_
    subst hw
    refine lv_bipush (v := 42) hx hb d_Sm_product_18 (by decide) ?_
    refine lv_icmp_ne (tgt := 47) hx hb d_Sm_product_20 (by decide) (fun c20 => ?_) (fun c20 => ?_)
    · skip
      exact k_47 k (by omega) ls _ _ p9 a9 g9 (lv_sub hl [1, 2] rfl) (hP.sub [0, 1, 2] rfl) (hD.sub [0, 1, 2] (by decide) rfl) hS (⟨by rw [hf.1, hf9]; symm; show (if ¬ pk tx en a9 = 42 then (p9, a9, g9) else _) = _; rw [if_pos c20], hf.2⟩)
    · skip
      refine lv_aload_n hx hb d_Sm_product_23 rfl (lv_at hl 2 rfl) ?_
      refine lv_dup hx hb d_Sm_product_24 rfl ?_
      refine va_get (D := (dC, dI)) (ci := 4) (v := .int (nI a9)) (C := R_Sm) (T := F_Sm) (N := 12) hx hb hts in_Sm hown hK hP 0 rfl rfl 3 (by decide) (hts _ w_112) (fun _ h9 => h9) rfl d_Sm_product_25 ?_
      refine lv_iconst (v := 1) hx hb d_Sm_product_28 (by decide) ?_
      refine lv_iadd hx hb d_Sm_product_29 ?_
      refine tv (x2 := nI (a9 + 1)) (by exact (nI_succ a9).symm) ?_
      refine va_put (D := (dC, dI)) (ci := 4) (v := .int (nI (a9 + 1))) (ty := .int) (C := R_Sm) (T := F_Sm) (N := 12) hx hb hts in_Sm t_Sm t_Sm_ok n_Sm hown hK hP hD hS 0 rfl rfl 3 (by decide) (hts _ w_112) (fun _ h9 => h9) rfl (by decide +kernel) (rfl) (rfl) (Nat.le_of_ble_eq_true rfl) d_Sm_product_30 (fun H locs hP hD hS => ?_)
      have hP : va_P (dC, dI) cls [(h0, .inr (4, [.ref sx, .ref sv, .int (nI en), .int (nI (a9 + 1)), .int g9, .int kd, .int vr, .int fi, .int lf, .int sg, .int rt, .int tg])), (sx, .inl (cX, 12, .inl tx)), (sv, .inl (cV, 8, .inl va))] H := hP
      have hD : va_D A [(h0, .inr (4, [.ref sx, .ref sv, .int (nI en), .int (nI (a9 + 1)), .int g9, .int kd, .int vr, .int fi, .int lf, .int sg, .int rt, .int tg])), (sx, .inl (cX, 12, .inl tx)), (sv, .inl (cV, 8, .inl va))] := hD
      refine lv_iload_n hx hb d_Sm_product_33 rfl (lv_at hl 1 rfl) ?_
      refine lv_aload_n hx hb d_Sm_product_34 rfl (lv_at hl 2 rfl) ?_
      refine lv_iload_n hx hb d_Sm_product_35 rfl (lv_at hl 3 rfl) ?_
      refine go_i (wr := []) (tr := []) (rV (C := "LineDisk$Statement") (ci := 4) (q0 := 0) (b := h0) (n := 1) (As := [.int (nI (12 - d))]) (rest := [.int p9]) F hkw (hpc (a9 + 1) g9 H.size (by have := qk_lt c20 (by decide); omega)) xT_bl (fun _ _ _ => trivial) w_284 w_286 ws_10 w_5 w_287 rfl rfl (by decide +kernel) ⟨Nat.le_trans (by show (2 + 3 * d) + 1 ≤ 2 + 3 * d + 1; omega) hRf, Nat.le_trans (by show 8 + (3 + 11) + (43 + 70 * d) ≤ 43 + 70 * d + 22; omega) hRl⟩ (hP.sub (ws' := [(h0, .inr (4, [.ref sx, .ref sv, .int (nI en), .int (nI (a9 + 1)), .int g9, .int kd, .int vr, .int fi, .int lf, .int sg, .int rt, .int tg])), (sx, .inl (cX, 12, .inl tx)), (sv, .inl (cV, 8, .inl va))]) [0, 1, 2] rfl) (hD.sub (ws' := [(h0, .inr (4, [.ref sx, .ref sv, .int (nI en), .int (nI (a9 + 1)), .int g9, .int kd, .int vr, .int fi, .int lf, .int sg, .int rt, .int tg])), (sx, .inl (cX, 12, .inl tx)), (sv, .inl (cV, 8, .inl va))]) [0, 1, 2] (by decide) rfl) (hK.sub (tys' := [(cX, .int), (cV, .int)]) [0, 1] rfl) rfl rfl rfl rfl hl.1 rfl (Nat.le_of_ble_eq_true rfl) d_Sm_product_36 ⟨hRc, hRs⟩) hP hD hK hS hA [0, 1, 2] [] [] rfl rfl (by decide) (by decide) rfl (fun r u8 H locs hv8 hP hD hK hS => ?_)
      have hP : va_P (dC, dI) cls [(h0, .inr (4, [.ref sx, .ref sv, .int (nI en), .int (nI u8.1), .int u8.2, .int kd, .int vr, .int fi, .int lf, .int sg, .int rt, .int tg])), (sx, .inl (cX, 12, .inl tx)), (sv, .inl (cV, 8, .inl va))] H := hP
      have hD : va_D A [(h0, .inr (4, [.ref sx, .ref sv, .int (nI en), .int (nI u8.1), .int u8.2, .int kd, .int vr, .int fi, .int lf, .int sg, .int rt, .int tg])), (sx, .inl (cX, 12, .inl tx)), (sv, .inl (cV, 8, .inl va))] := hD
      have hK : va_K (dC, dI) cls [(cX, .int), (cV, .int)] s := hK
      refine W.widen (k := cells) (n := slots) (Nat.le_refl _) (Nat.le_refl _) ?_
      refine lv_imul hx hb d_Sm_product_39 ?_
      refine lv_istore_n (i := 2) hx hb d_Sm_product_40 rfl hl (by decide) rfl (fun ls hl => ?_)
      have hl : lv_has ls 4 [(2, .int (p9 * r)), (3, .int (nI k)), (0, .ref h0), (1, .int (nI (12 - d)))] := hl
      refine lv_iinc (k := 1) (v := nI (k + 1)) hx hb d_Sm_product_41 hl rfl (by rw [lit1]; exact (nI_succ k).symm) (by decide) rfl (fun ls hl => ?_)
      have hl : lv_has ls 4 [(3, .int (nI (k + 1))), (2, .int (p9 * r)), (0, .ref h0), (1, .int (nI (12 - d)))] := hl
      refine lv_goto (tgt := 8) hx hb d_Sm_product_44 (by decide) ?_
      exact ih (k + 1) (by omega) ls _ _ (p9 * r) u8.1 u8.2 (lv_sub hl [0, 1, 2, 3] rfl) (hP.sub [0, 1, 2] rfl) (hD.sub [0, 1, 2] (by decide) rfl) hS (⟨by rw [hf.1, hf9, show 12 - (k + 1) = f9 by omega]; show (if ¬ pk tx en a9 = 42 then (p9, a9, g9) else _) = _; rw [if_neg (fun h => h c20), ← hv8.1], hv8.2⟩)
set_option maxHeartbeats 4000000 in
set_option maxRecDepth 100000 in
theorem g_Sm_product (l : Launch) (dC : Nat → ClassId) (dI : Nat → Nat → Nat) (h0 sx sv : Nat) (cX cV : ClassId) (tx va : Nat → Int32) (en : Nat) (kd vr fi lf sg rt tg : Int32) (he : en ≤ 12) (d : Nat) (hd : d ≤ 12) (hpc : ∀ (at1 : Nat) (go : Int32) (sz : Nat), at1 ≤ en → Met l y_Sm_piece (Cond.code y_Sm_piece b_Sm_piece 3 (some .int) :: gw) ({ frames := 2 + 3 * d, cells := 0, slots := 0, locals := 43 + 70 * d }) (cP (dC, dI) [.ref h0, .int (nI (12 - d))] sz [(h0, .inr (4, [.ref sx, .ref sv, .int (nI en), .int (nI at1), .int go, .int kd, .int vr, .int fi, .int lf, .int sg, .int rt, .int tg])), (sx, .inl (cX, 12, .inl tx)), (sv, .inl (cV, 8, .inl va))] [(cX, .int), (cV, .int)] xT) (va_Qi (fun (r : Int32) (u : Nat × Int32) => (r, u) = pcD tx va en d at1 go ∧ u.1 ≤ en) (fun (u : Nat × Int32) t => cB (dC, dI) (va_A [(h0, .inr (4, [.ref sx, .ref sv, .int (nI en), .int (nI at1), .int go, .int kd, .int vr, .int fi, .int lf, .int sg, .int rt, .int tg])), (sx, .inl (cX, 12, .inl tx)), (sv, .inl (cV, 8, .inl va))] sz) [(h0, .inr (4, [.ref sx, .ref sv, .int (nI en), .int (nI u.1), .int u.2, .int kd, .int vr, .int fi, .int lf, .int sg, .int rt, .int tg])), (sx, .inl (cX, 12, .inl tx)), (sv, .inl (cV, 8, .inl va))] [(cX, .int), (cV, .int)] t) (va_A [(h0, .inr (4, [.ref sx, .ref sv, .int (nI en), .int (nI at1), .int go, .int kd, .int vr, .int fi, .int lf, .int sg, .int rt, .int tg])), (sx, .inl (cX, 12, .inl tx)), (sv, .inl (cV, 8, .inl va))] sz)) 0 0 (va_A [(h0, .inr (4, [.ref sx, .ref sv, .int (nI en), .int (nI at1), .int go, .int kd, .int vr, .int fi, .int lf, .int sg, .int rt, .int tg])), (sx, .inl (cX, 12, .inl tx)), (sv, .inl (cV, 8, .inl va))] sz)) (at1 : Nat) (go : Int32) (ha : at1 ≤ en) (sz : Nat) : Met l y_Sm_product (Cond.code y_Sm_product b_Sm_product 4 (some .int) :: gw) ({ frames := 2 + 3 * d + 1, cells := 0, slots := 0, locals := 43 + 70 * d + 22 }) (cP (dC, dI) [.ref h0, .int (nI (12 - d))] sz [(h0, .inr (4, [.ref sx, .ref sv, .int (nI en), .int (nI at1), .int go, .int kd, .int vr, .int fi, .int lf, .int sg, .int rt, .int tg])), (sx, .inl (cX, 12, .inl tx)), (sv, .inl (cV, 8, .inl va))] [(cX, .int), (cV, .int)] xT) (va_Qi (fun (r : Int32) (u : Nat × Int32) => (r, u) = prD tx va en d at1 go ∧ u.1 ≤ en) (fun (u : Nat × Int32) t => cB (dC, dI) (va_A [(h0, .inr (4, [.ref sx, .ref sv, .int (nI en), .int (nI at1), .int go, .int kd, .int vr, .int fi, .int lf, .int sg, .int rt, .int tg])), (sx, .inl (cX, 12, .inl tx)), (sv, .inl (cV, 8, .inl va))] sz) [(h0, .inr (4, [.ref sx, .ref sv, .int (nI en), .int (nI u.1), .int u.2, .int kd, .int vr, .int fi, .int lf, .int sg, .int rt, .int tg])), (sx, .inl (cX, 12, .inl tx)), (sv, .inl (cV, 8, .inl va))] [(cX, .int), (cV, .int)] t) (va_A [(h0, .inr (4, [.ref sx, .ref sv, .int (nI en), .int (nI at1), .int go, .int kd, .int vr, .int fi, .int lf, .int sg, .int rt, .int tg])), (sx, .inl (cX, 12, .inl tx)), (sv, .inl (cV, 8, .inl va))] sz)) 0 0 (va_A [(h0, .inr (4, [.ref sx, .ref sv, .int (nI en), .int (nI at1), .int go, .int kd, .int vr, .int fi, .int lf, .int sg, .int rt, .int tg])), (sx, .inl (cX, 12, .inl tx)), (sv, .inl (cV, 8, .inl va))] sz) := by
  refine Met.ofW (cc := b_Sm_product) (maxL := 4) (ret := (some .int)) (by decide) rfl ?_
  intro p e s m args below meth c s₁ B hml hv
  obtain ⟨rfl, hsz, hP, hK, hD0, hkw, hX⟩ := hv
  have hx := B.exec
  have hb := B.bytes
  have hr := B.returns
  have hts := fun w hw => atoms_spec (ws := Cond.code y_Sm_product b_Sm_product 4 (some .int) :: gw) B.pre w (List.mem_cons_of_mem _ hw)
  have hown : s.vm.findClass "LineDisk$Statement" = some m.cls := findClass_of_methodNamed B.named
  have hlocks := B.notSynchronized
  have hin := (name_of_methodNamed B.named B.method).1
  subst hsz
  have hD := hD0.self (sz := s.heap.size)
  generalize hAe : va_A [(h0, .inr (4, [.ref sx, .ref sv, .int (nI en), .int (nI at1), .int go, .int kd, .int vr, .int fi, .int lf, .int sg, .int rt, .int tg])), (sx, .inl (cX, 12, .inl tx)), (sv, .inl (cV, 8, .inl va))] s.heap.size = A at hD ⊢
  have hA : ∀ q : Nat, s.heap.size ≤ q → A q := fun q h => by rw [← hAe]; exact Or.inr h
  have hS : va_S A s.heap s.heap [] := va_S.rf
  have hl := lv_entry ([.ref h0, .int (nI (12 - d))]) (n := 4) (Nat.le_of_ble_eq_true rfl)
  rw [lg_entry_eq]
  generalize (lg_sl ([.ref h0, .int (nI (12 - d))]) ++ List.replicate (4 - (lg_sl ([.ref h0, .int (nI (12 - d))])).length) Slot.unset).toArray = ls at hl ⊢
  have hl : lv_has ls 4 [(0, .ref h0), (1, .int (nI (12 - d)))] := hl
  have F : CallFix p m c b_Sm_product 4 s ([.ref h0, .int (nI (12 - d))]).toArray gw "LineDisk$Statement" := ⟨hx, hb, hml, hown, hts⟩
  have hRf : 2 + 3 * d + 1 ≤ (headSpec (Cond.code y_Sm_product b_Sm_product 4 (some .int) :: gw) { frames := 2 + 3 * d + 1, cells := 0, slots := 0, locals := 43 + 70 * d + 22 }).room.frames := Nat.le_refl _
  have hRl : 43 + 70 * d + 22 ≤ (headSpec (Cond.code y_Sm_product b_Sm_product 4 (some .int) :: gw) { frames := 2 + 3 * d + 1, cells := 0, slots := 0, locals := 43 + 70 * d + 22 }).room.locals := Nat.le_refl _
  refine lv_aload_n hx hb d_Sm_product_0 rfl (lv_at hl 0 rfl) ?_
  refine lv_iload_n hx hb d_Sm_product_1 rfl (lv_at hl 1 rfl) ?_
  refine go_i (wr := []) (tr := []) (rV (C := "LineDisk$Statement") (ci := 4) (q0 := 0) (b := h0) (n := 1) (As := [.int (nI (12 - d))]) (rest := []) F hkw (hpc at1 go s.heap.size ha) xT_bl (fun _ _ _ => trivial) w_284 w_286 ws_10 w_5 w_287 rfl rfl (by decide +kernel) ⟨Nat.le_trans (by show (2 + 3 * d) + 1 ≤ 2 + 3 * d + 1; omega) hRf, Nat.le_trans (by show 8 + (3 + 11) + (43 + 70 * d) ≤ 43 + 70 * d + 22; omega) hRl⟩ (hP.sub (ws' := [(h0, .inr (4, [.ref sx, .ref sv, .int (nI en), .int (nI at1), .int go, .int kd, .int vr, .int fi, .int lf, .int sg, .int rt, .int tg])), (sx, .inl (cX, 12, .inl tx)), (sv, .inl (cV, 8, .inl va))]) [0, 1, 2] rfl) (hD.sub (ws' := [(h0, .inr (4, [.ref sx, .ref sv, .int (nI en), .int (nI at1), .int go, .int kd, .int vr, .int fi, .int lf, .int sg, .int rt, .int tg])), (sx, .inl (cX, 12, .inl tx)), (sv, .inl (cV, 8, .inl va))]) [0, 1, 2] (by decide) rfl) (hK.sub (tys' := [(cX, .int), (cV, .int)]) [0, 1] rfl) rfl rfl rfl rfl hl.1 rfl (Nat.le_of_ble_eq_true rfl) d_Sm_product_2 ⟨Nat.le_refl _, Nat.le_refl _⟩) hP hD hK hS hA [0, 1, 2] [] [] rfl rfl (by decide) (by decide) rfl (fun r u8 H locs hv8 hP hD hK hS => ?_)
  have hP : va_P (dC, dI) cls [(h0, .inr (4, [.ref sx, .ref sv, .int (nI en), .int (nI u8.1), .int u8.2, .int kd, .int vr, .int fi, .int lf, .int sg, .int rt, .int tg])), (sx, .inl (cX, 12, .inl tx)), (sv, .inl (cV, 8, .inl va))] H := hP
  have hD : va_D A [(h0, .inr (4, [.ref sx, .ref sv, .int (nI en), .int (nI u8.1), .int u8.2, .int kd, .int vr, .int fi, .int lf, .int sg, .int rt, .int tg])), (sx, .inl (cX, 12, .inl tx)), (sv, .inl (cV, 8, .inl va))] := hD
  have hK : va_K (dC, dI) cls [(cX, .int), (cV, .int)] s := hK
  refine W.widen (k := 0) (n := 0) (by omega) (by omega) ?_
  refine lv_istore_n (i := 2) hx hb d_Sm_product_5 rfl hl (by decide) rfl (fun ls hl => ?_)
  have hl : lv_has ls 4 [(2, .int r), (0, .ref h0), (1, .int (nI (12 - d)))] := hl
  refine lv_iconst (v := 0) hx hb d_Sm_product_6 (by decide) ?_
  refine lv_istore_n (i := 3) hx hb d_Sm_product_7 rfl hl (by decide) rfl (fun ls hl => ?_)
  have hl : lv_has ls 4 [(3, .int 0), (2, .int r), (0, .ref h0), (1, .int (nI (12 - d)))] := hl
  refine lp_Sm_product (l := l) hx hb hml hts hown hkw hA h0 sx sv cX cV tx va en kd vr fi lf sg rt tg he d hd hpc (r, u8) hK hRf hRl (Nat.le_refl _) (Nat.le_refl _) (fun k _ ls H locs p9 a9 g9 hl hP hD hS hf => ?_) 12 0 (by decide) ls _ _ r u8.1 u8.2 (lv_sub hl [0, 1, 2, 3] rfl) hP hD hS ⟨rfl, hv8.2⟩
  refine lv_iload_n hx hb d_Sm_product_47 rfl (lv_at hl 0 rfl) ?_
  refine W.widen (k := 0) (n := 0) (Nat.le_refl _) (Nat.le_refl _) ?_
  exact W.iret (v := p9) hx hb hr (fun t ht hW => ⟨⟨p9, (a9, g9), rfl, ⟨by unfold prD; rw [← hv8.1]; exact hf.1, hf.2⟩, cB.of (hP.sub [0, 1, 2] rfl) (hD.sub [0, 1, 2] (by decide) rfl) (hK.sub [0, 1] rfl) ht hW⟩, hS.F ht⟩) hS.2.2 d_Sm_product_48
set_option maxHeartbeats 4000000 in
set_option maxRecDepth 100000 in
theorem lp_Sm_value {p : Program} {l : Launch} {e : Env} {R : Room} {s : State} {m : MethodId} {args : Array Value} {below : List Frame} {meth : Method} {c : Code} {cells slots : Nat} {Q : State → Prop} {A : Nat → Prop} {dC : Nat → ClassId} {dI : Nat → Nat → Nat} (hx : p.tables.exec = Jvm.exec) (hb : c.code = b_Sm_value) (hml : c.maxLocals = 6) (hts : ∀ w ∈ gw, w.before args s = true) (hown : s.vm.findClass "LineDisk$Statement" = some m.cls) (hkw : kw s) (hA : ∀ q : Nat, s.heap.size ≤ q → A q) (h0 sx sv : Nat) (cX cV : ClassId) (tx va : Nat → Int32) (en : Nat) (kd vr fi lf sg rt tg : Int32) (he : en ≤ 12) (d : Nat) (hd : d ≤ 12) (hpr : ∀ (at1 : Nat) (go : Int32) (sz : Nat), at1 ≤ en → Met l y_Sm_product (Cond.code y_Sm_product b_Sm_product 4 (some .int) :: gw) ({ frames := 2 + 3 * d + 1, cells := 0, slots := 0, locals := 43 + 70 * d + 22 }) (cP (dC, dI) [.ref h0, .int (nI (12 - d))] sz [(h0, .inr (4, [.ref sx, .ref sv, .int (nI en), .int (nI at1), .int go, .int kd, .int vr, .int fi, .int lf, .int sg, .int rt, .int tg])), (sx, .inl (cX, 12, .inl tx)), (sv, .inl (cV, 8, .inl va))] [(cX, .int), (cV, .int)] xT) (va_Qi (fun (r : Int32) (u : Nat × Int32) => (r, u) = prD tx va en d at1 go ∧ u.1 ≤ en) (fun (u : Nat × Int32) t => cB (dC, dI) (va_A [(h0, .inr (4, [.ref sx, .ref sv, .int (nI en), .int (nI at1), .int go, .int kd, .int vr, .int fi, .int lf, .int sg, .int rt, .int tg])), (sx, .inl (cX, 12, .inl tx)), (sv, .inl (cV, 8, .inl va))] sz) [(h0, .inr (4, [.ref sx, .ref sv, .int (nI en), .int (nI u.1), .int u.2, .int kd, .int vr, .int fi, .int lf, .int sg, .int rt, .int tg])), (sx, .inl (cX, 12, .inl tx)), (sv, .inl (cV, 8, .inl va))] [(cX, .int), (cV, .int)] t) (va_A [(h0, .inr (4, [.ref sx, .ref sv, .int (nI en), .int (nI at1), .int go, .int kd, .int vr, .int fi, .int lf, .int sg, .int rt, .int tg])), (sx, .inl (cX, 12, .inl tx)), (sv, .inl (cV, 8, .inl va))] sz)) 0 0 (va_A [(h0, .inr (4, [.ref sx, .ref sv, .int (nI en), .int (nI at1), .int go, .int kd, .int vr, .int fi, .int lf, .int sg, .int rt, .int tg])), (sx, .inl (cX, 12, .inl tx)), (sv, .inl (cV, 8, .inl va))] sz)) (q0 : PR) (hK0 : va_K (dC, dI) cls [(cX, .int), (cV, .int)] s) (hRf : 2 + 3 * d + 2 ≤ R.frames) (hRl : 43 + 70 * d + 45 ≤ R.locals) (hRc : cells ≤ R.cells) (hRs : slots ≤ R.slots)  (k_88 : ∀ (k : Nat), k ≤ 12 → ∀ (ls : Array Slot) (H : Heap) (locs : List Loc) (p9 : Int32) (a9 : Nat) (g9 : Int32), lv_has ls 6 [(2, .int p9), (0, .ref h0)] → va_P (dC, dI) cls [(h0, .inr (4, [.ref sx, .ref sv, .int (nI en), .int (nI a9), .int g9, .int kd, .int vr, .int fi, .int lf, .int sg, .int rt, .int tg])), (sx, .inl (cX, 12, .inl tx)), (sv, .inl (cV, 8, .inl va))] H → va_D A [(h0, .inr (4, [.ref sx, .ref sv, .int (nI en), .int (nI a9), .int g9, .int kd, .int vr, .int fi, .int lf, .int sg, .int rt, .int tg])), (sx, .inl (cX, 12, .inl tx)), (sv, .inl (cV, 8, .inl va))] → va_S A s.heap H locs → ((p9, a9, g9) = vlL (prD tx va en d) tx en 12 q0 ∧ a9 ≤ en) → W p l e R s m args below meth c H locs cells slots Q (F0 m 88 ls [])) : ∀ (j k : Nat), k + j = 12 → ∀ (ls : Array Slot) (H : Heap) (locs : List Loc) (p9 : Int32) (a9 : Nat) (g9 : Int32), lv_has ls 6 [(3, .int (nI k)), (2, .int p9), (0, .ref h0), (1, .int (nI (12 - d)))] → va_P (dC, dI) cls [(h0, .inr (4, [.ref sx, .ref sv, .int (nI en), .int (nI a9), .int g9, .int kd, .int vr, .int fi, .int lf, .int sg, .int rt, .int tg])), (sx, .inl (cX, 12, .inl tx)), (sv, .inl (cV, 8, .inl va))] H → va_D A [(h0, .inr (4, [.ref sx, .ref sv, .int (nI en), .int (nI a9), .int g9, .int kd, .int vr, .int fi, .int lf, .int sg, .int rt, .int tg])), (sx, .inl (cX, 12, .inl tx)), (sv, .inl (cV, 8, .inl va))] → va_S A s.heap H locs → (vlL (prD tx va en d) tx en 12 q0 = vlL (prD tx va en d) tx en (12 - k) (p9, a9, g9) ∧ a9 ≤ en) → W p l e R s m args below meth c H locs cells slots Q (F0 m 8 ls []) := by
  have F : CallFix p m c b_Sm_value 6 s args gw "LineDisk$Statement" := ⟨hx, hb, hml, hown, hts⟩
  intro j
  induction j with
  | zero =>
    intro k hk ls H locs p9 a9 g9 hl hP hD hS hf
    have hK := hK0
    have hkN : k = 12 := by omega
    refine lv_iload_n hx hb d_Sm_value_8 rfl (lv_at hl 0 rfl) ?_
    refine lv_bipush (v := 12) hx hb d_Sm_value_9 (by decide) ?_
    refine lv_icmp_ge (tgt := 88) hx hb d_Sm_value_11 (by decide) (fun _ => ?_) (fun h => absurd (by rw [hkN]; exact nI_le (a := 12) (b := 12) (Nat.le_refl _) (by decide)) h)
    exact k_88 k (by omega) ls _ _ p9 a9 g9 (lv_sub hl [1, 2] rfl) (hP.sub [0, 1, 2] rfl) (hD.sub [0, 1, 2] (by decide) rfl) hS (⟨by rw [hf.1, show 12 - k = 0 by omega]; rfl, hf.2⟩)
  | succ j ih =>
    intro k hk ls H locs p9 a9 g9 hl hP hD hS hf
    have hK := hK0
    have hkN : k < 12 := by omega
    obtain ⟨f9, hf9⟩ : ∃ f9, 12 - k = f9 + 1 := ⟨12 - k - 1, by omega⟩
    have ha9 : a9 ≤ en := hf.2
    refine lv_iload_n hx hb d_Sm_value_8 rfl (lv_at hl 0 rfl) ?_
    refine lv_bipush (v := 12) hx hb d_Sm_value_9 (by decide) ?_
    refine lv_icmp_ge (tgt := 88) hx hb d_Sm_value_11 (by decide) (fun h => absurd h (nI_ge (b := 12) hkN (by decide))) (fun _ => ?_)
    refine lv_aload_n hx hb d_Sm_value_14 rfl (lv_at hl 2 rfl) ?_
    refine go_i (wr := []) (tr := []) (rV (C := "LineDisk$Statement") (ci := 4) (q0 := 0) (b := h0) (n := 0) (As := []) (rest := []) F hkw (g_Sm_peek l dC dI h0 sx sv cX cV tx va en a9 g9 kd vr fi lf sg rt tg he (by omega) H.size) xT_bl (fun _ _ _ => trivial) w_268 w_270 ws_6 w_5 w_271 rfl rfl (by decide +kernel) ⟨Nat.le_trans (by show (0) + 1 ≤ 2 + 3 * d + 2; omega) hRf, Nat.le_trans (by show 8 + (1 + 11) + (0) ≤ 43 + 70 * d + 45; omega) hRl⟩ (hP.sub (ws' := [(h0, .inr (4, [.ref sx, .ref sv, .int (nI en), .int (nI a9), .int g9, .int kd, .int vr, .int fi, .int lf, .int sg, .int rt, .int tg])), (sx, .inl (cX, 12, .inl tx)), (sv, .inl (cV, 8, .inl va))]) [0, 1, 2] rfl) (hD.sub (ws' := [(h0, .inr (4, [.ref sx, .ref sv, .int (nI en), .int (nI a9), .int g9, .int kd, .int vr, .int fi, .int lf, .int sg, .int rt, .int tg])), (sx, .inl (cX, 12, .inl tx)), (sv, .inl (cV, 8, .inl va))]) [0, 1, 2] (by decide) rfl) (hK.sub (tys' := [(cX, .int), (cV, .int)]) [0, 1] rfl) rfl rfl rfl rfl hl.1 rfl (Nat.le_of_ble_eq_true rfl) d_Sm_value_15 ⟨hRc, hRs⟩) hP hD hK hS hA [0, 1, 2] [] [] rfl rfl (by decide) (by decide) rfl (fun r u H locs hw hP hD hK hS => ?_)
    have hP : va_P (dC, dI) cls [(h0, .inr (4, [.ref sx, .ref sv, .int (nI en), .int (nI a9), .int g9, .int kd, .int vr, .int fi, .int lf, .int sg, .int rt, .int tg])), (sx, .inl (cX, 12, .inl tx)), (sv, .inl (cV, 8, .inl va))] H := hP
    have hD : va_D A [(h0, .inr (4, [.ref sx, .ref sv, .int (nI en), .int (nI a9), .int g9, .int kd, .int vr, .int fi, .int lf, .int sg, .int rt, .int tg])), (sx, .inl (cX, 12, .inl tx)), (sv, .inl (cV, 8, .inl va))] := hD
    have hK : va_K (dC, dI) cls [(cX, .int), (cV, .int)] s := hK
    refine W.widen (k := cells) (n := slots) (Nat.le_refl _) (Nat.le_refl _) ?_
    subst hw
    refine lv_bipush (v := 43) hx hb d_Sm_value_18 (by decide) ?_
    refine lv_icmp_eq (tgt := 32) hx hb d_Sm_value_20 (by decide) (fun c20 => ?_) (fun c20 => ?_)
    · skip
      refine lv_aload_n hx hb d_Sm_value_32 rfl (lv_at hl 2 rfl) ?_
      refine go_i (wr := []) (tr := []) (rV (C := "LineDisk$Statement") (ci := 4) (q0 := 0) (b := h0) (n := 0) (As := []) (rest := []) F hkw (g_Sm_peek l dC dI h0 sx sv cX cV tx va en a9 g9 kd vr fi lf sg rt tg he (by omega) H.size) xT_bl (fun _ _ _ => trivial) w_268 w_270 ws_6 w_5 w_271 rfl rfl (by decide +kernel) ⟨Nat.le_trans (by show (0) + 1 ≤ 2 + 3 * d + 2; omega) hRf, Nat.le_trans (by show 8 + (1 + 11) + (0) ≤ 43 + 70 * d + 45; omega) hRl⟩ (hP.sub (ws' := [(h0, .inr (4, [.ref sx, .ref sv, .int (nI en), .int (nI a9), .int g9, .int kd, .int vr, .int fi, .int lf, .int sg, .int rt, .int tg])), (sx, .inl (cX, 12, .inl tx)), (sv, .inl (cV, 8, .inl va))]) [0, 1, 2] rfl) (hD.sub (ws' := [(h0, .inr (4, [.ref sx, .ref sv, .int (nI en), .int (nI a9), .int g9, .int kd, .int vr, .int fi, .int lf, .int sg, .int rt, .int tg])), (sx, .inl (cX, 12, .inl tx)), (sv, .inl (cV, 8, .inl va))]) [0, 1, 2] (by decide) rfl) (hK.sub (tys' := [(cX, .int), (cV, .int)]) [0, 1] rfl) rfl rfl rfl rfl hl.1 rfl (Nat.le_of_ble_eq_true rfl) d_Sm_value_33 ⟨hRc, hRs⟩) hP hD hK hS hA [0, 1, 2] [] [] rfl rfl (by decide) (by decide) rfl (fun r u H locs hw hP hD hK hS => ?_)
      have hP : va_P (dC, dI) cls [(h0, .inr (4, [.ref sx, .ref sv, .int (nI en), .int (nI a9), .int g9, .int kd, .int vr, .int fi, .int lf, .int sg, .int rt, .int tg])), (sx, .inl (cX, 12, .inl tx)), (sv, .inl (cV, 8, .inl va))] H := hP
      have hD : va_D A [(h0, .inr (4, [.ref sx, .ref sv, .int (nI en), .int (nI a9), .int g9, .int kd, .int vr, .int fi, .int lf, .int sg, .int rt, .int tg])), (sx, .inl (cX, 12, .inl tx)), (sv, .inl (cV, 8, .inl va))] := hD
      have hK : va_K (dC, dI) cls [(cX, .int), (cV, .int)] s := hK
      refine W.widen (k := cells) (n := slots) (Nat.le_refl _) (Nat.le_refl _) ?_
      subst hw
      refine lv_bipush (v := 43) hx hb d_Sm_value_36 (by decide) ?_
      refine lv_icmp_ne (tgt := 45) hx hb d_Sm_value_38 (by decide) (fun h => absurd (c20) h) (fun _ => ?_)
      refine lv_iconst (v := 1) hx hb d_Sm_value_41 (by decide) ?_
      refine lv_goto (tgt := 46) hx hb d_Sm_value_42 (by decide) ?_
      refine lv_istore hx hb d_Sm_value_46 hl (by decide) rfl (fun ls hl => ?_)
      have hl : lv_has ls 6 [(4, .int 1), (3, .int (nI k)), (2, .int p9), (0, .ref h0), (1, .int (nI (12 - d)))] := hl
      refine lv_aload_n hx hb d_Sm_value_48 rfl (lv_at hl 3 rfl) ?_
      refine lv_dup hx hb d_Sm_value_49 rfl ?_
      refine va_get (D := (dC, dI)) (ci := 4) (v := .int (nI a9)) (C := R_Sm) (T := F_Sm) (N := 12) hx hb hts in_Sm hown hK hP 0 rfl rfl 3 (by decide) (hts _ w_112) (fun _ h9 => h9) rfl d_Sm_value_50 ?_
      refine lv_iconst (v := 1) hx hb d_Sm_value_53 (by decide) ?_
      refine lv_iadd hx hb d_Sm_value_54 ?_
      refine tv (x2 := nI (a9 + 1)) (by exact (nI_succ a9).symm) ?_
      refine va_put (D := (dC, dI)) (ci := 4) (v := .int (nI (a9 + 1))) (ty := .int) (C := R_Sm) (T := F_Sm) (N := 12) hx hb hts in_Sm t_Sm t_Sm_ok n_Sm hown hK hP hD hS 0 rfl rfl 3 (by decide) (hts _ w_112) (fun _ h9 => h9) rfl (by decide +kernel) (rfl) (rfl) (Nat.le_of_ble_eq_true rfl) d_Sm_value_55 (fun H locs hP hD hS => ?_)
      have hP : va_P (dC, dI) cls [(h0, .inr (4, [.ref sx, .ref sv, .int (nI en), .int (nI (a9 + 1)), .int g9, .int kd, .int vr, .int fi, .int lf, .int sg, .int rt, .int tg])), (sx, .inl (cX, 12, .inl tx)), (sv, .inl (cV, 8, .inl va))] H := hP
      have hD : va_D A [(h0, .inr (4, [.ref sx, .ref sv, .int (nI en), .int (nI (a9 + 1)), .int g9, .int kd, .int vr, .int fi, .int lf, .int sg, .int rt, .int tg])), (sx, .inl (cX, 12, .inl tx)), (sv, .inl (cV, 8, .inl va))] := hD
      refine lv_aload_n hx hb d_Sm_value_58 rfl (lv_at hl 3 rfl) ?_
      refine lv_iload_n hx hb d_Sm_value_59 rfl (lv_at hl 4 rfl) ?_
      refine go_i (wr := []) (tr := []) (rV (C := "LineDisk$Statement") (ci := 4) (q0 := 0) (b := h0) (n := 1) (As := [.int (nI (12 - d))]) (rest := []) F hkw (hpr (a9 + 1) g9 H.size (by have := qk_lt c20 (by decide); omega)) xT_bl (fun _ _ _ => trivial) w_280 w_282 ws_9 w_5 w_283 rfl rfl (by decide +kernel) ⟨Nat.le_trans (by show (2 + 3 * d + 1) + 1 ≤ 2 + 3 * d + 2; omega) hRf, Nat.le_trans (by show 8 + (4 + 11) + (43 + 70 * d + 22) ≤ 43 + 70 * d + 45; omega) hRl⟩ (hP.sub (ws' := [(h0, .inr (4, [.ref sx, .ref sv, .int (nI en), .int (nI (a9 + 1)), .int g9, .int kd, .int vr, .int fi, .int lf, .int sg, .int rt, .int tg])), (sx, .inl (cX, 12, .inl tx)), (sv, .inl (cV, 8, .inl va))]) [0, 1, 2] rfl) (hD.sub (ws' := [(h0, .inr (4, [.ref sx, .ref sv, .int (nI en), .int (nI (a9 + 1)), .int g9, .int kd, .int vr, .int fi, .int lf, .int sg, .int rt, .int tg])), (sx, .inl (cX, 12, .inl tx)), (sv, .inl (cV, 8, .inl va))]) [0, 1, 2] (by decide) rfl) (hK.sub (tys' := [(cX, .int), (cV, .int)]) [0, 1] rfl) rfl rfl rfl rfl hl.1 rfl (Nat.le_of_ble_eq_true rfl) d_Sm_value_60 ⟨hRc, hRs⟩) hP hD hK hS hA [0, 1, 2] [] [] rfl rfl (by decide) (by decide) rfl (fun r u8 H locs hv8 hP hD hK hS => ?_)
      have hP : va_P (dC, dI) cls [(h0, .inr (4, [.ref sx, .ref sv, .int (nI en), .int (nI u8.1), .int u8.2, .int kd, .int vr, .int fi, .int lf, .int sg, .int rt, .int tg])), (sx, .inl (cX, 12, .inl tx)), (sv, .inl (cV, 8, .inl va))] H := hP
      have hD : va_D A [(h0, .inr (4, [.ref sx, .ref sv, .int (nI en), .int (nI u8.1), .int u8.2, .int kd, .int vr, .int fi, .int lf, .int sg, .int rt, .int tg])), (sx, .inl (cX, 12, .inl tx)), (sv, .inl (cV, 8, .inl va))] := hD
      have hK : va_K (dC, dI) cls [(cX, .int), (cV, .int)] s := hK
      refine W.widen (k := cells) (n := slots) (Nat.le_refl _) (Nat.le_refl _) ?_
      refine lv_istore hx hb d_Sm_value_63 hl (by decide) rfl (fun ls hl => ?_)
      have hl : lv_has ls 6 [(5, .int r), (4, .int 1), (3, .int (nI k)), (2, .int p9), (0, .ref h0), (1, .int (nI (12 - d)))] := hl
      refine lv_iload hx hb d_Sm_value_65 (lv_at hl 1 rfl) ?_
      refine lv_if_eq (tgt := 77) hx hb d_Sm_value_67 (by decide) (fun h => absurd h (by decide)) (fun _ => ?_)
      refine lv_iload_n hx hb d_Sm_value_70 rfl (lv_at hl 3 rfl) ?_
      refine lv_iload hx hb d_Sm_value_71 (lv_at hl 0 rfl) ?_
      refine lv_iadd hx hb d_Sm_value_73 ?_
      refine lv_goto (tgt := 81) hx hb d_Sm_value_74 (by decide) ?_
      refine lv_istore_n (i := 2) hx hb d_Sm_value_81 rfl hl (by decide) rfl (fun ls hl => ?_)
      have hl : lv_has ls 6 [(2, .int (p9 + r)), (5, .int r), (4, .int 1), (3, .int (nI k)), (0, .ref h0), (1, .int (nI (12 - d)))] := hl
      refine lv_iinc (k := 3) (v := nI (k + 1)) hx hb d_Sm_value_82 hl rfl (by rw [lit1]; exact (nI_succ k).symm) (by decide) rfl (fun ls hl => ?_)
      have hl : lv_has ls 6 [(3, .int (nI (k + 1))), (2, .int (p9 + r)), (5, .int r), (4, .int 1), (0, .ref h0), (1, .int (nI (12 - d)))] := hl
      refine lv_goto (tgt := 8) hx hb d_Sm_value_85 (by decide) ?_
      exact ih (k + 1) (by omega) ls _ _ (p9 + r) u8.1 u8.2 (lv_sub hl [0, 1, 4, 5] rfl) (hP.sub [0, 1, 2] rfl) (hD.sub [0, 1, 2] (by decide) rfl) hS (⟨by rw [hf.1, hf9, show 12 - (k + 1) = f9 by omega]; show (if pk tx en a9 = 43 then _ else if ¬ pk tx en a9 = 45 then (p9, a9, g9) else _) = _; rw [if_pos c20, ← hv8.1], hv8.2⟩)
    · skip
      refine lv_aload_n hx hb d_Sm_value_23 rfl (lv_at hl 2 rfl) ?_
      refine go_i (wr := []) (tr := []) (rV (C := "LineDisk$Statement") (ci := 4) (q0 := 0) (b := h0) (n := 0) (As := []) (rest := []) F hkw (g_Sm_peek l dC dI h0 sx sv cX cV tx va en a9 g9 kd vr fi lf sg rt tg he (by omega) H.size) xT_bl (fun _ _ _ => trivial) w_268 w_270 ws_6 w_5 w_271 rfl rfl (by decide +kernel) ⟨Nat.le_trans (by show (0) + 1 ≤ 2 + 3 * d + 2; omega) hRf, Nat.le_trans (by show 8 + (1 + 11) + (0) ≤ 43 + 70 * d + 45; omega) hRl⟩ (hP.sub (ws' := [(h0, .inr (4, [.ref sx, .ref sv, .int (nI en), .int (nI a9), .int g9, .int kd, .int vr, .int fi, .int lf, .int sg, .int rt, .int tg])), (sx, .inl (cX, 12, .inl tx)), (sv, .inl (cV, 8, .inl va))]) [0, 1, 2] rfl) (hD.sub (ws' := [(h0, .inr (4, [.ref sx, .ref sv, .int (nI en), .int (nI a9), .int g9, .int kd, .int vr, .int fi, .int lf, .int sg, .int rt, .int tg])), (sx, .inl (cX, 12, .inl tx)), (sv, .inl (cV, 8, .inl va))]) [0, 1, 2] (by decide) rfl) (hK.sub (tys' := [(cX, .int), (cV, .int)]) [0, 1] rfl) rfl rfl rfl rfl hl.1 rfl (Nat.le_of_ble_eq_true rfl) d_Sm_value_24 ⟨hRc, hRs⟩) hP hD hK hS hA [0, 1, 2] [] [] rfl rfl (by decide) (by decide) rfl (fun r u H locs hw hP hD hK hS => ?_)
      have hP : va_P (dC, dI) cls [(h0, .inr (4, [.ref sx, .ref sv, .int (nI en), .int (nI a9), .int g9, .int kd, .int vr, .int fi, .int lf, .int sg, .int rt, .int tg])), (sx, .inl (cX, 12, .inl tx)), (sv, .inl (cV, 8, .inl va))] H := hP
      have hD : va_D A [(h0, .inr (4, [.ref sx, .ref sv, .int (nI en), .int (nI a9), .int g9, .int kd, .int vr, .int fi, .int lf, .int sg, .int rt, .int tg])), (sx, .inl (cX, 12, .inl tx)), (sv, .inl (cV, 8, .inl va))] := hD
      have hK : va_K (dC, dI) cls [(cX, .int), (cV, .int)] s := hK
      refine W.widen (k := cells) (n := slots) (Nat.le_refl _) (Nat.le_refl _) ?_
      subst hw
      refine lv_bipush (v := 45) hx hb d_Sm_value_27 (by decide) ?_
      refine lv_icmp_ne (tgt := 88) hx hb d_Sm_value_29 (by decide) (fun c29 => ?_) (fun c29 => ?_)
      · skip
        exact k_88 k (by omega) ls _ _ p9 a9 g9 (lv_sub hl [1, 2] rfl) (hP.sub [0, 1, 2] rfl) (hD.sub [0, 1, 2] (by decide) rfl) hS (⟨by rw [hf.1, hf9]; symm; show (if pk tx en a9 = 43 then _ else if ¬ pk tx en a9 = 45 then (p9, a9, g9) else _) = _; rw [if_neg c20, if_pos c29], hf.2⟩)
      · skip
        refine lv_aload_n hx hb d_Sm_value_32 rfl (lv_at hl 2 rfl) ?_
        refine go_i (wr := []) (tr := []) (rV (C := "LineDisk$Statement") (ci := 4) (q0 := 0) (b := h0) (n := 0) (As := []) (rest := []) F hkw (g_Sm_peek l dC dI h0 sx sv cX cV tx va en a9 g9 kd vr fi lf sg rt tg he (by omega) H.size) xT_bl (fun _ _ _ => trivial) w_268 w_270 ws_6 w_5 w_271 rfl rfl (by decide +kernel) ⟨Nat.le_trans (by show (0) + 1 ≤ 2 + 3 * d + 2; omega) hRf, Nat.le_trans (by show 8 + (1 + 11) + (0) ≤ 43 + 70 * d + 45; omega) hRl⟩ (hP.sub (ws' := [(h0, .inr (4, [.ref sx, .ref sv, .int (nI en), .int (nI a9), .int g9, .int kd, .int vr, .int fi, .int lf, .int sg, .int rt, .int tg])), (sx, .inl (cX, 12, .inl tx)), (sv, .inl (cV, 8, .inl va))]) [0, 1, 2] rfl) (hD.sub (ws' := [(h0, .inr (4, [.ref sx, .ref sv, .int (nI en), .int (nI a9), .int g9, .int kd, .int vr, .int fi, .int lf, .int sg, .int rt, .int tg])), (sx, .inl (cX, 12, .inl tx)), (sv, .inl (cV, 8, .inl va))]) [0, 1, 2] (by decide) rfl) (hK.sub (tys' := [(cX, .int), (cV, .int)]) [0, 1] rfl) rfl rfl rfl rfl hl.1 rfl (Nat.le_of_ble_eq_true rfl) d_Sm_value_33 ⟨hRc, hRs⟩) hP hD hK hS hA [0, 1, 2] [] [] rfl rfl (by decide) (by decide) rfl (fun r u H locs hw hP hD hK hS => ?_)
        have hP : va_P (dC, dI) cls [(h0, .inr (4, [.ref sx, .ref sv, .int (nI en), .int (nI a9), .int g9, .int kd, .int vr, .int fi, .int lf, .int sg, .int rt, .int tg])), (sx, .inl (cX, 12, .inl tx)), (sv, .inl (cV, 8, .inl va))] H := hP
        have hD : va_D A [(h0, .inr (4, [.ref sx, .ref sv, .int (nI en), .int (nI a9), .int g9, .int kd, .int vr, .int fi, .int lf, .int sg, .int rt, .int tg])), (sx, .inl (cX, 12, .inl tx)), (sv, .inl (cV, 8, .inl va))] := hD
        have hK : va_K (dC, dI) cls [(cX, .int), (cV, .int)] s := hK
        refine W.widen (k := cells) (n := slots) (Nat.le_refl _) (Nat.le_refl _) ?_
        subst hw
        refine lv_bipush (v := 43) hx hb d_Sm_value_36 (by decide) ?_
        refine lv_icmp_ne (tgt := 45) hx hb d_Sm_value_38 (by decide) (fun _ => ?_) (fun h => absurd h (c20))
        refine lv_iconst (v := 0) hx hb d_Sm_value_45 (by decide) ?_
        refine lv_istore hx hb d_Sm_value_46 hl (by decide) rfl (fun ls hl => ?_)
        have hl : lv_has ls 6 [(4, .int 0), (3, .int (nI k)), (2, .int p9), (0, .ref h0), (1, .int (nI (12 - d)))] := hl
        refine lv_aload_n hx hb d_Sm_value_48 rfl (lv_at hl 3 rfl) ?_
        refine lv_dup hx hb d_Sm_value_49 rfl ?_
        refine va_get (D := (dC, dI)) (ci := 4) (v := .int (nI a9)) (C := R_Sm) (T := F_Sm) (N := 12) hx hb hts in_Sm hown hK hP 0 rfl rfl 3 (by decide) (hts _ w_112) (fun _ h9 => h9) rfl d_Sm_value_50 ?_
        refine lv_iconst (v := 1) hx hb d_Sm_value_53 (by decide) ?_
        refine lv_iadd hx hb d_Sm_value_54 ?_
        refine tv (x2 := nI (a9 + 1)) (by exact (nI_succ a9).symm) ?_
        refine va_put (D := (dC, dI)) (ci := 4) (v := .int (nI (a9 + 1))) (ty := .int) (C := R_Sm) (T := F_Sm) (N := 12) hx hb hts in_Sm t_Sm t_Sm_ok n_Sm hown hK hP hD hS 0 rfl rfl 3 (by decide) (hts _ w_112) (fun _ h9 => h9) rfl (by decide +kernel) (rfl) (rfl) (Nat.le_of_ble_eq_true rfl) d_Sm_value_55 (fun H locs hP hD hS => ?_)
        have hP : va_P (dC, dI) cls [(h0, .inr (4, [.ref sx, .ref sv, .int (nI en), .int (nI (a9 + 1)), .int g9, .int kd, .int vr, .int fi, .int lf, .int sg, .int rt, .int tg])), (sx, .inl (cX, 12, .inl tx)), (sv, .inl (cV, 8, .inl va))] H := hP
        have hD : va_D A [(h0, .inr (4, [.ref sx, .ref sv, .int (nI en), .int (nI (a9 + 1)), .int g9, .int kd, .int vr, .int fi, .int lf, .int sg, .int rt, .int tg])), (sx, .inl (cX, 12, .inl tx)), (sv, .inl (cV, 8, .inl va))] := hD
        refine lv_aload_n hx hb d_Sm_value_58 rfl (lv_at hl 3 rfl) ?_
        refine lv_iload_n hx hb d_Sm_value_59 rfl (lv_at hl 4 rfl) ?_
        refine go_i (wr := []) (tr := []) (rV (C := "LineDisk$Statement") (ci := 4) (q0 := 0) (b := h0) (n := 1) (As := [.int (nI (12 - d))]) (rest := []) F hkw (hpr (a9 + 1) g9 H.size (by have := qk_lt c29 (by decide); omega)) xT_bl (fun _ _ _ => trivial) w_280 w_282 ws_9 w_5 w_283 rfl rfl (by decide +kernel) ⟨Nat.le_trans (by show (2 + 3 * d + 1) + 1 ≤ 2 + 3 * d + 2; omega) hRf, Nat.le_trans (by show 8 + (4 + 11) + (43 + 70 * d + 22) ≤ 43 + 70 * d + 45; omega) hRl⟩ (hP.sub (ws' := [(h0, .inr (4, [.ref sx, .ref sv, .int (nI en), .int (nI (a9 + 1)), .int g9, .int kd, .int vr, .int fi, .int lf, .int sg, .int rt, .int tg])), (sx, .inl (cX, 12, .inl tx)), (sv, .inl (cV, 8, .inl va))]) [0, 1, 2] rfl) (hD.sub (ws' := [(h0, .inr (4, [.ref sx, .ref sv, .int (nI en), .int (nI (a9 + 1)), .int g9, .int kd, .int vr, .int fi, .int lf, .int sg, .int rt, .int tg])), (sx, .inl (cX, 12, .inl tx)), (sv, .inl (cV, 8, .inl va))]) [0, 1, 2] (by decide) rfl) (hK.sub (tys' := [(cX, .int), (cV, .int)]) [0, 1] rfl) rfl rfl rfl rfl hl.1 rfl (Nat.le_of_ble_eq_true rfl) d_Sm_value_60 ⟨hRc, hRs⟩) hP hD hK hS hA [0, 1, 2] [] [] rfl rfl (by decide) (by decide) rfl (fun r u8 H locs hv8 hP hD hK hS => ?_)
        have hP : va_P (dC, dI) cls [(h0, .inr (4, [.ref sx, .ref sv, .int (nI en), .int (nI u8.1), .int u8.2, .int kd, .int vr, .int fi, .int lf, .int sg, .int rt, .int tg])), (sx, .inl (cX, 12, .inl tx)), (sv, .inl (cV, 8, .inl va))] H := hP
        have hD : va_D A [(h0, .inr (4, [.ref sx, .ref sv, .int (nI en), .int (nI u8.1), .int u8.2, .int kd, .int vr, .int fi, .int lf, .int sg, .int rt, .int tg])), (sx, .inl (cX, 12, .inl tx)), (sv, .inl (cV, 8, .inl va))] := hD
        have hK : va_K (dC, dI) cls [(cX, .int), (cV, .int)] s := hK
        refine W.widen (k := cells) (n := slots) (Nat.le_refl _) (Nat.le_refl _) ?_
        refine lv_istore hx hb d_Sm_value_63 hl (by decide) rfl (fun ls hl => ?_)
        have hl : lv_has ls 6 [(5, .int r), (4, .int 0), (3, .int (nI k)), (2, .int p9), (0, .ref h0), (1, .int (nI (12 - d)))] := hl
        refine lv_iload hx hb d_Sm_value_65 (lv_at hl 1 rfl) ?_
        refine lv_if_eq (tgt := 77) hx hb d_Sm_value_67 (by decide) (fun _ => ?_) (fun h => absurd (by decide) h)
        refine lv_iload_n hx hb d_Sm_value_77 rfl (lv_at hl 3 rfl) ?_
        refine lv_iload hx hb d_Sm_value_78 (lv_at hl 0 rfl) ?_
        refine lv_isub hx hb d_Sm_value_80 ?_
        refine lv_istore_n (i := 2) hx hb d_Sm_value_81 rfl hl (by decide) rfl (fun ls hl => ?_)
        have hl : lv_has ls 6 [(2, .int (p9 - r)), (5, .int r), (4, .int 0), (3, .int (nI k)), (0, .ref h0), (1, .int (nI (12 - d)))] := hl
        refine lv_iinc (k := 3) (v := nI (k + 1)) hx hb d_Sm_value_82 hl rfl (by rw [lit1]; exact (nI_succ k).symm) (by decide) rfl (fun ls hl => ?_)
        have hl : lv_has ls 6 [(3, .int (nI (k + 1))), (2, .int (p9 - r)), (5, .int r), (4, .int 0), (0, .ref h0), (1, .int (nI (12 - d)))] := hl
        refine lv_goto (tgt := 8) hx hb d_Sm_value_85 (by decide) ?_
        exact ih (k + 1) (by omega) ls _ _ (p9 - r) u8.1 u8.2 (lv_sub hl [0, 1, 4, 5] rfl) (hP.sub [0, 1, 2] rfl) (hD.sub [0, 1, 2] (by decide) rfl) hS (⟨by rw [hf.1, hf9, show 12 - (k + 1) = f9 by omega]; show (if pk tx en a9 = 43 then _ else if ¬ pk tx en a9 = 45 then (p9, a9, g9) else _) = _; rw [if_neg c20, if_neg (fun h => h c29), ← hv8.1], hv8.2⟩)
set_option maxHeartbeats 4000000 in
set_option maxRecDepth 100000 in
theorem g_Sm_value (l : Launch) (dC : Nat → ClassId) (dI : Nat → Nat → Nat) (h0 sx sv : Nat) (cX cV : ClassId) (tx va : Nat → Int32) (en : Nat) (kd vr fi lf sg rt tg : Int32) (he : en ≤ 12) (d : Nat) (hd : d ≤ 12) (hpr : ∀ (at1 : Nat) (go : Int32) (sz : Nat), at1 ≤ en → Met l y_Sm_product (Cond.code y_Sm_product b_Sm_product 4 (some .int) :: gw) ({ frames := 2 + 3 * d + 1, cells := 0, slots := 0, locals := 43 + 70 * d + 22 }) (cP (dC, dI) [.ref h0, .int (nI (12 - d))] sz [(h0, .inr (4, [.ref sx, .ref sv, .int (nI en), .int (nI at1), .int go, .int kd, .int vr, .int fi, .int lf, .int sg, .int rt, .int tg])), (sx, .inl (cX, 12, .inl tx)), (sv, .inl (cV, 8, .inl va))] [(cX, .int), (cV, .int)] xT) (va_Qi (fun (r : Int32) (u : Nat × Int32) => (r, u) = prD tx va en d at1 go ∧ u.1 ≤ en) (fun (u : Nat × Int32) t => cB (dC, dI) (va_A [(h0, .inr (4, [.ref sx, .ref sv, .int (nI en), .int (nI at1), .int go, .int kd, .int vr, .int fi, .int lf, .int sg, .int rt, .int tg])), (sx, .inl (cX, 12, .inl tx)), (sv, .inl (cV, 8, .inl va))] sz) [(h0, .inr (4, [.ref sx, .ref sv, .int (nI en), .int (nI u.1), .int u.2, .int kd, .int vr, .int fi, .int lf, .int sg, .int rt, .int tg])), (sx, .inl (cX, 12, .inl tx)), (sv, .inl (cV, 8, .inl va))] [(cX, .int), (cV, .int)] t) (va_A [(h0, .inr (4, [.ref sx, .ref sv, .int (nI en), .int (nI at1), .int go, .int kd, .int vr, .int fi, .int lf, .int sg, .int rt, .int tg])), (sx, .inl (cX, 12, .inl tx)), (sv, .inl (cV, 8, .inl va))] sz)) 0 0 (va_A [(h0, .inr (4, [.ref sx, .ref sv, .int (nI en), .int (nI at1), .int go, .int kd, .int vr, .int fi, .int lf, .int sg, .int rt, .int tg])), (sx, .inl (cX, 12, .inl tx)), (sv, .inl (cV, 8, .inl va))] sz)) (at1 : Nat) (go : Int32) (ha : at1 ≤ en) (sz : Nat) : Met l y_Sm_value (Cond.code y_Sm_value b_Sm_value 6 (some .int) :: gw) ({ frames := 2 + 3 * d + 2, cells := 0, slots := 0, locals := 43 + 70 * d + 45 }) (cP (dC, dI) [.ref h0, .int (nI (12 - d))] sz [(h0, .inr (4, [.ref sx, .ref sv, .int (nI en), .int (nI at1), .int go, .int kd, .int vr, .int fi, .int lf, .int sg, .int rt, .int tg])), (sx, .inl (cX, 12, .inl tx)), (sv, .inl (cV, 8, .inl va))] [(cX, .int), (cV, .int)] xT) (va_Qi (fun (r : Int32) (u : Nat × Int32) => (r, u) = vlD tx va en d at1 go ∧ u.1 ≤ en) (fun (u : Nat × Int32) t => cB (dC, dI) (va_A [(h0, .inr (4, [.ref sx, .ref sv, .int (nI en), .int (nI at1), .int go, .int kd, .int vr, .int fi, .int lf, .int sg, .int rt, .int tg])), (sx, .inl (cX, 12, .inl tx)), (sv, .inl (cV, 8, .inl va))] sz) [(h0, .inr (4, [.ref sx, .ref sv, .int (nI en), .int (nI u.1), .int u.2, .int kd, .int vr, .int fi, .int lf, .int sg, .int rt, .int tg])), (sx, .inl (cX, 12, .inl tx)), (sv, .inl (cV, 8, .inl va))] [(cX, .int), (cV, .int)] t) (va_A [(h0, .inr (4, [.ref sx, .ref sv, .int (nI en), .int (nI at1), .int go, .int kd, .int vr, .int fi, .int lf, .int sg, .int rt, .int tg])), (sx, .inl (cX, 12, .inl tx)), (sv, .inl (cV, 8, .inl va))] sz)) 0 0 (va_A [(h0, .inr (4, [.ref sx, .ref sv, .int (nI en), .int (nI at1), .int go, .int kd, .int vr, .int fi, .int lf, .int sg, .int rt, .int tg])), (sx, .inl (cX, 12, .inl tx)), (sv, .inl (cV, 8, .inl va))] sz) := by
  refine Met.ofW (cc := b_Sm_value) (maxL := 6) (ret := (some .int)) (by decide) rfl ?_
  intro p e s m args below meth c s₁ B hml hv
  obtain ⟨rfl, hsz, hP, hK, hD0, hkw, hX⟩ := hv
  have hx := B.exec
  have hb := B.bytes
  have hr := B.returns
  have hts := fun w hw => atoms_spec (ws := Cond.code y_Sm_value b_Sm_value 6 (some .int) :: gw) B.pre w (List.mem_cons_of_mem _ hw)
  have hown : s.vm.findClass "LineDisk$Statement" = some m.cls := findClass_of_methodNamed B.named
  have hlocks := B.notSynchronized
  have hin := (name_of_methodNamed B.named B.method).1
  subst hsz
  have hD := hD0.self (sz := s.heap.size)
  generalize hAe : va_A [(h0, .inr (4, [.ref sx, .ref sv, .int (nI en), .int (nI at1), .int go, .int kd, .int vr, .int fi, .int lf, .int sg, .int rt, .int tg])), (sx, .inl (cX, 12, .inl tx)), (sv, .inl (cV, 8, .inl va))] s.heap.size = A at hD ⊢
  have hA : ∀ q : Nat, s.heap.size ≤ q → A q := fun q h => by rw [← hAe]; exact Or.inr h
  have hS : va_S A s.heap s.heap [] := va_S.rf
  have hl := lv_entry ([.ref h0, .int (nI (12 - d))]) (n := 6) (Nat.le_of_ble_eq_true rfl)
  rw [lg_entry_eq]
  generalize (lg_sl ([.ref h0, .int (nI (12 - d))]) ++ List.replicate (6 - (lg_sl ([.ref h0, .int (nI (12 - d))])).length) Slot.unset).toArray = ls at hl ⊢
  have hl : lv_has ls 6 [(0, .ref h0), (1, .int (nI (12 - d)))] := hl
  have F : CallFix p m c b_Sm_value 6 s ([.ref h0, .int (nI (12 - d))]).toArray gw "LineDisk$Statement" := ⟨hx, hb, hml, hown, hts⟩
  have hRf : 2 + 3 * d + 2 ≤ (headSpec (Cond.code y_Sm_value b_Sm_value 6 (some .int) :: gw) { frames := 2 + 3 * d + 2, cells := 0, slots := 0, locals := 43 + 70 * d + 45 }).room.frames := Nat.le_refl _
  have hRl : 43 + 70 * d + 45 ≤ (headSpec (Cond.code y_Sm_value b_Sm_value 6 (some .int) :: gw) { frames := 2 + 3 * d + 2, cells := 0, slots := 0, locals := 43 + 70 * d + 45 }).room.locals := Nat.le_refl _
  refine lv_aload_n hx hb d_Sm_value_0 rfl (lv_at hl 0 rfl) ?_
  refine lv_iload_n hx hb d_Sm_value_1 rfl (lv_at hl 1 rfl) ?_
  refine go_i (wr := []) (tr := []) (rV (C := "LineDisk$Statement") (ci := 4) (q0 := 0) (b := h0) (n := 1) (As := [.int (nI (12 - d))]) (rest := []) F hkw (hpr at1 go s.heap.size ha) xT_bl (fun _ _ _ => trivial) w_280 w_282 ws_9 w_5 w_283 rfl rfl (by decide +kernel) ⟨Nat.le_trans (by show (2 + 3 * d + 1) + 1 ≤ 2 + 3 * d + 2; omega) hRf, Nat.le_trans (by show 8 + (4 + 11) + (43 + 70 * d + 22) ≤ 43 + 70 * d + 45; omega) hRl⟩ (hP.sub (ws' := [(h0, .inr (4, [.ref sx, .ref sv, .int (nI en), .int (nI at1), .int go, .int kd, .int vr, .int fi, .int lf, .int sg, .int rt, .int tg])), (sx, .inl (cX, 12, .inl tx)), (sv, .inl (cV, 8, .inl va))]) [0, 1, 2] rfl) (hD.sub (ws' := [(h0, .inr (4, [.ref sx, .ref sv, .int (nI en), .int (nI at1), .int go, .int kd, .int vr, .int fi, .int lf, .int sg, .int rt, .int tg])), (sx, .inl (cX, 12, .inl tx)), (sv, .inl (cV, 8, .inl va))]) [0, 1, 2] (by decide) rfl) (hK.sub (tys' := [(cX, .int), (cV, .int)]) [0, 1] rfl) rfl rfl rfl rfl hl.1 rfl (Nat.le_of_ble_eq_true rfl) d_Sm_value_2 ⟨Nat.le_refl _, Nat.le_refl _⟩) hP hD hK hS hA [0, 1, 2] [] [] rfl rfl (by decide) (by decide) rfl (fun r u8 H locs hv8 hP hD hK hS => ?_)
  have hP : va_P (dC, dI) cls [(h0, .inr (4, [.ref sx, .ref sv, .int (nI en), .int (nI u8.1), .int u8.2, .int kd, .int vr, .int fi, .int lf, .int sg, .int rt, .int tg])), (sx, .inl (cX, 12, .inl tx)), (sv, .inl (cV, 8, .inl va))] H := hP
  have hD : va_D A [(h0, .inr (4, [.ref sx, .ref sv, .int (nI en), .int (nI u8.1), .int u8.2, .int kd, .int vr, .int fi, .int lf, .int sg, .int rt, .int tg])), (sx, .inl (cX, 12, .inl tx)), (sv, .inl (cV, 8, .inl va))] := hD
  have hK : va_K (dC, dI) cls [(cX, .int), (cV, .int)] s := hK
  refine W.widen (k := 0) (n := 0) (by omega) (by omega) ?_
  refine lv_istore_n (i := 2) hx hb d_Sm_value_5 rfl hl (by decide) rfl (fun ls hl => ?_)
  have hl : lv_has ls 6 [(2, .int r), (0, .ref h0), (1, .int (nI (12 - d)))] := hl
  refine lv_iconst (v := 0) hx hb d_Sm_value_6 (by decide) ?_
  refine lv_istore_n (i := 3) hx hb d_Sm_value_7 rfl hl (by decide) rfl (fun ls hl => ?_)
  have hl : lv_has ls 6 [(3, .int 0), (2, .int r), (0, .ref h0), (1, .int (nI (12 - d)))] := hl
  refine lp_Sm_value (l := l) hx hb hml hts hown hkw hA h0 sx sv cX cV tx va en kd vr fi lf sg rt tg he d hd hpr (r, u8) hK hRf hRl (Nat.le_refl _) (Nat.le_refl _) (fun k _ ls H locs p9 a9 g9 hl hP hD hS hf => ?_) 12 0 (by decide) ls _ _ r u8.1 u8.2 (lv_sub hl [0, 1, 2, 3] rfl) hP hD hS ⟨rfl, hv8.2⟩
  refine lv_iload_n hx hb d_Sm_value_88 rfl (lv_at hl 0 rfl) ?_
  refine W.widen (k := 0) (n := 0) (Nat.le_refl _) (Nat.le_refl _) ?_
  exact W.iret (v := p9) hx hb hr (fun t ht hW => ⟨⟨p9, (a9, g9), rfl, ⟨by rw [vlD_eq, ← hv8.1]; exact hf.1, hf.2⟩, cB.of (hP.sub [0, 1, 2] rfl) (hD.sub [0, 1, 2] (by decide) rfl) (hK.sub [0, 1] rfl) ht hW⟩, hS.F ht⟩) hS.2.2 d_Sm_value_89
theorem g_Sm_rec (l : Launch) (dC : Nat → ClassId) (dI : Nat → Nat → Nat) (h0 sx sv : Nat) (cX cV : ClassId) (tx va : Nat → Int32) (en : Nat) (kd vr fi lf sg rt tg : Int32) (he : en ≤ 12) : ∀ d, d ≤ 12 → (∀ (at1 : Nat) (go : Int32) (sz : Nat), at1 ≤ en → Met l y_Sm_value (Cond.code y_Sm_value b_Sm_value 6 (some .int) :: gw) ({ frames := 2 + 3 * d + 2, cells := 0, slots := 0, locals := 43 + 70 * d + 45 }) (cP (dC, dI) [.ref h0, .int (nI (12 - d))] sz [(h0, .inr (4, [.ref sx, .ref sv, .int (nI en), .int (nI at1), .int go, .int kd, .int vr, .int fi, .int lf, .int sg, .int rt, .int tg])), (sx, .inl (cX, 12, .inl tx)), (sv, .inl (cV, 8, .inl va))] [(cX, .int), (cV, .int)] xT) (va_Qi (fun (r : Int32) (u : Nat × Int32) => (r, u) = vlD tx va en d at1 go ∧ u.1 ≤ en) (fun (u : Nat × Int32) t => cB (dC, dI) (va_A [(h0, .inr (4, [.ref sx, .ref sv, .int (nI en), .int (nI at1), .int go, .int kd, .int vr, .int fi, .int lf, .int sg, .int rt, .int tg])), (sx, .inl (cX, 12, .inl tx)), (sv, .inl (cV, 8, .inl va))] sz) [(h0, .inr (4, [.ref sx, .ref sv, .int (nI en), .int (nI u.1), .int u.2, .int kd, .int vr, .int fi, .int lf, .int sg, .int rt, .int tg])), (sx, .inl (cX, 12, .inl tx)), (sv, .inl (cV, 8, .inl va))] [(cX, .int), (cV, .int)] t) (va_A [(h0, .inr (4, [.ref sx, .ref sv, .int (nI en), .int (nI at1), .int go, .int kd, .int vr, .int fi, .int lf, .int sg, .int rt, .int tg])), (sx, .inl (cX, 12, .inl tx)), (sv, .inl (cV, 8, .inl va))] sz)) 0 0 (va_A [(h0, .inr (4, [.ref sx, .ref sv, .int (nI en), .int (nI at1), .int go, .int kd, .int vr, .int fi, .int lf, .int sg, .int rt, .int tg])), (sx, .inl (cX, 12, .inl tx)), (sv, .inl (cV, 8, .inl va))] sz))
  | 0, _ => g_Sm_value l dC dI h0 sx sv cX cV tx va en kd vr fi lf sg rt tg he 0 (by decide) (fun at1 go sz ha => g_Sm_product l dC dI h0 sx sv cX cV tx va en kd vr fi lf sg rt tg he 0 (by decide) (fun at1 go sz ha => g_Sm_piece0 l dC dI h0 sx sv cX cV tx va en kd vr fi lf sg rt tg he at1 go ha sz) at1 go ha sz) |> fun h at1 go sz ha => h at1 go ha sz
  | d + 1, hd => fun at1 go sz ha => g_Sm_value l dC dI h0 sx sv cX cV tx va en kd vr fi lf sg rt tg he (d + 1) hd (fun at1 go sz ha => g_Sm_product l dC dI h0 sx sv cX cV tx va en kd vr fi lf sg rt tg he (d + 1) hd (fun at1 go sz ha => g_Sm_pieceS l dC dI h0 sx sv cX cV tx va en kd vr fi lf sg rt tg he d hd (g_Sm_rec l dC dI h0 sx sv cX cV tx va en kd vr fi lf sg rt tg he d (by omega)) at1 go ha sz) at1 go ha sz) at1 go ha sz
