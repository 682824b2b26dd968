/-! reading a whole statement -/
theorem x2_same {r1 n1 r2 n2 : Nat} {f1 f2 : Nat → Int32} {ws : va_W} {s : State} (h : x2 r1 n1 f1 r2 n2 f2 ws s) : ∀ U : State, U.heap = s.heap → s.WarmedH U.vm → x2 r1 n1 f1 r2 n2 f2 ws U :=
  fun U hU hW => ⟨⟨by rw [hU]; exact va_X.moved hW.alike h.1.1, by rw [hU]; exact h.1.2.1, by rw [hU]; exact h.1.2.2⟩, by rw [hU]; exact va_X.moved hW.alike h.2.1, by rw [hU]; exact h.2.2.1, by rw [hU]; exact h.2.2.2⟩
abbrev RU : Type := Int32 × Int32 × Int32 × Int32 × Int32 × Int32 × Nat × Int32
/-- what a statement's reading leaves: variable, file, left, sign, right, target; at; good -/
def rdF (V : Nat → Int32 → PR) (T : Nat → Int32) (en : Nat) (c vr fi lf sg rt tg : Int32) (a : Nat) (g : Int32) : RU :=
  if c = 61 then
    let v := variableF T en a g
    let e := expF T en 61 v.2.1 v.2.2
    let w := V e.1 e.2
    (v.1, fi, w.1, sg, rt, tg, w.2.1, w.2.2)
  else if c = 69 then (vr, fi, lf, sg, rt, tg, a, g)
  else if c = 71 then
    let n := lnoF T en a g
    (vr, fi, lf, sg, rt, n.1, n.2.1, n.2.2)
  else if c = 73 then
    let w := V a g
    let y := signF T en w.2.1 w.2.2
    let z := V y.2.1 y.2.2
    let e := expF T en 71 z.2.1 z.2.2
    let n := lnoF T en e.1 e.2
    (vr, fi, w.1, y.1, z.1, n.1, n.2.1, n.2.2)
  else if c = 80 then
    let w := V a g
    (vr, fi, w.1, sg, rt, tg, w.2.1, w.2.2)
  else if c = 82 then
    let f := fileDigitF T en a g
    let e := expF T en 44 f.2.1 f.2.2
    let w := V e.1 e.2
    let e2 := expF T en 44 w.2.1 w.2.2
    let v := variableF T en e2.1 e2.2
    (v.1, f.1, w.1, sg, rt, tg, v.2.1, v.2.2)
  else if c = 87 then
    let f := fileDigitF T en a g
    let e := expF T en 44 f.2.1 f.2.2
    let w := V e.1 e.2
    let e2 := expF T en 44 w.2.1 w.2.2
    let z := V e2.1 e2.2
    (vr, f.1, w.1, sg, z.1, tg, z.2.1, z.2.2)
  else (vr, fi, lf, sg, rt, tg, a, 0)
def rdA (j : Nat) (u : RU) : Int32 := if u.2.2.2.2.2.2.2 = 0 then 0 else if ¬ nI u.2.2.2.2.2.2.1 = nI j then 0 else 1
theorem atT_le (c : Int32) : atT c ≤ 1 := by unfold atT; split <;> simp
theorem g_Sm_val0 (l : Launch) (dC : Nat → ClassId) (dI : Nat → Nat → Nat) (h0 sx sv : Nat) (cX cV : ClassId) (tx va : Nat → Int32) (en : Nat) (kd vr fi lf sg rt tg : Int32) (he : en ≤ 12) (at1 : Nat) (go : Int32) (ha : at1 ≤ en) (sz : Nat) : Met l y_Sm_value (Cond.code y_Sm_value b_Sm_value 6 (some .int) :: gw) ({ frames := 40, cells := 0, slots := 0, locals := 928 }) (cP (dC, dI) [.ref h0, .int 0] sz [(h0, .inr (4, [.ref sx, .ref sv, .int (nI en), .int (nI at1), .int go, .int kd, .int vr, .int fi, .int lf, .int sg, .int rt, .int tg])), (sx, .inl (cX, 12, .inl tx)), (sv, .inl (cV, 8, .inl va))] [(cX, .int), (cV, .int)] xT) (va_Qi (fun (r : Int32) (u : Nat × Int32) => (r, u) = vlD tx va en 12 at1 go ∧ u.1 ≤ en) (fun (u : Nat × Int32) t => cB (dC, dI) (va_A [(h0, .inr (4, [.ref sx, .ref sv, .int (nI en), .int (nI at1), .int go, .int kd, .int vr, .int fi, .int lf, .int sg, .int rt, .int tg])), (sx, .inl (cX, 12, .inl tx)), (sv, .inl (cV, 8, .inl va))] sz) [(h0, .inr (4, [.ref sx, .ref sv, .int (nI en), .int (nI u.1), .int u.2, .int kd, .int vr, .int fi, .int lf, .int sg, .int rt, .int tg])), (sx, .inl (cX, 12, .inl tx)), (sv, .inl (cV, 8, .inl va))] [(cX, .int), (cV, .int)] t) (va_A [(h0, .inr (4, [.ref sx, .ref sv, .int (nI en), .int (nI at1), .int go, .int kd, .int vr, .int fi, .int lf, .int sg, .int rt, .int tg])), (sx, .inl (cX, 12, .inl tx)), (sv, .inl (cV, 8, .inl va))] sz)) 0 0 (va_A [(h0, .inr (4, [.ref sx, .ref sv, .int (nI en), .int (nI at1), .int go, .int kd, .int vr, .int fi, .int lf, .int sg, .int rt, .int tg])), (sx, .inl (cX, 12, .inl tx)), (sv, .inl (cV, 8, .inl va))] sz) :=
  g_Sm_rec l dC dI h0 sx sv cX cV tx va en kd vr fi lf sg rt tg he 12 (by decide) at1 go sz ha
set_option maxHeartbeats 4000000 in
set_option maxRecDepth 100000 in
theorem g_Sm_read (l : Launch) (dC : Nat → ClassId) (dI : Nat → Nat → Nat) (h0 sx sv : Nat) (cX cV : ClassId) (tx va : Nat → Int32) (en at1 : Nat) (go kd vr fi lf sg rt tg : Int32) (row n0 : Nat) (f : Nat → Int32) (wv : Nat) (vf : Nat → Int32) (fr ln : Int32) (hn0 : n0 < 2 ^ 30) (sz : Nat) : Met l y_Sm_read (Cond.code y_Sm_read b_Sm_read 5 (some .boolean) :: gw) ({ frames := 41, cells := 0, slots := 0, locals := 953 }) (cP (dC, dI) [.ref h0, .ref row, .int fr, .int ln, .ref wv] sz [(h0, .inr (4, [.ref sx, .ref sv, .int (nI en), .int (nI at1), .int go, .int kd, .int vr, .int fi, .int lf, .int sg, .int rt, .int tg])), (sx, .inl (cX, 12, .inl tx)), (sv, .inl (cV, 8, .inl va))] [(cX, .int), (cV, .int)] (x2 row n0 f wv 8 vf [(h0, .inr (4, [.ref sx, .ref sv, .int (nI en), .int (nI at1), .int go, .int kd, .int vr, .int fi, .int lf, .int sg, .int rt, .int tg])), (sx, .inl (cX, 12, .inl tx)), (sv, .inl (cV, 8, .inl va))])) (va_Qi (fun (r : Int32) (u : (Int32 × RU) × Nat × (Nat → Int32) × (Nat → Int32)) => (r = 0 ∧ badT n0 fr ln ∧ u = ((0, vr, fi, lf, sg, rt, tg, at1, 0), en, tx, va)) ∨ (¬ badT n0 fr ln ∧ ∃ j T W, 1 ≤ j ∧ j ≤ 12 ∧ ln = nI j ∧ T = va_cpy f tx fr.toNatClampNeg 0 j ∧ W = va_cpy vf va 0 0 8 ∧ u = ((kdT T j, rdF (vlD T W j 12) T j (kdT T j) vr fi lf sg rt tg (atT (kdT T j)) 1), j, T, W) ∧ r = rdA j u.1.2)) (fun (u : (Int32 × RU) × Nat × (Nat → Int32) × (Nat → Int32)) t => cB (dC, dI) (va_A [(h0, .inr (4, [.ref sx, .ref sv, .int (nI en), .int (nI at1), .int go, .int kd, .int vr, .int fi, .int lf, .int sg, .int rt, .int tg])), (sx, .inl (cX, 12, .inl tx)), (sv, .inl (cV, 8, .inl va))] sz) [(h0, .inr (4, [.ref sx, .ref sv, .int (nI u.2.1), .int (nI u.1.2.2.2.2.2.2.2.1), .int u.1.2.2.2.2.2.2.2.2, .int u.1.1, .int u.1.2.1, .int u.1.2.2.1, .int u.1.2.2.2.1, .int u.1.2.2.2.2.1, .int u.1.2.2.2.2.2.1, .int u.1.2.2.2.2.2.2.1])), (sx, .inl (cX, 12, .inl u.2.2.1)), (sv, .inl (cV, 8, .inl u.2.2.2))] [(cX, .int), (cV, .int)] t) (va_A [(h0, .inr (4, [.ref sx, .ref sv, .int (nI en), .int (nI at1), .int go, .int kd, .int vr, .int fi, .int lf, .int sg, .int rt, .int tg])), (sx, .inl (cX, 12, .inl tx)), (sv, .inl (cV, 8, .inl va))] sz)) 0 0 (va_A [(h0, .inr (4, [.ref sx, .ref sv, .int (nI en), .int (nI at1), .int go, .int kd, .int vr, .int fi, .int lf, .int sg, .int rt, .int tg])), (sx, .inl (cX, 12, .inl tx)), (sv, .inl (cV, 8, .inl va))] sz) := by
  refine Met.ofW (cc := b_Sm_read) (maxL := 5) (ret := (some .boolean)) (by decide) rfl ?_
  intro p e s m args below meth c s₁ B hml hv
  obtain ⟨rfl, hsz, hP, hK, hD0, hkw, hX⟩ := hv
  have hx := B.exec
  have hb := B.bytes
  have hr := B.returns
  have hts := fun w hw => atoms_spec (ws := Cond.code y_Sm_read b_Sm_read 5 (some .boolean) :: gw) B.pre w (List.mem_cons_of_mem _ hw)
  have hown : s.vm.findClass "LineDisk$Statement" = some m.cls := findClass_of_methodNamed B.named
  have hlocks := B.notSynchronized
  have hin := (name_of_methodNamed B.named B.method).1
  subst hsz
  have hD := hD0.self (sz := s.heap.size)
  generalize hAe : va_A [(h0, .inr (4, [.ref sx, .ref sv, .int (nI en), .int (nI at1), .int go, .int kd, .int vr, .int fi, .int lf, .int sg, .int rt, .int tg])), (sx, .inl (cX, 12, .inl tx)), (sv, .inl (cV, 8, .inl va))] s.heap.size = A at hD ⊢
  have hA : ∀ q : Nat, s.heap.size ≤ q → A q := fun q h => by rw [← hAe]; exact Or.inr h
  have hS : va_S A s.heap s.heap [] := va_S.rf
  have hl := lv_entry ([.ref h0, .ref row, .int fr, .int ln, .ref wv]) (n := 5) (Nat.le_of_ble_eq_true rfl)
  rw [lg_entry_eq]
  generalize (lg_sl ([.ref h0, .ref row, .int fr, .int ln, .ref wv]) ++ List.replicate (5 - (lg_sl ([.ref h0, .ref row, .int fr, .int ln, .ref wv])).length) Slot.unset).toArray = ls at hl ⊢
  have hl : lv_has ls 5 [(0, .ref h0), (1, .ref row), (2, .int fr), (3, .int ln), (4, .ref wv)] := hl
  have F : CallFix p m c b_Sm_read 5 s ([.ref h0, .ref row, .int fr, .int ln, .ref wv]).toArray gw "LineDisk$Statement" := ⟨hx, hb, hml, hown, hts⟩
  refine lv_aload_n hx hb d_Sm_read_0 rfl (lv_at hl 0 rfl) ?_
  refine lv_aload_n hx hb d_Sm_read_1 rfl (lv_at hl 0 rfl) ?_
  refine lv_aload_n hx hb d_Sm_read_2 rfl (lv_at hl 1 rfl) ?_
  refine lv_iload_n hx hb d_Sm_read_3 rfl (lv_at hl 2 rfl) ?_
  refine lv_iload_n hx hb d_Sm_read_4 rfl (lv_at hl 3 rfl) ?_
  refine lv_aload hx hb d_Sm_read_5 (lv_at hl 4 rfl) ?_
  refine go_i (wr := []) (tr := []) (rV (C := "LineDisk$Statement") (ci := 4) (q0 := 0) (b := h0) (n := 4) (As := [.ref row, .int fr, .int ln, .ref wv]) (rest := [.ref h0]) F hkw (g_Sm_take l dC dI h0 sx sv cX cV tx va en at1 go kd vr fi lf sg rt tg row n0 f wv vf fr ln hn0 s.heap.size) x2_bl (x2_same hX) w_256 w_258 ws_4 w_5 w_259 rfl rfl (by decide +kernel) ⟨Nat.le_of_ble_eq_true rfl, Nat.le_of_ble_eq_true rfl⟩ (hP.sub (ws' := [(h0, .inr (4, [.ref sx, .ref sv, .int (nI en), .int (nI at1), .int go, .int kd, .int vr, .int fi, .int lf, .int sg, .int rt, .int tg])), (sx, .inl (cX, 12, .inl tx)), (sv, .inl (cV, 8, .inl va))]) [0, 1, 2] rfl) (hD.sub (ws' := [(h0, .inr (4, [.ref sx, .ref sv, .int (nI en), .int (nI at1), .int go, .int kd, .int vr, .int fi, .int lf, .int sg, .int rt, .int tg])), (sx, .inl (cX, 12, .inl tx)), (sv, .inl (cV, 8, .inl va))]) [0, 1, 2] (by decide) rfl) (hK.sub (tys' := [(cX, .int), (cV, .int)]) [0, 1] rfl) rfl rfl rfl rfl hl.1 rfl (Nat.le_of_ble_eq_true rfl) d_Sm_read_7 ⟨by decide, by decide⟩) hP hD hK hS hA [0, 1, 2] [] [] rfl rfl (by decide) (by decide) rfl (fun r u8 H locs ht8 hP hD hK hS => ?_)
  have hP : va_P (dC, dI) cls [(h0, .inr (4, [.ref sx, .ref sv, .int (nI u8.1), .int (nI u8.2.1), .int go, .int u8.2.2.1, .int vr, .int fi, .int lf, .int sg, .int rt, .int tg])), (sx, .inl (cX, 12, .inl u8.2.2.2.1)), (sv, .inl (cV, 8, .inl u8.2.2.2.2))] H := hP
  have hD : va_D A [(h0, .inr (4, [.ref sx, .ref sv, .int (nI u8.1), .int (nI u8.2.1), .int go, .int u8.2.2.1, .int vr, .int fi, .int lf, .int sg, .int rt, .int tg])), (sx, .inl (cX, 12, .inl u8.2.2.2.1)), (sv, .inl (cV, 8, .inl u8.2.2.2.2))] := hD
  have hK : va_K (dC, dI) cls [(cX, .int), (cV, .int)] s := hK
  refine W.widen (k := 0) (n := 0) (by omega) (by omega) ?_
  rcases ht8 with ⟨rfl, hb9, rfl⟩ | ⟨rfl, hg9, j, hj1, hj2, rfl, rfl⟩
  · skip
    have hP : va_P (dC, dI) cls [(h0, .inr (4, [.ref sx, .ref sv, .int (nI en), .int (nI at1), .int go, .int 0, .int vr, .int fi, .int lf, .int sg, .int rt, .int tg])), (sx, .inl (cX, 12, .inl tx)), (sv, .inl (cV, 8, .inl va))] H := hP
    have hD : va_D A [(h0, .inr (4, [.ref sx, .ref sv, .int (nI en), .int (nI at1), .int go, .int 0, .int vr, .int fi, .int lf, .int sg, .int rt, .int tg])), (sx, .inl (cX, 12, .inl tx)), (sv, .inl (cV, 8, .inl va))] := hD
    refine va_put (D := (dC, dI)) (ci := 4) (v := .int 0) (ty := .boolean) (C := R_Sm) (T := F_Sm) (N := 12) hx hb hts in_Sm t_Sm t_Sm_ok n_Sm hown hK hP hD hS 0 rfl rfl 4 (by decide) (hts _ w_113) (fun _ h9 => h9) rfl (by decide +kernel) (rfl) (rfl) (Nat.le_of_ble_eq_true rfl) d_Sm_read_10 (fun H locs hP hD hS => ?_)
    have hP : va_P (dC, dI) cls [(h0, .inr (4, [.ref sx, .ref sv, .int (nI en), .int (nI at1), .int 0, .int 0, .int vr, .int fi, .int lf, .int sg, .int rt, .int tg])), (sx, .inl (cX, 12, .inl tx)), (sv, .inl (cV, 8, .inl va))] H := hP
    have hD : va_D A [(h0, .inr (4, [.ref sx, .ref sv, .int (nI en), .int (nI at1), .int 0, .int 0, .int vr, .int fi, .int lf, .int sg, .int rt, .int tg])), (sx, .inl (cX, 12, .inl tx)), (sv, .inl (cV, 8, .inl va))] := hD
    refine lv_aload_n hx hb d_Sm_read_13 rfl (lv_at hl 0 rfl) ?_
    refine va_get (D := (dC, dI)) (ci := 4) (v := .int 0) (C := R_Sm) (T := F_Sm) (N := 12) hx hb hts in_Sm hown hK hP 0 rfl rfl 5 (by decide) (hts _ w_114) (fun _ h9 => h9) rfl d_Sm_read_14 ?_
    refine lv_lookup (off := 243) (tgt := 260) hx hb d_Sm_read_17 (by decide) (rfl) (by decide) ?_
    refine lv_aload_n hx hb d_Sm_read_260 rfl (lv_at hl 0 rfl) ?_
    refine lv_iconst (v := 0) hx hb d_Sm_read_261 (by decide) ?_
    refine va_put (D := (dC, dI)) (ci := 4) (v := .int 0) (ty := .boolean) (C := R_Sm) (T := F_Sm) (N := 12) hx hb hts in_Sm t_Sm t_Sm_ok n_Sm hown hK hP hD hS 0 rfl rfl 4 (by decide) (hts _ w_113) (fun _ h9 => h9) rfl (by decide +kernel) (rfl) (rfl) (Nat.le_of_ble_eq_true rfl) d_Sm_read_262 (fun H locs hP hD hS => ?_)
    have hP : va_P (dC, dI) cls [(h0, .inr (4, [.ref sx, .ref sv, .int (nI en), .int (nI at1), .int 0, .int 0, .int vr, .int fi, .int lf, .int sg, .int rt, .int tg])), (sx, .inl (cX, 12, .inl tx)), (sv, .inl (cV, 8, .inl va))] H := hP
    have hD : va_D A [(h0, .inr (4, [.ref sx, .ref sv, .int (nI en), .int (nI at1), .int 0, .int 0, .int vr, .int fi, .int lf, .int sg, .int rt, .int tg])), (sx, .inl (cX, 12, .inl tx)), (sv, .inl (cV, 8, .inl va))] := hD
    refine lv_aload_n hx hb d_Sm_read_265 rfl (lv_at hl 0 rfl) ?_
    refine va_get (D := (dC, dI)) (ci := 4) (v := .int 0) (C := R_Sm) (T := F_Sm) (N := 12) hx hb hts in_Sm hown hK hP 0 rfl rfl 4 (by decide) (hts _ w_113) (fun _ h9 => h9) rfl d_Sm_read_266 ?_
    refine lv_if_eq (tgt := 287) hx hb d_Sm_read_269 (by decide) (fun _ => ?_) (fun h => absurd (by decide) h)
    refine lv_iconst (v := 0) hx hb d_Sm_read_287 (by decide) ?_
    refine W.widen (k := 0) (n := 0) (by decide) (by decide) ?_
    exact W.zret (v := 0) hx hb hr (rfl) (fun t ht hW => ⟨⟨0, ((0, vr, fi, lf, sg, rt, tg, at1, 0), en, tx, va), rfl, Or.inl ⟨rfl, hb9, rfl⟩, cB.of (hP.sub [0, 1, 2] rfl) (hD.sub [0, 1, 2] (by decide) rfl) (hK.sub [0, 1] rfl) ht hW⟩, hS.F ht⟩) hS.2.2 d_Sm_read_288
  · skip
    have hP : va_P (dC, dI) cls [(h0, .inr (4, [.ref sx, .ref sv, .int (nI j), .int (nI (atT (kdT (va_cpy f tx fr.toNatClampNeg 0 j) j))), .int go, .int (kdT (va_cpy f tx fr.toNatClampNeg 0 j) j), .int vr, .int fi, .int lf, .int sg, .int rt, .int tg])), (sx, .inl (cX, 12, .inl (va_cpy f tx fr.toNatClampNeg 0 j))), (sv, .inl (cV, 8, .inl (va_cpy vf va 0 0 8)))] H := hP
    have hD : va_D A [(h0, .inr (4, [.ref sx, .ref sv, .int (nI j), .int (nI (atT (kdT (va_cpy f tx fr.toNatClampNeg 0 j) j))), .int go, .int (kdT (va_cpy f tx fr.toNatClampNeg 0 j) j), .int vr, .int fi, .int lf, .int sg, .int rt, .int tg])), (sx, .inl (cX, 12, .inl (va_cpy f tx fr.toNatClampNeg 0 j))), (sv, .inl (cV, 8, .inl (va_cpy vf va 0 0 8)))] := hD
    generalize hTe : va_cpy f tx fr.toNatClampNeg 0 j = T at hP hD
    generalize hWe : va_cpy vf va 0 0 8 = W9 at hP hD
    generalize hCe : kdT T j = C9 at hP hD
    generalize haE : atT C9 = a9 at hP hD
    have ha9 : a9 ≤ j := by have := atT_le C9; omega
    have hl : lv_has ls 5 [(0, .ref h0), (1, .ref row), (2, .int fr), (3, .int (nI j)), (4, .ref wv)] := hl
    have hP : va_P (dC, dI) cls [(h0, .inr (4, [.ref sx, .ref sv, .int (nI j), .int (nI a9), .int go, .int C9, .int vr, .int fi, .int lf, .int sg, .int rt, .int tg])), (sx, .inl (cX, 12, .inl T)), (sv, .inl (cV, 8, .inl W9))] H := hP
    have hD : va_D A [(h0, .inr (4, [.ref sx, .ref sv, .int (nI j), .int (nI a9), .int go, .int C9, .int vr, .int fi, .int lf, .int sg, .int rt, .int tg])), (sx, .inl (cX, 12, .inl T)), (sv, .inl (cV, 8, .inl W9))] := hD
    refine va_put (D := (dC, dI)) (ci := 4) (v := .int 1) (ty := .boolean) (C := R_Sm) (T := F_Sm) (N := 12) hx hb hts in_Sm t_Sm t_Sm_ok n_Sm hown hK hP hD hS 0 rfl rfl 4 (by decide) (hts _ w_113) (fun _ h9 => h9) rfl (by decide +kernel) (rfl) (rfl) (Nat.le_of_ble_eq_true rfl) d_Sm_read_10 (fun H locs hP hD hS => ?_)
    have hP : va_P (dC, dI) cls [(h0, .inr (4, [.ref sx, .ref sv, .int (nI j), .int (nI a9), .int 1, .int C9, .int vr, .int fi, .int lf, .int sg, .int rt, .int tg])), (sx, .inl (cX, 12, .inl T)), (sv, .inl (cV, 8, .inl W9))] H := hP
    have hD : va_D A [(h0, .inr (4, [.ref sx, .ref sv, .int (nI j), .int (nI a9), .int 1, .int C9, .int vr, .int fi, .int lf, .int sg, .int rt, .int tg])), (sx, .inl (cX, 12, .inl T)), (sv, .inl (cV, 8, .inl W9))] := hD
    refine lv_aload_n hx hb d_Sm_read_13 rfl (lv_at hl 0 rfl) ?_
    refine va_get (D := (dC, dI)) (ci := 4) (v := .int C9) (C := R_Sm) (T := F_Sm) (N := 12) hx hb hts in_Sm hown hK hP 0 rfl rfl 5 (by decide) (hts _ w_114) (fun _ h9 => h9) rfl d_Sm_read_14 ?_
    rcases Decidable.em (C9 = 61) with c17_61 | c17_61
    · skip
      refine lv_lookup (off := 67) (tgt := 84) hx hb d_Sm_read_17 (by decide) (by rw [c17_61]; rfl) (by decide) ?_
      refine lv_aload_n hx hb d_Sm_read_84 rfl (lv_at hl 0 rfl) ?_
      refine lv_aload_n hx hb d_Sm_read_85 rfl (lv_at hl 0 rfl) ?_
      refine go_i (wr := []) (tr := []) (rV (C := "LineDisk$Statement") (ci := 4) (q0 := 0) (b := h0) (n := 0) (As := []) (rest := [.ref h0]) F hkw (g_Sm_variable l dC dI h0 sx sv cX cV T W9 j a9 1 C9 vr fi lf sg rt tg hj2 ha9 H.size) xT_bl (fun _ _ _ => trivial) w_264 w_266 ws_5 w_5 w_267 rfl rfl (by decide +kernel) ⟨Nat.le_of_ble_eq_true rfl, Nat.le_of_ble_eq_true rfl⟩ (hP.sub (ws' := [(h0, .inr (4, [.ref sx, .ref sv, .int (nI j), .int (nI a9), .int 1, .int C9, .int vr, .int fi, .int lf, .int sg, .int rt, .int tg])), (sx, .inl (cX, 12, .inl T)), (sv, .inl (cV, 8, .inl W9))]) [0, 1, 2] rfl) (hD.sub (ws' := [(h0, .inr (4, [.ref sx, .ref sv, .int (nI j), .int (nI a9), .int 1, .int C9, .int vr, .int fi, .int lf, .int sg, .int rt, .int tg])), (sx, .inl (cX, 12, .inl T)), (sv, .inl (cV, 8, .inl W9))]) [0, 1, 2] (by decide) rfl) (hK.sub (tys' := [(cX, .int), (cV, .int)]) [0, 1] rfl) rfl rfl rfl rfl hl.1 rfl (Nat.le_of_ble_eq_true rfl) d_Sm_read_86 ⟨by decide, by decide⟩) hP hD hK hS hA [0, 1, 2] [] [] rfl rfl (by decide) (by decide) rfl (fun r1_ u1_ H locs e1_ hP hD hK hS => ?_)
      have hP : va_P (dC, dI) cls [(h0, .inr (4, [.ref sx, .ref sv, .int (nI j), .int (nI u1_.1), .int u1_.2, .int C9, .int vr, .int fi, .int lf, .int sg, .int rt, .int tg])), (sx, .inl (cX, 12, .inl T)), (sv, .inl (cV, 8, .inl W9))] H := hP
      have hD : va_D A [(h0, .inr (4, [.ref sx, .ref sv, .int (nI j), .int (nI u1_.1), .int u1_.2, .int C9, .int vr, .int fi, .int lf, .int sg, .int rt, .int tg])), (sx, .inl (cX, 12, .inl T)), (sv, .inl (cV, 8, .inl W9))] := hD
      have hK : va_K (dC, dI) cls [(cX, .int), (cV, .int)] s := hK
      refine W.widen (k := 0) (n := 0) (by omega) (by omega) ?_
      refine va_put (D := (dC, dI)) (ci := 4) (v := .int r1_) (ty := .int) (C := R_Sm) (T := F_Sm) (N := 12) hx hb hts in_Sm t_Sm t_Sm_ok n_Sm hown hK hP hD hS 0 rfl rfl 6 (by decide) (hts _ w_116) (fun _ h9 => h9) rfl (by decide +kernel) (rfl) (rfl) (Nat.le_of_ble_eq_true rfl) d_Sm_read_89 (fun H locs hP hD hS => ?_)
      have hP : va_P (dC, dI) cls [(h0, .inr (4, [.ref sx, .ref sv, .int (nI j), .int (nI u1_.1), .int u1_.2, .int C9, .int r1_, .int fi, .int lf, .int sg, .int rt, .int tg])), (sx, .inl (cX, 12, .inl T)), (sv, .inl (cV, 8, .inl W9))] H := hP
      have hD : va_D A [(h0, .inr (4, [.ref sx, .ref sv, .int (nI j), .int (nI u1_.1), .int u1_.2, .int C9, .int r1_, .int fi, .int lf, .int sg, .int rt, .int tg])), (sx, .inl (cX, 12, .inl T)), (sv, .inl (cV, 8, .inl W9))] := hD
      refine lv_aload_n hx hb d_Sm_read_92 rfl (lv_at hl 0 rfl) ?_
      refine lv_bipush (v := 61) hx hb d_Sm_read_93 (by decide) ?_
      refine go_v (wr := []) (tr := []) (rV (C := "LineDisk$Statement") (ci := 4) (q0 := 0) (b := h0) (n := 1) (As := [.int 61]) (rest := []) F hkw (g_Sm_expect l dC dI h0 sx sv cX cV T W9 j u1_.1 u1_.2 C9 r1_ fi lf sg rt tg hj2 e1_.2 61 (by decide) H.size) xT_bl (fun _ _ _ => trivial) w_272 w_274 ws_7 w_5 w_275 rfl rfl (by decide +kernel) ⟨Nat.le_of_ble_eq_true rfl, Nat.le_of_ble_eq_true rfl⟩ (hP.sub (ws' := [(h0, .inr (4, [.ref sx, .ref sv, .int (nI j), .int (nI u1_.1), .int u1_.2, .int C9, .int r1_, .int fi, .int lf, .int sg, .int rt, .int tg])), (sx, .inl (cX, 12, .inl T)), (sv, .inl (cV, 8, .inl W9))]) [0, 1, 2] rfl) (hD.sub (ws' := [(h0, .inr (4, [.ref sx, .ref sv, .int (nI j), .int (nI u1_.1), .int u1_.2, .int C9, .int r1_, .int fi, .int lf, .int sg, .int rt, .int tg])), (sx, .inl (cX, 12, .inl T)), (sv, .inl (cV, 8, .inl W9))]) [0, 1, 2] (by decide) rfl) (hK.sub (tys' := [(cX, .int), (cV, .int)]) [0, 1] rfl) rfl rfl rfl rfl hl.1 rfl (Nat.le_of_ble_eq_true rfl) d_Sm_read_95 ⟨by decide, by decide⟩) hP hD hK hS hA [0, 1, 2] [] [] rfl rfl (by decide) (by decide) rfl (fun u2_ H locs e2_ hP hD hK hS => ?_)
      have hP : va_P (dC, dI) cls [(h0, .inr (4, [.ref sx, .ref sv, .int (nI j), .int (nI u2_.1), .int u2_.2, .int C9, .int r1_, .int fi, .int lf, .int sg, .int rt, .int tg])), (sx, .inl (cX, 12, .inl T)), (sv, .inl (cV, 8, .inl W9))] H := hP
      have hD : va_D A [(h0, .inr (4, [.ref sx, .ref sv, .int (nI j), .int (nI u2_.1), .int u2_.2, .int C9, .int r1_, .int fi, .int lf, .int sg, .int rt, .int tg])), (sx, .inl (cX, 12, .inl T)), (sv, .inl (cV, 8, .inl W9))] := hD
      have hK : va_K (dC, dI) cls [(cX, .int), (cV, .int)] s := hK
      refine W.widen (k := 0) (n := 0) (by omega) (by omega) ?_
      refine lv_aload_n hx hb d_Sm_read_98 rfl (lv_at hl 0 rfl) ?_
      refine lv_aload_n hx hb d_Sm_read_99 rfl (lv_at hl 0 rfl) ?_
      refine lv_iconst (v := 0) hx hb d_Sm_read_100 (by decide) ?_
      refine go_i (wr := []) (tr := []) (rV (C := "LineDisk$Statement") (ci := 4) (q0 := 0) (b := h0) (n := 1) (As := [.int 0]) (rest := [.ref h0]) F hkw (g_Sm_val0 l dC dI h0 sx sv cX cV T W9 j C9 r1_ fi lf sg rt tg hj2 u2_.1 u2_.2 e2_.2 H.size) xT_bl (fun _ _ _ => trivial) w_276 w_278 ws_8 w_5 w_279 rfl rfl (by decide +kernel) ⟨Nat.le_of_ble_eq_true rfl, Nat.le_of_ble_eq_true rfl⟩ (hP.sub (ws' := [(h0, .inr (4, [.ref sx, .ref sv, .int (nI j), .int (nI u2_.1), .int u2_.2, .int C9, .int r1_, .int fi, .int lf, .int sg, .int rt, .int tg])), (sx, .inl (cX, 12, .inl T)), (sv, .inl (cV, 8, .inl W9))]) [0, 1, 2] rfl) (hD.sub (ws' := [(h0, .inr (4, [.ref sx, .ref sv, .int (nI j), .int (nI u2_.1), .int u2_.2, .int C9, .int r1_, .int fi, .int lf, .int sg, .int rt, .int tg])), (sx, .inl (cX, 12, .inl T)), (sv, .inl (cV, 8, .inl W9))]) [0, 1, 2] (by decide) rfl) (hK.sub (tys' := [(cX, .int), (cV, .int)]) [0, 1] rfl) rfl rfl rfl rfl hl.1 rfl (Nat.le_of_ble_eq_true rfl) d_Sm_read_101 ⟨by decide, by decide⟩) hP hD hK hS hA [0, 1, 2] [] [] rfl rfl (by decide) (by decide) rfl (fun r3_ u3_ H locs e3_ hP hD hK hS => ?_)
      have hP : va_P (dC, dI) cls [(h0, .inr (4, [.ref sx, .ref sv, .int (nI j), .int (nI u3_.1), .int u3_.2, .int C9, .int r1_, .int fi, .int lf, .int sg, .int rt, .int tg])), (sx, .inl (cX, 12, .inl T)), (sv, .inl (cV, 8, .inl W9))] H := hP
      have hD : va_D A [(h0, .inr (4, [.ref sx, .ref sv, .int (nI j), .int (nI u3_.1), .int u3_.2, .int C9, .int r1_, .int fi, .int lf, .int sg, .int rt, .int tg])), (sx, .inl (cX, 12, .inl T)), (sv, .inl (cV, 8, .inl W9))] := hD
      have hK : va_K (dC, dI) cls [(cX, .int), (cV, .int)] s := hK
      refine W.widen (k := 0) (n := 0) (by omega) (by omega) ?_
      refine va_put (D := (dC, dI)) (ci := 4) (v := .int r3_) (ty := .int) (C := R_Sm) (T := F_Sm) (N := 12) hx hb hts in_Sm t_Sm t_Sm_ok n_Sm hown hK hP hD hS 0 rfl rfl 8 (by decide) (hts _ w_120) (fun _ h9 => h9) rfl (by decide +kernel) (rfl) (rfl) (Nat.le_of_ble_eq_true rfl) d_Sm_read_104 (fun H locs hP hD hS => ?_)
      have hP : va_P (dC, dI) cls [(h0, .inr (4, [.ref sx, .ref sv, .int (nI j), .int (nI u3_.1), .int u3_.2, .int C9, .int r1_, .int fi, .int r3_, .int sg, .int rt, .int tg])), (sx, .inl (cX, 12, .inl T)), (sv, .inl (cV, 8, .inl W9))] H := hP
      have hD : va_D A [(h0, .inr (4, [.ref sx, .ref sv, .int (nI j), .int (nI u3_.1), .int u3_.2, .int C9, .int r1_, .int fi, .int r3_, .int sg, .int rt, .int tg])), (sx, .inl (cX, 12, .inl T)), (sv, .inl (cV, 8, .inl W9))] := hD
      refine lv_goto (tgt := 265) hx hb d_Sm_read_107 (by decide) ?_
      refine lv_aload_n hx hb d_Sm_read_265 rfl (lv_at hl 0 rfl) ?_
      refine va_get (D := (dC, dI)) (ci := 4) (v := .int u3_.2) (C := R_Sm) (T := F_Sm) (N := 12) hx hb hts in_Sm hown hK hP 0 rfl rfl 4 (by decide) (hts _ w_113) (fun _ h9 => h9) rfl d_Sm_read_266 ?_
      refine lv_if_eq (tgt := 287) hx hb d_Sm_read_269 (by decide) (fun c269 => ?_) (fun c269 => ?_)
      · skip
        refine lv_iconst (v := 0) hx hb d_Sm_read_287 (by decide) ?_
        have hR4 : (r1_, fi, r3_, sg, rt, tg, u3_.1, u3_.2) = rdF (vlD T W9 j 12) T j C9 vr fi lf sg rt tg a9 1 := by
          unfold rdF
          rw [if_pos c17_61]
          simp only [← e1_.1, ← e2_.1, ← e3_.1]
        refine W.widen (k := 0) (n := 0) (by decide) (by decide) ?_
        exact W.zret (v := 0) hx hb hr (rfl) (fun t ht hW => ⟨⟨0, ((C9, r1_, fi, r3_, sg, rt, tg, u3_.1, u3_.2), j, T, W9), rfl, Or.inr ⟨hg9, j, T, W9, hj1, hj2, rfl, hTe.symm, rfl, by rw [hCe, haE, ← hR4], by (simp only [rdA, c269, if_true, if_false, not_true_eq_false, not_false_eq_true, ite_not] <;> try simp)⟩, cB.of (hP.sub [0, 1, 2] rfl) (hD.sub [0, 1, 2] (by decide) rfl) (hK.sub [0, 1] rfl) ht hW⟩, hS.F ht⟩) hS.2.2 d_Sm_read_288
      · skip
        refine lv_aload_n hx hb d_Sm_read_272 rfl (lv_at hl 0 rfl) ?_
        refine va_get (D := (dC, dI)) (ci := 4) (v := .int (nI u3_.1)) (C := R_Sm) (T := F_Sm) (N := 12) hx hb hts in_Sm hown hK hP 0 rfl rfl 3 (by decide) (hts _ w_112) (fun _ h9 => h9) rfl d_Sm_read_273 ?_
        refine lv_aload_n hx hb d_Sm_read_276 rfl (lv_at hl 0 rfl) ?_
        refine va_get (D := (dC, dI)) (ci := 4) (v := .int (nI j)) (C := R_Sm) (T := F_Sm) (N := 12) hx hb hts in_Sm hown hK hP 0 rfl rfl 2 (by decide) (hts _ w_111) (fun _ h9 => h9) rfl d_Sm_read_277 ?_
        refine lv_icmp_ne (tgt := 287) hx hb d_Sm_read_280 (by decide) (fun c280 => ?_) (fun c280 => ?_)
        · skip
          refine lv_iconst (v := 0) hx hb d_Sm_read_287 (by decide) ?_
          have hR5 : (r1_, fi, r3_, sg, rt, tg, u3_.1, u3_.2) = rdF (vlD T W9 j 12) T j C9 vr fi lf sg rt tg a9 1 := by
            unfold rdF
            rw [if_pos c17_61]
            simp only [← e1_.1, ← e2_.1, ← e3_.1]
          refine W.widen (k := 0) (n := 0) (by decide) (by decide) ?_
          exact W.zret (v := 0) hx hb hr (rfl) (fun t ht hW => ⟨⟨0, ((C9, r1_, fi, r3_, sg, rt, tg, u3_.1, u3_.2), j, T, W9), rfl, Or.inr ⟨hg9, j, T, W9, hj1, hj2, rfl, hTe.symm, rfl, by rw [hCe, haE, ← hR5], by (simp only [rdA, c269, c280, if_true, if_false, not_true_eq_false, not_false_eq_true, ite_not] <;> try simp)⟩, cB.of (hP.sub [0, 1, 2] rfl) (hD.sub [0, 1, 2] (by decide) rfl) (hK.sub [0, 1] rfl) ht hW⟩, hS.F ht⟩) hS.2.2 d_Sm_read_288
        · skip
          refine lv_iconst (v := 1) hx hb d_Sm_read_283 (by decide) ?_
          refine lv_goto (tgt := 288) hx hb d_Sm_read_284 (by decide) ?_
          have hR6 : (r1_, fi, r3_, sg, rt, tg, u3_.1, u3_.2) = rdF (vlD T W9 j 12) T j C9 vr fi lf sg rt tg a9 1 := by
            unfold rdF
            rw [if_pos c17_61]
            simp only [← e1_.1, ← e2_.1, ← e3_.1]
          refine W.widen (k := 0) (n := 0) (by decide) (by decide) ?_
          exact W.zret (v := 1) hx hb hr (rfl) (fun t ht hW => ⟨⟨1, ((C9, r1_, fi, r3_, sg, rt, tg, u3_.1, u3_.2), j, T, W9), rfl, Or.inr ⟨hg9, j, T, W9, hj1, hj2, rfl, hTe.symm, rfl, by rw [hCe, haE, ← hR6], by (simp only [rdA, c269, c280, if_true, if_false, not_true_eq_false, not_false_eq_true, ite_not] <;> try simp)⟩, cB.of (hP.sub [0, 1, 2] rfl) (hD.sub [0, 1, 2] (by decide) rfl) (hK.sub [0, 1] rfl) ht hW⟩, hS.F ht⟩) hS.2.2 d_Sm_read_288
    · skip
      rcases Decidable.em (C9 = 69) with c17_69 | c17_69
      · skip
        refine lv_lookup (off := 159) (tgt := 176) hx hb d_Sm_read_17 (by decide) (by rw [c17_69]; rfl) (by decide) ?_
        refine lv_goto (tgt := 265) hx hb d_Sm_read_176 (by decide) ?_
        refine lv_aload_n hx hb d_Sm_read_265 rfl (lv_at hl 0 rfl) ?_
        refine va_get (D := (dC, dI)) (ci := 4) (v := .int 1) (C := R_Sm) (T := F_Sm) (N := 12) hx hb hts in_Sm hown hK hP 0 rfl rfl 4 (by decide) (hts _ w_113) (fun _ h9 => h9) rfl d_Sm_read_266 ?_
        refine lv_if_eq (tgt := 287) hx hb d_Sm_read_269 (by decide) (fun h => absurd h (by decide)) (fun _ => ?_)
        refine lv_aload_n hx hb d_Sm_read_272 rfl (lv_at hl 0 rfl) ?_
        refine va_get (D := (dC, dI)) (ci := 4) (v := .int (nI a9)) (C := R_Sm) (T := F_Sm) (N := 12) hx hb hts in_Sm hown hK hP 0 rfl rfl 3 (by decide) (hts _ w_112) (fun _ h9 => h9) rfl d_Sm_read_273 ?_
        refine lv_aload_n hx hb d_Sm_read_276 rfl (lv_at hl 0 rfl) ?_
        refine va_get (D := (dC, dI)) (ci := 4) (v := .int (nI j)) (C := R_Sm) (T := F_Sm) (N := 12) hx hb hts in_Sm hown hK hP 0 rfl rfl 2 (by decide) (hts _ w_111) (fun _ h9 => h9) rfl d_Sm_read_277 ?_
        refine lv_icmp_ne (tgt := 287) hx hb d_Sm_read_280 (by decide) (fun c280 => ?_) (fun c280 => ?_)
        · skip
          refine lv_iconst (v := 0) hx hb d_Sm_read_287 (by decide) ?_
          have hR7 : (vr, fi, lf, sg, rt, tg, a9, 1) = rdF (vlD T W9 j 12) T j C9 vr fi lf sg rt tg a9 1 := by
            unfold rdF
            rw [if_neg c17_61, if_pos c17_69]
          refine W.widen (k := 0) (n := 0) (by decide) (by decide) ?_
          exact W.zret (v := 0) hx hb hr (rfl) (fun t ht hW => ⟨⟨0, ((C9, vr, fi, lf, sg, rt, tg, a9, 1), j, T, W9), rfl, Or.inr ⟨hg9, j, T, W9, hj1, hj2, rfl, hTe.symm, rfl, by rw [hCe, haE, ← hR7], by (simp only [rdA, c280, if_true, if_false, not_true_eq_false, not_false_eq_true, ite_not] <;> try simp)⟩, cB.of (hP.sub [0, 1, 2] rfl) (hD.sub [0, 1, 2] (by decide) rfl) (hK.sub [0, 1] rfl) ht hW⟩, hS.F ht⟩) hS.2.2 d_Sm_read_288
        · skip
          refine lv_iconst (v := 1) hx hb d_Sm_read_283 (by decide) ?_
          refine lv_goto (tgt := 288) hx hb d_Sm_read_284 (by decide) ?_
          have hR8 : (vr, fi, lf, sg, rt, tg, a9, 1) = rdF (vlD T W9 j 12) T j C9 vr fi lf sg rt tg a9 1 := by
            unfold rdF
            rw [if_neg c17_61, if_pos c17_69]
          refine W.widen (k := 0) (n := 0) (by decide) (by decide) ?_
          exact W.zret (v := 1) hx hb hr (rfl) (fun t ht hW => ⟨⟨1, ((C9, vr, fi, lf, sg, rt, tg, a9, 1), j, T, W9), rfl, Or.inr ⟨hg9, j, T, W9, hj1, hj2, rfl, hTe.symm, rfl, by rw [hCe, haE, ← hR8], by (simp only [rdA, c280, if_true, if_false, not_true_eq_false, not_false_eq_true, ite_not] <;> try simp)⟩, cB.of (hP.sub [0, 1, 2] rfl) (hD.sub [0, 1, 2] (by decide) rfl) (hK.sub [0, 1] rfl) ht hW⟩, hS.F ht⟩) hS.2.2 d_Sm_read_288
      · skip
        rcases Decidable.em (C9 = 71) with c17_71 | c17_71
        · skip
          refine lv_lookup (off := 148) (tgt := 165) hx hb d_Sm_read_17 (by decide) (by rw [c17_71]; rfl) (by decide) ?_
          refine lv_aload_n hx hb d_Sm_read_165 rfl (lv_at hl 0 rfl) ?_
          refine lv_aload_n hx hb d_Sm_read_166 rfl (lv_at hl 0 rfl) ?_
          refine go_i (wr := []) (tr := []) (rV (C := "LineDisk$Statement") (ci := 4) (q0 := 0) (b := h0) (n := 0) (As := []) (rest := [.ref h0]) F hkw (g_Sm_lineNumber l dC dI h0 sx sv cX cV T W9 j a9 1 C9 vr fi lf sg rt tg hj2 ha9 H.size) xT_bl (fun _ _ _ => trivial) w_297 w_299 ws_13 w_5 w_300 rfl rfl (by decide +kernel) ⟨Nat.le_of_ble_eq_true rfl, Nat.le_of_ble_eq_true rfl⟩ (hP.sub (ws' := [(h0, .inr (4, [.ref sx, .ref sv, .int (nI j), .int (nI a9), .int 1, .int C9, .int vr, .int fi, .int lf, .int sg, .int rt, .int tg])), (sx, .inl (cX, 12, .inl T)), (sv, .inl (cV, 8, .inl W9))]) [0, 1, 2] rfl) (hD.sub (ws' := [(h0, .inr (4, [.ref sx, .ref sv, .int (nI j), .int (nI a9), .int 1, .int C9, .int vr, .int fi, .int lf, .int sg, .int rt, .int tg])), (sx, .inl (cX, 12, .inl T)), (sv, .inl (cV, 8, .inl W9))]) [0, 1, 2] (by decide) rfl) (hK.sub (tys' := [(cX, .int), (cV, .int)]) [0, 1] rfl) rfl rfl rfl rfl hl.1 rfl (Nat.le_of_ble_eq_true rfl) d_Sm_read_167 ⟨by decide, by decide⟩) hP hD hK hS hA [0, 1, 2] [] [] rfl rfl (by decide) (by decide) rfl (fun r9_ u9_ H locs e9_ hP hD hK hS => ?_)
          have hP : va_P (dC, dI) cls [(h0, .inr (4, [.ref sx, .ref sv, .int (nI j), .int (nI u9_.1), .int u9_.2, .int C9, .int vr, .int fi, .int lf, .int sg, .int rt, .int tg])), (sx, .inl (cX, 12, .inl T)), (sv, .inl (cV, 8, .inl W9))] H := hP
          have hD : va_D A [(h0, .inr (4, [.ref sx, .ref sv, .int (nI j), .int (nI u9_.1), .int u9_.2, .int C9, .int vr, .int fi, .int lf, .int sg, .int rt, .int tg])), (sx, .inl (cX, 12, .inl T)), (sv, .inl (cV, 8, .inl W9))] := hD
          have hK : va_K (dC, dI) cls [(cX, .int), (cV, .int)] s := hK
          refine W.widen (k := 0) (n := 0) (by omega) (by omega) ?_
          refine va_put (D := (dC, dI)) (ci := 4) (v := .int r9_) (ty := .int) (C := R_Sm) (T := F_Sm) (N := 12) hx hb hts in_Sm t_Sm t_Sm_ok n_Sm hown hK hP hD hS 0 rfl rfl 11 (by decide) (hts _ w_125) (fun _ h9 => h9) rfl (by decide +kernel) (rfl) (rfl) (Nat.le_of_ble_eq_true rfl) d_Sm_read_170 (fun H locs hP hD hS => ?_)
          have hP : va_P (dC, dI) cls [(h0, .inr (4, [.ref sx, .ref sv, .int (nI j), .int (nI u9_.1), .int u9_.2, .int C9, .int vr, .int fi, .int lf, .int sg, .int rt, .int r9_])), (sx, .inl (cX, 12, .inl T)), (sv, .inl (cV, 8, .inl W9))] H := hP
          have hD : va_D A [(h0, .inr (4, [.ref sx, .ref sv, .int (nI j), .int (nI u9_.1), .int u9_.2, .int C9, .int vr, .int fi, .int lf, .int sg, .int rt, .int r9_])), (sx, .inl (cX, 12, .inl T)), (sv, .inl (cV, 8, .inl W9))] := hD
          refine lv_goto (tgt := 265) hx hb d_Sm_read_173 (by decide) ?_
          refine lv_aload_n hx hb d_Sm_read_265 rfl (lv_at hl 0 rfl) ?_
          refine va_get (D := (dC, dI)) (ci := 4) (v := .int u9_.2) (C := R_Sm) (T := F_Sm) (N := 12) hx hb hts in_Sm hown hK hP 0 rfl rfl 4 (by decide) (hts _ w_113) (fun _ h9 => h9) rfl d_Sm_read_266 ?_
          refine lv_if_eq (tgt := 287) hx hb d_Sm_read_269 (by decide) (fun c269 => ?_) (fun c269 => ?_)
          · skip
            refine lv_iconst (v := 0) hx hb d_Sm_read_287 (by decide) ?_
            have hR10 : (vr, fi, lf, sg, rt, r9_, u9_.1, u9_.2) = rdF (vlD T W9 j 12) T j C9 vr fi lf sg rt tg a9 1 := by
              unfold rdF
              rw [if_neg c17_61, if_neg c17_69, if_pos c17_71]
              simp only [← e9_.1]
            refine W.widen (k := 0) (n := 0) (by decide) (by decide) ?_
            exact W.zret (v := 0) hx hb hr (rfl) (fun t ht hW => ⟨⟨0, ((C9, vr, fi, lf, sg, rt, r9_, u9_.1, u9_.2), j, T, W9), rfl, Or.inr ⟨hg9, j, T, W9, hj1, hj2, rfl, hTe.symm, rfl, by rw [hCe, haE, ← hR10], by (simp only [rdA, c269, if_true, if_false, not_true_eq_false, not_false_eq_true, ite_not] <;> try simp)⟩, cB.of (hP.sub [0, 1, 2] rfl) (hD.sub [0, 1, 2] (by decide) rfl) (hK.sub [0, 1] rfl) ht hW⟩, hS.F ht⟩) hS.2.2 d_Sm_read_288
          · skip
            refine lv_aload_n hx hb d_Sm_read_272 rfl (lv_at hl 0 rfl) ?_
            refine va_get (D := (dC, dI)) (ci := 4) (v := .int (nI u9_.1)) (C := R_Sm) (T := F_Sm) (N := 12) hx hb hts in_Sm hown hK hP 0 rfl rfl 3 (by decide) (hts _ w_112) (fun _ h9 => h9) rfl d_Sm_read_273 ?_
            refine lv_aload_n hx hb d_Sm_read_276 rfl (lv_at hl 0 rfl) ?_
            refine va_get (D := (dC, dI)) (ci := 4) (v := .int (nI j)) (C := R_Sm) (T := F_Sm) (N := 12) hx hb hts in_Sm hown hK hP 0 rfl rfl 2 (by decide) (hts _ w_111) (fun _ h9 => h9) rfl d_Sm_read_277 ?_
            refine lv_icmp_ne (tgt := 287) hx hb d_Sm_read_280 (by decide) (fun c280 => ?_) (fun c280 => ?_)
            · skip
              refine lv_iconst (v := 0) hx hb d_Sm_read_287 (by decide) ?_
              have hR11 : (vr, fi, lf, sg, rt, r9_, u9_.1, u9_.2) = rdF (vlD T W9 j 12) T j C9 vr fi lf sg rt tg a9 1 := by
                unfold rdF
                rw [if_neg c17_61, if_neg c17_69, if_pos c17_71]
                simp only [← e9_.1]
              refine W.widen (k := 0) (n := 0) (by decide) (by decide) ?_
              exact W.zret (v := 0) hx hb hr (rfl) (fun t ht hW => ⟨⟨0, ((C9, vr, fi, lf, sg, rt, r9_, u9_.1, u9_.2), j, T, W9), rfl, Or.inr ⟨hg9, j, T, W9, hj1, hj2, rfl, hTe.symm, rfl, by rw [hCe, haE, ← hR11], by (simp only [rdA, c269, c280, if_true, if_false, not_true_eq_false, not_false_eq_true, ite_not] <;> try simp)⟩, cB.of (hP.sub [0, 1, 2] rfl) (hD.sub [0, 1, 2] (by decide) rfl) (hK.sub [0, 1] rfl) ht hW⟩, hS.F ht⟩) hS.2.2 d_Sm_read_288
            · skip
              refine lv_iconst (v := 1) hx hb d_Sm_read_283 (by decide) ?_
              refine lv_goto (tgt := 288) hx hb d_Sm_read_284 (by decide) ?_
              have hR12 : (vr, fi, lf, sg, rt, r9_, u9_.1, u9_.2) = rdF (vlD T W9 j 12) T j C9 vr fi lf sg rt tg a9 1 := by
                unfold rdF
                rw [if_neg c17_61, if_neg c17_69, if_pos c17_71]
                simp only [← e9_.1]
              refine W.widen (k := 0) (n := 0) (by decide) (by decide) ?_
              exact W.zret (v := 1) hx hb hr (rfl) (fun t ht hW => ⟨⟨1, ((C9, vr, fi, lf, sg, rt, r9_, u9_.1, u9_.2), j, T, W9), rfl, Or.inr ⟨hg9, j, T, W9, hj1, hj2, rfl, hTe.symm, rfl, by rw [hCe, haE, ← hR12], by (simp only [rdA, c269, c280, if_true, if_false, not_true_eq_false, not_false_eq_true, ite_not] <;> try simp)⟩, cB.of (hP.sub [0, 1, 2] rfl) (hD.sub [0, 1, 2] (by decide) rfl) (hK.sub [0, 1] rfl) ht hW⟩, hS.F ht⟩) hS.2.2 d_Sm_read_288
        · skip
          rcases Decidable.em (C9 = 73) with c17_73 | c17_73
          · skip
            refine lv_lookup (off := 105) (tgt := 122) hx hb d_Sm_read_17 (by decide) (by rw [c17_73]; rfl) (by decide) ?_
            refine lv_aload_n hx hb d_Sm_read_122 rfl (lv_at hl 0 rfl) ?_
            refine lv_aload_n hx hb d_Sm_read_123 rfl (lv_at hl 0 rfl) ?_
            refine lv_iconst (v := 0) hx hb d_Sm_read_124 (by decide) ?_
            refine go_i (wr := []) (tr := []) (rV (C := "LineDisk$Statement") (ci := 4) (q0 := 0) (b := h0) (n := 1) (As := [.int 0]) (rest := [.ref h0]) F hkw (g_Sm_val0 l dC dI h0 sx sv cX cV T W9 j C9 vr fi lf sg rt tg hj2 a9 1 ha9 H.size) xT_bl (fun _ _ _ => trivial) w_276 w_278 ws_8 w_5 w_279 rfl rfl (by decide +kernel) ⟨Nat.le_of_ble_eq_true rfl, Nat.le_of_ble_eq_true rfl⟩ (hP.sub (ws' := [(h0, .inr (4, [.ref sx, .ref sv, .int (nI j), .int (nI a9), .int 1, .int C9, .int vr, .int fi, .int lf, .int sg, .int rt, .int tg])), (sx, .inl (cX, 12, .inl T)), (sv, .inl (cV, 8, .inl W9))]) [0, 1, 2] rfl) (hD.sub (ws' := [(h0, .inr (4, [.ref sx, .ref sv, .int (nI j), .int (nI a9), .int 1, .int C9, .int vr, .int fi, .int lf, .int sg, .int rt, .int tg])), (sx, .inl (cX, 12, .inl T)), (sv, .inl (cV, 8, .inl W9))]) [0, 1, 2] (by decide) rfl) (hK.sub (tys' := [(cX, .int), (cV, .int)]) [0, 1] rfl) rfl rfl rfl rfl hl.1 rfl (Nat.le_of_ble_eq_true rfl) d_Sm_read_125 ⟨by decide, by decide⟩) hP hD hK hS hA [0, 1, 2] [] [] rfl rfl (by decide) (by decide) rfl (fun r13_ u13_ H locs e13_ hP hD hK hS => ?_)
            have hP : va_P (dC, dI) cls [(h0, .inr (4, [.ref sx, .ref sv, .int (nI j), .int (nI u13_.1), .int u13_.2, .int C9, .int vr, .int fi, .int lf, .int sg, .int rt, .int tg])), (sx, .inl (cX, 12, .inl T)), (sv, .inl (cV, 8, .inl W9))] H := hP
            have hD : va_D A [(h0, .inr (4, [.ref sx, .ref sv, .int (nI j), .int (nI u13_.1), .int u13_.2, .int C9, .int vr, .int fi, .int lf, .int sg, .int rt, .int tg])), (sx, .inl (cX, 12, .inl T)), (sv, .inl (cV, 8, .inl W9))] := hD
            have hK : va_K (dC, dI) cls [(cX, .int), (cV, .int)] s := hK
            refine W.widen (k := 0) (n := 0) (by omega) (by omega) ?_
            refine va_put (D := (dC, dI)) (ci := 4) (v := .int r13_) (ty := .int) (C := R_Sm) (T := F_Sm) (N := 12) hx hb hts in_Sm t_Sm t_Sm_ok n_Sm hown hK hP hD hS 0 rfl rfl 8 (by decide) (hts _ w_120) (fun _ h9 => h9) rfl (by decide +kernel) (rfl) (rfl) (Nat.le_of_ble_eq_true rfl) d_Sm_read_128 (fun H locs hP hD hS => ?_)
            have hP : va_P (dC, dI) cls [(h0, .inr (4, [.ref sx, .ref sv, .int (nI j), .int (nI u13_.1), .int u13_.2, .int C9, .int vr, .int fi, .int r13_, .int sg, .int rt, .int tg])), (sx, .inl (cX, 12, .inl T)), (sv, .inl (cV, 8, .inl W9))] H := hP
            have hD : va_D A [(h0, .inr (4, [.ref sx, .ref sv, .int (nI j), .int (nI u13_.1), .int u13_.2, .int C9, .int vr, .int fi, .int r13_, .int sg, .int rt, .int tg])), (sx, .inl (cX, 12, .inl T)), (sv, .inl (cV, 8, .inl W9))] := hD
            refine lv_aload_n hx hb d_Sm_read_131 rfl (lv_at hl 0 rfl) ?_
            refine lv_aload_n hx hb d_Sm_read_132 rfl (lv_at hl 0 rfl) ?_
            refine go_i (wr := []) (tr := []) (rV (C := "LineDisk$Statement") (ci := 4) (q0 := 0) (b := h0) (n := 0) (As := []) (rest := [.ref h0]) F hkw (g_Sm_sign l dC dI h0 sx sv cX cV T W9 j u13_.1 u13_.2 C9 vr fi r13_ sg rt tg hj2 e13_.2 H.size) xT_bl (fun _ _ _ => trivial) w_293 w_295 ws_12 w_5 w_296 rfl rfl (by decide +kernel) ⟨Nat.le_of_ble_eq_true rfl, Nat.le_of_ble_eq_true rfl⟩ (hP.sub (ws' := [(h0, .inr (4, [.ref sx, .ref sv, .int (nI j), .int (nI u13_.1), .int u13_.2, .int C9, .int vr, .int fi, .int r13_, .int sg, .int rt, .int tg])), (sx, .inl (cX, 12, .inl T)), (sv, .inl (cV, 8, .inl W9))]) [0, 1, 2] rfl) (hD.sub (ws' := [(h0, .inr (4, [.ref sx, .ref sv, .int (nI j), .int (nI u13_.1), .int u13_.2, .int C9, .int vr, .int fi, .int r13_, .int sg, .int rt, .int tg])), (sx, .inl (cX, 12, .inl T)), (sv, .inl (cV, 8, .inl W9))]) [0, 1, 2] (by decide) rfl) (hK.sub (tys' := [(cX, .int), (cV, .int)]) [0, 1] rfl) rfl rfl rfl rfl hl.1 rfl (Nat.le_of_ble_eq_true rfl) d_Sm_read_133 ⟨by decide, by decide⟩) hP hD hK hS hA [0, 1, 2] [] [] rfl rfl (by decide) (by decide) rfl (fun r14_ u14_ H locs e14_ hP hD hK hS => ?_)
            have hP : va_P (dC, dI) cls [(h0, .inr (4, [.ref sx, .ref sv, .int (nI j), .int (nI u14_.1), .int u14_.2, .int C9, .int vr, .int fi, .int r13_, .int sg, .int rt, .int tg])), (sx, .inl (cX, 12, .inl T)), (sv, .inl (cV, 8, .inl W9))] H := hP
            have hD : va_D A [(h0, .inr (4, [.ref sx, .ref sv, .int (nI j), .int (nI u14_.1), .int u14_.2, .int C9, .int vr, .int fi, .int r13_, .int sg, .int rt, .int tg])), (sx, .inl (cX, 12, .inl T)), (sv, .inl (cV, 8, .inl W9))] := hD
            have hK : va_K (dC, dI) cls [(cX, .int), (cV, .int)] s := hK
            refine W.widen (k := 0) (n := 0) (by omega) (by omega) ?_
            refine va_put (D := (dC, dI)) (ci := 4) (v := .int r14_) (ty := .int) (C := R_Sm) (T := F_Sm) (N := 12) hx hb hts in_Sm t_Sm t_Sm_ok n_Sm hown hK hP hD hS 0 rfl rfl 9 (by decide) (hts _ w_122) (fun _ h9 => h9) rfl (by decide +kernel) (rfl) (rfl) (Nat.le_of_ble_eq_true rfl) d_Sm_read_136 (fun H locs hP hD hS => ?_)
            have hP : va_P (dC, dI) cls [(h0, .inr (4, [.ref sx, .ref sv, .int (nI j), .int (nI u14_.1), .int u14_.2, .int C9, .int vr, .int fi, .int r13_, .int r14_, .int rt, .int tg])), (sx, .inl (cX, 12, .inl T)), (sv, .inl (cV, 8, .inl W9))] H := hP
            have hD : va_D A [(h0, .inr (4, [.ref sx, .ref sv, .int (nI j), .int (nI u14_.1), .int u14_.2, .int C9, .int vr, .int fi, .int r13_, .int r14_, .int rt, .int tg])), (sx, .inl (cX, 12, .inl T)), (sv, .inl (cV, 8, .inl W9))] := hD
            refine lv_aload_n hx hb d_Sm_read_139 rfl (lv_at hl 0 rfl) ?_
            refine lv_aload_n hx hb d_Sm_read_140 rfl (lv_at hl 0 rfl) ?_
            refine lv_iconst (v := 0) hx hb d_Sm_read_141 (by decide) ?_
            refine go_i (wr := []) (tr := []) (rV (C := "LineDisk$Statement") (ci := 4) (q0 := 0) (b := h0) (n := 1) (As := [.int 0]) (rest := [.ref h0]) F hkw (g_Sm_val0 l dC dI h0 sx sv cX cV T W9 j C9 vr fi r13_ r14_ rt tg hj2 u14_.1 u14_.2 e14_.2 H.size) xT_bl (fun _ _ _ => trivial) w_276 w_278 ws_8 w_5 w_279 rfl rfl (by decide +kernel) ⟨Nat.le_of_ble_eq_true rfl, Nat.le_of_ble_eq_true rfl⟩ (hP.sub (ws' := [(h0, .inr (4, [.ref sx, .ref sv, .int (nI j), .int (nI u14_.1), .int u14_.2, .int C9, .int vr, .int fi, .int r13_, .int r14_, .int rt, .int tg])), (sx, .inl (cX, 12, .inl T)), (sv, .inl (cV, 8, .inl W9))]) [0, 1, 2] rfl) (hD.sub (ws' := [(h0, .inr (4, [.ref sx, .ref sv, .int (nI j), .int (nI u14_.1), .int u14_.2, .int C9, .int vr, .int fi, .int r13_, .int r14_, .int rt, .int tg])), (sx, .inl (cX, 12, .inl T)), (sv, .inl (cV, 8, .inl W9))]) [0, 1, 2] (by decide) rfl) (hK.sub (tys' := [(cX, .int), (cV, .int)]) [0, 1] rfl) rfl rfl rfl rfl hl.1 rfl (Nat.le_of_ble_eq_true rfl) d_Sm_read_142 ⟨by decide, by decide⟩) hP hD hK hS hA [0, 1, 2] [] [] rfl rfl (by decide) (by decide) rfl (fun r15_ u15_ H locs e15_ hP hD hK hS => ?_)
            have hP : va_P (dC, dI) cls [(h0, .inr (4, [.ref sx, .ref sv, .int (nI j), .int (nI u15_.1), .int u15_.2, .int C9, .int vr, .int fi, .int r13_, .int r14_, .int rt, .int tg])), (sx, .inl (cX, 12, .inl T)), (sv, .inl (cV, 8, .inl W9))] H := hP
            have hD : va_D A [(h0, .inr (4, [.ref sx, .ref sv, .int (nI j), .int (nI u15_.1), .int u15_.2, .int C9, .int vr, .int fi, .int r13_, .int r14_, .int rt, .int tg])), (sx, .inl (cX, 12, .inl T)), (sv, .inl (cV, 8, .inl W9))] := hD
            have hK : va_K (dC, dI) cls [(cX, .int), (cV, .int)] s := hK
            refine W.widen (k := 0) (n := 0) (by omega) (by omega) ?_
            refine va_put (D := (dC, dI)) (ci := 4) (v := .int r15_) (ty := .int) (C := R_Sm) (T := F_Sm) (N := 12) hx hb hts in_Sm t_Sm t_Sm_ok n_Sm hown hK hP hD hS 0 rfl rfl 10 (by decide) (hts _ w_123) (fun _ h9 => h9) rfl (by decide +kernel) (rfl) (rfl) (Nat.le_of_ble_eq_true rfl) d_Sm_read_145 (fun H locs hP hD hS => ?_)
            have hP : va_P (dC, dI) cls [(h0, .inr (4, [.ref sx, .ref sv, .int (nI j), .int (nI u15_.1), .int u15_.2, .int C9, .int vr, .int fi, .int r13_, .int r14_, .int r15_, .int tg])), (sx, .inl (cX, 12, .inl T)), (sv, .inl (cV, 8, .inl W9))] H := hP
            have hD : va_D A [(h0, .inr (4, [.ref sx, .ref sv, .int (nI j), .int (nI u15_.1), .int u15_.2, .int C9, .int vr, .int fi, .int r13_, .int r14_, .int r15_, .int tg])), (sx, .inl (cX, 12, .inl T)), (sv, .inl (cV, 8, .inl W9))] := hD
            refine lv_aload_n hx hb d_Sm_read_148 rfl (lv_at hl 0 rfl) ?_
            refine lv_bipush (v := 71) hx hb d_Sm_read_149 (by decide) ?_
            refine go_v (wr := []) (tr := []) (rV (C := "LineDisk$Statement") (ci := 4) (q0 := 0) (b := h0) (n := 1) (As := [.int 71]) (rest := []) F hkw (g_Sm_expect l dC dI h0 sx sv cX cV T W9 j u15_.1 u15_.2 C9 vr fi r13_ r14_ r15_ tg hj2 e15_.2 71 (by decide) H.size) xT_bl (fun _ _ _ => trivial) w_272 w_274 ws_7 w_5 w_275 rfl rfl (by decide +kernel) ⟨Nat.le_of_ble_eq_true rfl, Nat.le_of_ble_eq_true rfl⟩ (hP.sub (ws' := [(h0, .inr (4, [.ref sx, .ref sv, .int (nI j), .int (nI u15_.1), .int u15_.2, .int C9, .int vr, .int fi, .int r13_, .int r14_, .int r15_, .int tg])), (sx, .inl (cX, 12, .inl T)), (sv, .inl (cV, 8, .inl W9))]) [0, 1, 2] rfl) (hD.sub (ws' := [(h0, .inr (4, [.ref sx, .ref sv, .int (nI j), .int (nI u15_.1), .int u15_.2, .int C9, .int vr, .int fi, .int r13_, .int r14_, .int r15_, .int tg])), (sx, .inl (cX, 12, .inl T)), (sv, .inl (cV, 8, .inl W9))]) [0, 1, 2] (by decide) rfl) (hK.sub (tys' := [(cX, .int), (cV, .int)]) [0, 1] rfl) rfl rfl rfl rfl hl.1 rfl (Nat.le_of_ble_eq_true rfl) d_Sm_read_151 ⟨by decide, by decide⟩) hP hD hK hS hA [0, 1, 2] [] [] rfl rfl (by decide) (by decide) rfl (fun u16_ H locs e16_ hP hD hK hS => ?_)
            have hP : va_P (dC, dI) cls [(h0, .inr (4, [.ref sx, .ref sv, .int (nI j), .int (nI u16_.1), .int u16_.2, .int C9, .int vr, .int fi, .int r13_, .int r14_, .int r15_, .int tg])), (sx, .inl (cX, 12, .inl T)), (sv, .inl (cV, 8, .inl W9))] H := hP
            have hD : va_D A [(h0, .inr (4, [.ref sx, .ref sv, .int (nI j), .int (nI u16_.1), .int u16_.2, .int C9, .int vr, .int fi, .int r13_, .int r14_, .int r15_, .int tg])), (sx, .inl (cX, 12, .inl T)), (sv, .inl (cV, 8, .inl W9))] := hD
            have hK : va_K (dC, dI) cls [(cX, .int), (cV, .int)] s := hK
            refine W.widen (k := 0) (n := 0) (by omega) (by omega) ?_
            refine lv_aload_n hx hb d_Sm_read_154 rfl (lv_at hl 0 rfl) ?_
            refine lv_aload_n hx hb d_Sm_read_155 rfl (lv_at hl 0 rfl) ?_
            refine go_i (wr := []) (tr := []) (rV (C := "LineDisk$Statement") (ci := 4) (q0 := 0) (b := h0) (n := 0) (As := []) (rest := [.ref h0]) F hkw (g_Sm_lineNumber l dC dI h0 sx sv cX cV T W9 j u16_.1 u16_.2 C9 vr fi r13_ r14_ r15_ tg hj2 e16_.2 H.size) xT_bl (fun _ _ _ => trivial) w_297 w_299 ws_13 w_5 w_300 rfl rfl (by decide +kernel) ⟨Nat.le_of_ble_eq_true rfl, Nat.le_of_ble_eq_true rfl⟩ (hP.sub (ws' := [(h0, .inr (4, [.ref sx, .ref sv, .int (nI j), .int (nI u16_.1), .int u16_.2, .int C9, .int vr, .int fi, .int r13_, .int r14_, .int r15_, .int tg])), (sx, .inl (cX, 12, .inl T)), (sv, .inl (cV, 8, .inl W9))]) [0, 1, 2] rfl) (hD.sub (ws' := [(h0, .inr (4, [.ref sx, .ref sv, .int (nI j), .int (nI u16_.1), .int u16_.2, .int C9, .int vr, .int fi, .int r13_, .int r14_, .int r15_, .int tg])), (sx, .inl (cX, 12, .inl T)), (sv, .inl (cV, 8, .inl W9))]) [0, 1, 2] (by decide) rfl) (hK.sub (tys' := [(cX, .int), (cV, .int)]) [0, 1] rfl) rfl rfl rfl rfl hl.1 rfl (Nat.le_of_ble_eq_true rfl) d_Sm_read_156 ⟨by decide, by decide⟩) hP hD hK hS hA [0, 1, 2] [] [] rfl rfl (by decide) (by decide) rfl (fun r17_ u17_ H locs e17_ hP hD hK hS => ?_)
            have hP : va_P (dC, dI) cls [(h0, .inr (4, [.ref sx, .ref sv, .int (nI j), .int (nI u17_.1), .int u17_.2, .int C9, .int vr, .int fi, .int r13_, .int r14_, .int r15_, .int tg])), (sx, .inl (cX, 12, .inl T)), (sv, .inl (cV, 8, .inl W9))] H := hP
            have hD : va_D A [(h0, .inr (4, [.ref sx, .ref sv, .int (nI j), .int (nI u17_.1), .int u17_.2, .int C9, .int vr, .int fi, .int r13_, .int r14_, .int r15_, .int tg])), (sx, .inl (cX, 12, .inl T)), (sv, .inl (cV, 8, .inl W9))] := hD
            have hK : va_K (dC, dI) cls [(cX, .int), (cV, .int)] s := hK
            refine W.widen (k := 0) (n := 0) (by omega) (by omega) ?_
            refine va_put (D := (dC, dI)) (ci := 4) (v := .int r17_) (ty := .int) (C := R_Sm) (T := F_Sm) (N := 12) hx hb hts in_Sm t_Sm t_Sm_ok n_Sm hown hK hP hD hS 0 rfl rfl 11 (by decide) (hts _ w_125) (fun _ h9 => h9) rfl (by decide +kernel) (rfl) (rfl) (Nat.le_of_ble_eq_true rfl) d_Sm_read_159 (fun H locs hP hD hS => ?_)
            have hP : va_P (dC, dI) cls [(h0, .inr (4, [.ref sx, .ref sv, .int (nI j), .int (nI u17_.1), .int u17_.2, .int C9, .int vr, .int fi, .int r13_, .int r14_, .int r15_, .int r17_])), (sx, .inl (cX, 12, .inl T)), (sv, .inl (cV, 8, .inl W9))] H := hP
            have hD : va_D A [(h0, .inr (4, [.ref sx, .ref sv, .int (nI j), .int (nI u17_.1), .int u17_.2, .int C9, .int vr, .int fi, .int r13_, .int r14_, .int r15_, .int r17_])), (sx, .inl (cX, 12, .inl T)), (sv, .inl (cV, 8, .inl W9))] := hD
            refine lv_goto (tgt := 265) hx hb d_Sm_read_162 (by decide) ?_
            refine lv_aload_n hx hb d_Sm_read_265 rfl (lv_at hl 0 rfl) ?_
            refine va_get (D := (dC, dI)) (ci := 4) (v := .int u17_.2) (C := R_Sm) (T := F_Sm) (N := 12) hx hb hts in_Sm hown hK hP 0 rfl rfl 4 (by decide) (hts _ w_113) (fun _ h9 => h9) rfl d_Sm_read_266 ?_
            refine lv_if_eq (tgt := 287) hx hb d_Sm_read_269 (by decide) (fun c269 => ?_) (fun c269 => ?_)
            · skip
              refine lv_iconst (v := 0) hx hb d_Sm_read_287 (by decide) ?_
              have hR18 : (vr, fi, r13_, r14_, r15_, r17_, u17_.1, u17_.2) = rdF (vlD T W9 j 12) T j C9 vr fi lf sg rt tg a9 1 := by
                unfold rdF
                rw [if_neg c17_61, if_neg c17_69, if_neg c17_71, if_pos c17_73]
                simp only [← e13_.1, ← e14_.1, ← e15_.1, ← e16_.1, ← e17_.1]
              refine W.widen (k := 0) (n := 0) (by decide) (by decide) ?_
              exact W.zret (v := 0) hx hb hr (rfl) (fun t ht hW => ⟨⟨0, ((C9, vr, fi, r13_, r14_, r15_, r17_, u17_.1, u17_.2), j, T, W9), rfl, Or.inr ⟨hg9, j, T, W9, hj1, hj2, rfl, hTe.symm, rfl, by rw [hCe, haE, ← hR18], by (simp only [rdA, c269, if_true, if_false, not_true_eq_false, not_false_eq_true, ite_not] <;> try simp)⟩, cB.of (hP.sub [0, 1, 2] rfl) (hD.sub [0, 1, 2] (by decide) rfl) (hK.sub [0, 1] rfl) ht hW⟩, hS.F ht⟩) hS.2.2 d_Sm_read_288
            · skip
              refine lv_aload_n hx hb d_Sm_read_272 rfl (lv_at hl 0 rfl) ?_
              refine va_get (D := (dC, dI)) (ci := 4) (v := .int (nI u17_.1)) (C := R_Sm) (T := F_Sm) (N := 12) hx hb hts in_Sm hown hK hP 0 rfl rfl 3 (by decide) (hts _ w_112) (fun _ h9 => h9) rfl d_Sm_read_273 ?_
              refine lv_aload_n hx hb d_Sm_read_276 rfl (lv_at hl 0 rfl) ?_
              refine va_get (D := (dC, dI)) (ci := 4) (v := .int (nI j)) (C := R_Sm) (T := F_Sm) (N := 12) hx hb hts in_Sm hown hK hP 0 rfl rfl 2 (by decide) (hts _ w_111) (fun _ h9 => h9) rfl d_Sm_read_277 ?_
              refine lv_icmp_ne (tgt := 287) hx hb d_Sm_read_280 (by decide) (fun c280 => ?_) (fun c280 => ?_)
              · skip
                refine lv_iconst (v := 0) hx hb d_Sm_read_287 (by decide) ?_
                have hR19 : (vr, fi, r13_, r14_, r15_, r17_, u17_.1, u17_.2) = rdF (vlD T W9 j 12) T j C9 vr fi lf sg rt tg a9 1 := by
                  unfold rdF
                  rw [if_neg c17_61, if_neg c17_69, if_neg c17_71, if_pos c17_73]
                  simp only [← e13_.1, ← e14_.1, ← e15_.1, ← e16_.1, ← e17_.1]
                refine W.widen (k := 0) (n := 0) (by decide) (by decide) ?_
                exact W.zret (v := 0) hx hb hr (rfl) (fun t ht hW => ⟨⟨0, ((C9, vr, fi, r13_, r14_, r15_, r17_, u17_.1, u17_.2), j, T, W9), rfl, Or.inr ⟨hg9, j, T, W9, hj1, hj2, rfl, hTe.symm, rfl, by rw [hCe, haE, ← hR19], by (simp only [rdA, c269, c280, if_true, if_false, not_true_eq_false, not_false_eq_true, ite_not] <;> try simp)⟩, cB.of (hP.sub [0, 1, 2] rfl) (hD.sub [0, 1, 2] (by decide) rfl) (hK.sub [0, 1] rfl) ht hW⟩, hS.F ht⟩) hS.2.2 d_Sm_read_288
              · skip
                refine lv_iconst (v := 1) hx hb d_Sm_read_283 (by decide) ?_
                refine lv_goto (tgt := 288) hx hb d_Sm_read_284 (by decide) ?_
                have hR20 : (vr, fi, r13_, r14_, r15_, r17_, u17_.1, u17_.2) = rdF (vlD T W9 j 12) T j C9 vr fi lf sg rt tg a9 1 := by
                  unfold rdF
                  rw [if_neg c17_61, if_neg c17_69, if_neg c17_71, if_pos c17_73]
                  simp only [← e13_.1, ← e14_.1, ← e15_.1, ← e16_.1, ← e17_.1]
                refine W.widen (k := 0) (n := 0) (by decide) (by decide) ?_
                exact W.zret (v := 1) hx hb hr (rfl) (fun t ht hW => ⟨⟨1, ((C9, vr, fi, r13_, r14_, r15_, r17_, u17_.1, u17_.2), j, T, W9), rfl, Or.inr ⟨hg9, j, T, W9, hj1, hj2, rfl, hTe.symm, rfl, by rw [hCe, haE, ← hR20], by (simp only [rdA, c269, c280, if_true, if_false, not_true_eq_false, not_false_eq_true, ite_not] <;> try simp)⟩, cB.of (hP.sub [0, 1, 2] rfl) (hD.sub [0, 1, 2] (by decide) rfl) (hK.sub [0, 1] rfl) ht hW⟩, hS.F ht⟩) hS.2.2 d_Sm_read_288
          · skip
            rcases Decidable.em (C9 = 80) with c17_80 | c17_80
            · skip
              refine lv_lookup (off := 93) (tgt := 110) hx hb d_Sm_read_17 (by decide) (by rw [c17_80]; rfl) (by decide) ?_
              refine lv_aload_n hx hb d_Sm_read_110 rfl (lv_at hl 0 rfl) ?_
              refine lv_aload_n hx hb d_Sm_read_111 rfl (lv_at hl 0 rfl) ?_
              refine lv_iconst (v := 0) hx hb d_Sm_read_112 (by decide) ?_
              refine go_i (wr := []) (tr := []) (rV (C := "LineDisk$Statement") (ci := 4) (q0 := 0) (b := h0) (n := 1) (As := [.int 0]) (rest := [.ref h0]) F hkw (g_Sm_val0 l dC dI h0 sx sv cX cV T W9 j C9 vr fi lf sg rt tg hj2 a9 1 ha9 H.size) xT_bl (fun _ _ _ => trivial) w_276 w_278 ws_8 w_5 w_279 rfl rfl (by decide +kernel) ⟨Nat.le_of_ble_eq_true rfl, Nat.le_of_ble_eq_true rfl⟩ (hP.sub (ws' := [(h0, .inr (4, [.ref sx, .ref sv, .int (nI j), .int (nI a9), .int 1, .int C9, .int vr, .int fi, .int lf, .int sg, .int rt, .int tg])), (sx, .inl (cX, 12, .inl T)), (sv, .inl (cV, 8, .inl W9))]) [0, 1, 2] rfl) (hD.sub (ws' := [(h0, .inr (4, [.ref sx, .ref sv, .int (nI j), .int (nI a9), .int 1, .int C9, .int vr, .int fi, .int lf, .int sg, .int rt, .int tg])), (sx, .inl (cX, 12, .inl T)), (sv, .inl (cV, 8, .inl W9))]) [0, 1, 2] (by decide) rfl) (hK.sub (tys' := [(cX, .int), (cV, .int)]) [0, 1] rfl) rfl rfl rfl rfl hl.1 rfl (Nat.le_of_ble_eq_true rfl) d_Sm_read_113 ⟨by decide, by decide⟩) hP hD hK hS hA [0, 1, 2] [] [] rfl rfl (by decide) (by decide) rfl (fun r21_ u21_ H locs e21_ hP hD hK hS => ?_)
              have hP : va_P (dC, dI) cls [(h0, .inr (4, [.ref sx, .ref sv, .int (nI j), .int (nI u21_.1), .int u21_.2, .int C9, .int vr, .int fi, .int lf, .int sg, .int rt, .int tg])), (sx, .inl (cX, 12, .inl T)), (sv, .inl (cV, 8, .inl W9))] H := hP
              have hD : va_D A [(h0, .inr (4, [.ref sx, .ref sv, .int (nI j), .int (nI u21_.1), .int u21_.2, .int C9, .int vr, .int fi, .int lf, .int sg, .int rt, .int tg])), (sx, .inl (cX, 12, .inl T)), (sv, .inl (cV, 8, .inl W9))] := hD
              have hK : va_K (dC, dI) cls [(cX, .int), (cV, .int)] s := hK
              refine W.widen (k := 0) (n := 0) (by omega) (by omega) ?_
              refine va_put (D := (dC, dI)) (ci := 4) (v := .int r21_) (ty := .int) (C := R_Sm) (T := F_Sm) (N := 12) hx hb hts in_Sm t_Sm t_Sm_ok n_Sm hown hK hP hD hS 0 rfl rfl 8 (by decide) (hts _ w_120) (fun _ h9 => h9) rfl (by decide +kernel) (rfl) (rfl) (Nat.le_of_ble_eq_true rfl) d_Sm_read_116 (fun H locs hP hD hS => ?_)
              have hP : va_P (dC, dI) cls [(h0, .inr (4, [.ref sx, .ref sv, .int (nI j), .int (nI u21_.1), .int u21_.2, .int C9, .int vr, .int fi, .int r21_, .int sg, .int rt, .int tg])), (sx, .inl (cX, 12, .inl T)), (sv, .inl (cV, 8, .inl W9))] H := hP
              have hD : va_D A [(h0, .inr (4, [.ref sx, .ref sv, .int (nI j), .int (nI u21_.1), .int u21_.2, .int C9, .int vr, .int fi, .int r21_, .int sg, .int rt, .int tg])), (sx, .inl (cX, 12, .inl T)), (sv, .inl (cV, 8, .inl W9))] := hD
              refine lv_goto (tgt := 265) hx hb d_Sm_read_119 (by decide) ?_
              refine lv_aload_n hx hb d_Sm_read_265 rfl (lv_at hl 0 rfl) ?_
              refine va_get (D := (dC, dI)) (ci := 4) (v := .int u21_.2) (C := R_Sm) (T := F_Sm) (N := 12) hx hb hts in_Sm hown hK hP 0 rfl rfl 4 (by decide) (hts _ w_113) (fun _ h9 => h9) rfl d_Sm_read_266 ?_
              refine lv_if_eq (tgt := 287) hx hb d_Sm_read_269 (by decide) (fun c269 => ?_) (fun c269 => ?_)
              · skip
                refine lv_iconst (v := 0) hx hb d_Sm_read_287 (by decide) ?_
                have hR22 : (vr, fi, r21_, sg, rt, tg, u21_.1, u21_.2) = rdF (vlD T W9 j 12) T j C9 vr fi lf sg rt tg a9 1 := by
                  unfold rdF
                  rw [if_neg c17_61, if_neg c17_69, if_neg c17_71, if_neg c17_73, if_pos c17_80]
                  simp only [← e21_.1]
                refine W.widen (k := 0) (n := 0) (by decide) (by decide) ?_
                exact W.zret (v := 0) hx hb hr (rfl) (fun t ht hW => ⟨⟨0, ((C9, vr, fi, r21_, sg, rt, tg, u21_.1, u21_.2), j, T, W9), rfl, Or.inr ⟨hg9, j, T, W9, hj1, hj2, rfl, hTe.symm, rfl, by rw [hCe, haE, ← hR22], by (simp only [rdA, c269, if_true, if_false, not_true_eq_false, not_false_eq_true, ite_not] <;> try simp)⟩, cB.of (hP.sub [0, 1, 2] rfl) (hD.sub [0, 1, 2] (by decide) rfl) (hK.sub [0, 1] rfl) ht hW⟩, hS.F ht⟩) hS.2.2 d_Sm_read_288
              · skip
                refine lv_aload_n hx hb d_Sm_read_272 rfl (lv_at hl 0 rfl) ?_
                refine va_get (D := (dC, dI)) (ci := 4) (v := .int (nI u21_.1)) (C := R_Sm) (T := F_Sm) (N := 12) hx hb hts in_Sm hown hK hP 0 rfl rfl 3 (by decide) (hts _ w_112) (fun _ h9 => h9) rfl d_Sm_read_273 ?_
                refine lv_aload_n hx hb d_Sm_read_276 rfl (lv_at hl 0 rfl) ?_
                refine va_get (D := (dC, dI)) (ci := 4) (v := .int (nI j)) (C := R_Sm) (T := F_Sm) (N := 12) hx hb hts in_Sm hown hK hP 0 rfl rfl 2 (by decide) (hts _ w_111) (fun _ h9 => h9) rfl d_Sm_read_277 ?_
                refine lv_icmp_ne (tgt := 287) hx hb d_Sm_read_280 (by decide) (fun c280 => ?_) (fun c280 => ?_)
                · skip
                  refine lv_iconst (v := 0) hx hb d_Sm_read_287 (by decide) ?_
                  have hR23 : (vr, fi, r21_, sg, rt, tg, u21_.1, u21_.2) = rdF (vlD T W9 j 12) T j C9 vr fi lf sg rt tg a9 1 := by
                    unfold rdF
                    rw [if_neg c17_61, if_neg c17_69, if_neg c17_71, if_neg c17_73, if_pos c17_80]
                    simp only [← e21_.1]
                  refine W.widen (k := 0) (n := 0) (by decide) (by decide) ?_
                  exact W.zret (v := 0) hx hb hr (rfl) (fun t ht hW => ⟨⟨0, ((C9, vr, fi, r21_, sg, rt, tg, u21_.1, u21_.2), j, T, W9), rfl, Or.inr ⟨hg9, j, T, W9, hj1, hj2, rfl, hTe.symm, rfl, by rw [hCe, haE, ← hR23], by (simp only [rdA, c269, c280, if_true, if_false, not_true_eq_false, not_false_eq_true, ite_not] <;> try simp)⟩, cB.of (hP.sub [0, 1, 2] rfl) (hD.sub [0, 1, 2] (by decide) rfl) (hK.sub [0, 1] rfl) ht hW⟩, hS.F ht⟩) hS.2.2 d_Sm_read_288
                · skip
                  refine lv_iconst (v := 1) hx hb d_Sm_read_283 (by decide) ?_
                  refine lv_goto (tgt := 288) hx hb d_Sm_read_284 (by decide) ?_
                  have hR24 : (vr, fi, r21_, sg, rt, tg, u21_.1, u21_.2) = rdF (vlD T W9 j 12) T j C9 vr fi lf sg rt tg a9 1 := by
                    unfold rdF
                    rw [if_neg c17_61, if_neg c17_69, if_neg c17_71, if_neg c17_73, if_pos c17_80]
                    simp only [← e21_.1]
                  refine W.widen (k := 0) (n := 0) (by decide) (by decide) ?_
                  exact W.zret (v := 1) hx hb hr (rfl) (fun t ht hW => ⟨⟨1, ((C9, vr, fi, r21_, sg, rt, tg, u21_.1, u21_.2), j, T, W9), rfl, Or.inr ⟨hg9, j, T, W9, hj1, hj2, rfl, hTe.symm, rfl, by rw [hCe, haE, ← hR24], by (simp only [rdA, c269, c280, if_true, if_false, not_true_eq_false, not_false_eq_true, ite_not] <;> try simp)⟩, cB.of (hP.sub [0, 1, 2] rfl) (hD.sub [0, 1, 2] (by decide) rfl) (hK.sub [0, 1] rfl) ht hW⟩, hS.F ht⟩) hS.2.2 d_Sm_read_288
            · skip
              rcases Decidable.em (C9 = 82) with c17_82 | c17_82
              · skip
                refine lv_lookup (off := 203) (tgt := 220) hx hb d_Sm_read_17 (by decide) (by rw [c17_82]; rfl) (by decide) ?_
                refine lv_aload_n hx hb d_Sm_read_220 rfl (lv_at hl 0 rfl) ?_
                refine lv_aload_n hx hb d_Sm_read_221 rfl (lv_at hl 0 rfl) ?_
                refine go_i (wr := []) (tr := []) (rV (C := "LineDisk$Statement") (ci := 4) (q0 := 0) (b := h0) (n := 0) (As := []) (rest := [.ref h0]) F hkw (g_Sm_fileDigit l dC dI h0 sx sv cX cV T W9 j a9 1 C9 vr fi lf sg rt tg hj2 ha9 H.size) xT_bl (fun _ _ _ => trivial) w_301 w_303 ws_14 w_5 w_304 rfl rfl (by decide +kernel) ⟨Nat.le_of_ble_eq_true rfl, Nat.le_of_ble_eq_true rfl⟩ (hP.sub (ws' := [(h0, .inr (4, [.ref sx, .ref sv, .int (nI j), .int (nI a9), .int 1, .int C9, .int vr, .int fi, .int lf, .int sg, .int rt, .int tg])), (sx, .inl (cX, 12, .inl T)), (sv, .inl (cV, 8, .inl W9))]) [0, 1, 2] rfl) (hD.sub (ws' := [(h0, .inr (4, [.ref sx, .ref sv, .int (nI j), .int (nI a9), .int 1, .int C9, .int vr, .int fi, .int lf, .int sg, .int rt, .int tg])), (sx, .inl (cX, 12, .inl T)), (sv, .inl (cV, 8, .inl W9))]) [0, 1, 2] (by decide) rfl) (hK.sub (tys' := [(cX, .int), (cV, .int)]) [0, 1] rfl) rfl rfl rfl rfl hl.1 rfl (Nat.le_of_ble_eq_true rfl) d_Sm_read_222 ⟨by decide, by decide⟩) hP hD hK hS hA [0, 1, 2] [] [] rfl rfl (by decide) (by decide) rfl (fun r25_ u25_ H locs e25_ hP hD hK hS => ?_)
                have hP : va_P (dC, dI) cls [(h0, .inr (4, [.ref sx, .ref sv, .int (nI j), .int (nI u25_.1), .int u25_.2, .int C9, .int vr, .int fi, .int lf, .int sg, .int rt, .int tg])), (sx, .inl (cX, 12, .inl T)), (sv, .inl (cV, 8, .inl W9))] H := hP
                have hD : va_D A [(h0, .inr (4, [.ref sx, .ref sv, .int (nI j), .int (nI u25_.1), .int u25_.2, .int C9, .int vr, .int fi, .int lf, .int sg, .int rt, .int tg])), (sx, .inl (cX, 12, .inl T)), (sv, .inl (cV, 8, .inl W9))] := hD
                have hK : va_K (dC, dI) cls [(cX, .int), (cV, .int)] s := hK
                refine W.widen (k := 0) (n := 0) (by omega) (by omega) ?_
                refine va_put (D := (dC, dI)) (ci := 4) (v := .int r25_) (ty := .int) (C := R_Sm) (T := F_Sm) (N := 12) hx hb hts in_Sm t_Sm t_Sm_ok n_Sm hown hK hP hD hS 0 rfl rfl 7 (by decide) (hts _ w_118) (fun _ h9 => h9) rfl (by decide +kernel) (rfl) (rfl) (Nat.le_of_ble_eq_true rfl) d_Sm_read_225 (fun H locs hP hD hS => ?_)
                have hP : va_P (dC, dI) cls [(h0, .inr (4, [.ref sx, .ref sv, .int (nI j), .int (nI u25_.1), .int u25_.2, .int C9, .int vr, .int r25_, .int lf, .int sg, .int rt, .int tg])), (sx, .inl (cX, 12, .inl T)), (sv, .inl (cV, 8, .inl W9))] H := hP
                have hD : va_D A [(h0, .inr (4, [.ref sx, .ref sv, .int (nI j), .int (nI u25_.1), .int u25_.2, .int C9, .int vr, .int r25_, .int lf, .int sg, .int rt, .int tg])), (sx, .inl (cX, 12, .inl T)), (sv, .inl (cV, 8, .inl W9))] := hD
                refine lv_aload_n hx hb d_Sm_read_228 rfl (lv_at hl 0 rfl) ?_
                refine lv_bipush (v := 44) hx hb d_Sm_read_229 (by decide) ?_
                refine go_v (wr := []) (tr := []) (rV (C := "LineDisk$Statement") (ci := 4) (q0 := 0) (b := h0) (n := 1) (As := [.int 44]) (rest := []) F hkw (g_Sm_expect l dC dI h0 sx sv cX cV T W9 j u25_.1 u25_.2 C9 vr r25_ lf sg rt tg hj2 e25_.2 44 (by decide) H.size) xT_bl (fun _ _ _ => trivial) w_272 w_274 ws_7 w_5 w_275 rfl rfl (by decide +kernel) ⟨Nat.le_of_ble_eq_true rfl, Nat.le_of_ble_eq_true rfl⟩ (hP.sub (ws' := [(h0, .inr (4, [.ref sx, .ref sv, .int (nI j), .int (nI u25_.1), .int u25_.2, .int C9, .int vr, .int r25_, .int lf, .int sg, .int rt, .int tg])), (sx, .inl (cX, 12, .inl T)), (sv, .inl (cV, 8, .inl W9))]) [0, 1, 2] rfl) (hD.sub (ws' := [(h0, .inr (4, [.ref sx, .ref sv, .int (nI j), .int (nI u25_.1), .int u25_.2, .int C9, .int vr, .int r25_, .int lf, .int sg, .int rt, .int tg])), (sx, .inl (cX, 12, .inl T)), (sv, .inl (cV, 8, .inl W9))]) [0, 1, 2] (by decide) rfl) (hK.sub (tys' := [(cX, .int), (cV, .int)]) [0, 1] rfl) rfl rfl rfl rfl hl.1 rfl (Nat.le_of_ble_eq_true rfl) d_Sm_read_231 ⟨by decide, by decide⟩) hP hD hK hS hA [0, 1, 2] [] [] rfl rfl (by decide) (by decide) rfl (fun u26_ H locs e26_ hP hD hK hS => ?_)
                have hP : va_P (dC, dI) cls [(h0, .inr (4, [.ref sx, .ref sv, .int (nI j), .int (nI u26_.1), .int u26_.2, .int C9, .int vr, .int r25_, .int lf, .int sg, .int rt, .int tg])), (sx, .inl (cX, 12, .inl T)), (sv, .inl (cV, 8, .inl W9))] H := hP
                have hD : va_D A [(h0, .inr (4, [.ref sx, .ref sv, .int (nI j), .int (nI u26_.1), .int u26_.2, .int C9, .int vr, .int r25_, .int lf, .int sg, .int rt, .int tg])), (sx, .inl (cX, 12, .inl T)), (sv, .inl (cV, 8, .inl W9))] := hD
                have hK : va_K (dC, dI) cls [(cX, .int), (cV, .int)] s := hK
                refine W.widen (k := 0) (n := 0) (by omega) (by omega) ?_
                refine lv_aload_n hx hb d_Sm_read_234 rfl (lv_at hl 0 rfl) ?_
                refine lv_aload_n hx hb d_Sm_read_235 rfl (lv_at hl 0 rfl) ?_
                refine lv_iconst (v := 0) hx hb d_Sm_read_236 (by decide) ?_
                refine go_i (wr := []) (tr := []) (rV (C := "LineDisk$Statement") (ci := 4) (q0 := 0) (b := h0) (n := 1) (As := [.int 0]) (rest := [.ref h0]) F hkw (g_Sm_val0 l dC dI h0 sx sv cX cV T W9 j C9 vr r25_ lf sg rt tg hj2 u26_.1 u26_.2 e26_.2 H.size) xT_bl (fun _ _ _ => trivial) w_276 w_278 ws_8 w_5 w_279 rfl rfl (by decide +kernel) ⟨Nat.le_of_ble_eq_true rfl, Nat.le_of_ble_eq_true rfl⟩ (hP.sub (ws' := [(h0, .inr (4, [.ref sx, .ref sv, .int (nI j), .int (nI u26_.1), .int u26_.2, .int C9, .int vr, .int r25_, .int lf, .int sg, .int rt, .int tg])), (sx, .inl (cX, 12, .inl T)), (sv, .inl (cV, 8, .inl W9))]) [0, 1, 2] rfl) (hD.sub (ws' := [(h0, .inr (4, [.ref sx, .ref sv, .int (nI j), .int (nI u26_.1), .int u26_.2, .int C9, .int vr, .int r25_, .int lf, .int sg, .int rt, .int tg])), (sx, .inl (cX, 12, .inl T)), (sv, .inl (cV, 8, .inl W9))]) [0, 1, 2] (by decide) rfl) (hK.sub (tys' := [(cX, .int), (cV, .int)]) [0, 1] rfl) rfl rfl rfl rfl hl.1 rfl (Nat.le_of_ble_eq_true rfl) d_Sm_read_237 ⟨by decide, by decide⟩) hP hD hK hS hA [0, 1, 2] [] [] rfl rfl (by decide) (by decide) rfl (fun r27_ u27_ H locs e27_ hP hD hK hS => ?_)
                have hP : va_P (dC, dI) cls [(h0, .inr (4, [.ref sx, .ref sv, .int (nI j), .int (nI u27_.1), .int u27_.2, .int C9, .int vr, .int r25_, .int lf, .int sg, .int rt, .int tg])), (sx, .inl (cX, 12, .inl T)), (sv, .inl (cV, 8, .inl W9))] H := hP
                have hD : va_D A [(h0, .inr (4, [.ref sx, .ref sv, .int (nI j), .int (nI u27_.1), .int u27_.2, .int C9, .int vr, .int r25_, .int lf, .int sg, .int rt, .int tg])), (sx, .inl (cX, 12, .inl T)), (sv, .inl (cV, 8, .inl W9))] := hD
                have hK : va_K (dC, dI) cls [(cX, .int), (cV, .int)] s := hK
                refine W.widen (k := 0) (n := 0) (by omega) (by omega) ?_
                refine va_put (D := (dC, dI)) (ci := 4) (v := .int r27_) (ty := .int) (C := R_Sm) (T := F_Sm) (N := 12) hx hb hts in_Sm t_Sm t_Sm_ok n_Sm hown hK hP hD hS 0 rfl rfl 8 (by decide) (hts _ w_120) (fun _ h9 => h9) rfl (by decide +kernel) (rfl) (rfl) (Nat.le_of_ble_eq_true rfl) d_Sm_read_240 (fun H locs hP hD hS => ?_)
                have hP : va_P (dC, dI) cls [(h0, .inr (4, [.ref sx, .ref sv, .int (nI j), .int (nI u27_.1), .int u27_.2, .int C9, .int vr, .int r25_, .int r27_, .int sg, .int rt, .int tg])), (sx, .inl (cX, 12, .inl T)), (sv, .inl (cV, 8, .inl W9))] H := hP
                have hD : va_D A [(h0, .inr (4, [.ref sx, .ref sv, .int (nI j), .int (nI u27_.1), .int u27_.2, .int C9, .int vr, .int r25_, .int r27_, .int sg, .int rt, .int tg])), (sx, .inl (cX, 12, .inl T)), (sv, .inl (cV, 8, .inl W9))] := hD
                refine lv_aload_n hx hb d_Sm_read_243 rfl (lv_at hl 0 rfl) ?_
                refine lv_bipush (v := 44) hx hb d_Sm_read_244 (by decide) ?_
                refine go_v (wr := []) (tr := []) (rV (C := "LineDisk$Statement") (ci := 4) (q0 := 0) (b := h0) (n := 1) (As := [.int 44]) (rest := []) F hkw (g_Sm_expect l dC dI h0 sx sv cX cV T W9 j u27_.1 u27_.2 C9 vr r25_ r27_ sg rt tg hj2 e27_.2 44 (by decide) H.size) xT_bl (fun _ _ _ => trivial) w_272 w_274 ws_7 w_5 w_275 rfl rfl (by decide +kernel) ⟨Nat.le_of_ble_eq_true rfl, Nat.le_of_ble_eq_true rfl⟩ (hP.sub (ws' := [(h0, .inr (4, [.ref sx, .ref sv, .int (nI j), .int (nI u27_.1), .int u27_.2, .int C9, .int vr, .int r25_, .int r27_, .int sg, .int rt, .int tg])), (sx, .inl (cX, 12, .inl T)), (sv, .inl (cV, 8, .inl W9))]) [0, 1, 2] rfl) (hD.sub (ws' := [(h0, .inr (4, [.ref sx, .ref sv, .int (nI j), .int (nI u27_.1), .int u27_.2, .int C9, .int vr, .int r25_, .int r27_, .int sg, .int rt, .int tg])), (sx, .inl (cX, 12, .inl T)), (sv, .inl (cV, 8, .inl W9))]) [0, 1, 2] (by decide) rfl) (hK.sub (tys' := [(cX, .int), (cV, .int)]) [0, 1] rfl) rfl rfl rfl rfl hl.1 rfl (Nat.le_of_ble_eq_true rfl) d_Sm_read_246 ⟨by decide, by decide⟩) hP hD hK hS hA [0, 1, 2] [] [] rfl rfl (by decide) (by decide) rfl (fun u28_ H locs e28_ hP hD hK hS => ?_)
                have hP : va_P (dC, dI) cls [(h0, .inr (4, [.ref sx, .ref sv, .int (nI j), .int (nI u28_.1), .int u28_.2, .int C9, .int vr, .int r25_, .int r27_, .int sg, .int rt, .int tg])), (sx, .inl (cX, 12, .inl T)), (sv, .inl (cV, 8, .inl W9))] H := hP
                have hD : va_D A [(h0, .inr (4, [.ref sx, .ref sv, .int (nI j), .int (nI u28_.1), .int u28_.2, .int C9, .int vr, .int r25_, .int r27_, .int sg, .int rt, .int tg])), (sx, .inl (cX, 12, .inl T)), (sv, .inl (cV, 8, .inl W9))] := hD
                have hK : va_K (dC, dI) cls [(cX, .int), (cV, .int)] s := hK
                refine W.widen (k := 0) (n := 0) (by omega) (by omega) ?_
                refine lv_aload_n hx hb d_Sm_read_249 rfl (lv_at hl 0 rfl) ?_
                refine lv_aload_n hx hb d_Sm_read_250 rfl (lv_at hl 0 rfl) ?_
                refine go_i (wr := []) (tr := []) (rV (C := "LineDisk$Statement") (ci := 4) (q0 := 0) (b := h0) (n := 0) (As := []) (rest := [.ref h0]) F hkw (g_Sm_variable l dC dI h0 sx sv cX cV T W9 j u28_.1 u28_.2 C9 vr r25_ r27_ sg rt tg hj2 e28_.2 H.size) xT_bl (fun _ _ _ => trivial) w_264 w_266 ws_5 w_5 w_267 rfl rfl (by decide +kernel) ⟨Nat.le_of_ble_eq_true rfl, Nat.le_of_ble_eq_true rfl⟩ (hP.sub (ws' := [(h0, .inr (4, [.ref sx, .ref sv, .int (nI j), .int (nI u28_.1), .int u28_.2, .int C9, .int vr, .int r25_, .int r27_, .int sg, .int rt, .int tg])), (sx, .inl (cX, 12, .inl T)), (sv, .inl (cV, 8, .inl W9))]) [0, 1, 2] rfl) (hD.sub (ws' := [(h0, .inr (4, [.ref sx, .ref sv, .int (nI j), .int (nI u28_.1), .int u28_.2, .int C9, .int vr, .int r25_, .int r27_, .int sg, .int rt, .int tg])), (sx, .inl (cX, 12, .inl T)), (sv, .inl (cV, 8, .inl W9))]) [0, 1, 2] (by decide) rfl) (hK.sub (tys' := [(cX, .int), (cV, .int)]) [0, 1] rfl) rfl rfl rfl rfl hl.1 rfl (Nat.le_of_ble_eq_true rfl) d_Sm_read_251 ⟨by decide, by decide⟩) hP hD hK hS hA [0, 1, 2] [] [] rfl rfl (by decide) (by decide) rfl (fun r29_ u29_ H locs e29_ hP hD hK hS => ?_)
                have hP : va_P (dC, dI) cls [(h0, .inr (4, [.ref sx, .ref sv, .int (nI j), .int (nI u29_.1), .int u29_.2, .int C9, .int vr, .int r25_, .int r27_, .int sg, .int rt, .int tg])), (sx, .inl (cX, 12, .inl T)), (sv, .inl (cV, 8, .inl W9))] H := hP
                have hD : va_D A [(h0, .inr (4, [.ref sx, .ref sv, .int (nI j), .int (nI u29_.1), .int u29_.2, .int C9, .int vr, .int r25_, .int r27_, .int sg, .int rt, .int tg])), (sx, .inl (cX, 12, .inl T)), (sv, .inl (cV, 8, .inl W9))] := hD
                have hK : va_K (dC, dI) cls [(cX, .int), (cV, .int)] s := hK
                refine W.widen (k := 0) (n := 0) (by omega) (by omega) ?_
                refine va_put (D := (dC, dI)) (ci := 4) (v := .int r29_) (ty := .int) (C := R_Sm) (T := F_Sm) (N := 12) hx hb hts in_Sm t_Sm t_Sm_ok n_Sm hown hK hP hD hS 0 rfl rfl 6 (by decide) (hts _ w_116) (fun _ h9 => h9) rfl (by decide +kernel) (rfl) (rfl) (Nat.le_of_ble_eq_true rfl) d_Sm_read_254 (fun H locs hP hD hS => ?_)
                have hP : va_P (dC, dI) cls [(h0, .inr (4, [.ref sx, .ref sv, .int (nI j), .int (nI u29_.1), .int u29_.2, .int C9, .int r29_, .int r25_, .int r27_, .int sg, .int rt, .int tg])), (sx, .inl (cX, 12, .inl T)), (sv, .inl (cV, 8, .inl W9))] H := hP
                have hD : va_D A [(h0, .inr (4, [.ref sx, .ref sv, .int (nI j), .int (nI u29_.1), .int u29_.2, .int C9, .int r29_, .int r25_, .int r27_, .int sg, .int rt, .int tg])), (sx, .inl (cX, 12, .inl T)), (sv, .inl (cV, 8, .inl W9))] := hD
                refine lv_goto (tgt := 265) hx hb d_Sm_read_257 (by decide) ?_
                refine lv_aload_n hx hb d_Sm_read_265 rfl (lv_at hl 0 rfl) ?_
                refine va_get (D := (dC, dI)) (ci := 4) (v := .int u29_.2) (C := R_Sm) (T := F_Sm) (N := 12) hx hb hts in_Sm hown hK hP 0 rfl rfl 4 (by decide) (hts _ w_113) (fun _ h9 => h9) rfl d_Sm_read_266 ?_
                refine lv_if_eq (tgt := 287) hx hb d_Sm_read_269 (by decide) (fun c269 => ?_) (fun c269 => ?_)
                · skip
                  refine lv_iconst (v := 0) hx hb d_Sm_read_287 (by decide) ?_
                  have hR30 : (r29_, r25_, r27_, sg, rt, tg, u29_.1, u29_.2) = rdF (vlD T W9 j 12) T j C9 vr fi lf sg rt tg a9 1 := by
                    unfold rdF
                    rw [if_neg c17_61, if_neg c17_69, if_neg c17_71, if_neg c17_73, if_neg c17_80, if_pos c17_82]
                    simp only [← e25_.1, ← e26_.1, ← e27_.1, ← e28_.1, ← e29_.1]
                  refine W.widen (k := 0) (n := 0) (by decide) (by decide) ?_
                  exact W.zret (v := 0) hx hb hr (rfl) (fun t ht hW => ⟨⟨0, ((C9, r29_, r25_, r27_, sg, rt, tg, u29_.1, u29_.2), j, T, W9), rfl, Or.inr ⟨hg9, j, T, W9, hj1, hj2, rfl, hTe.symm, rfl, by rw [hCe, haE, ← hR30], by (simp only [rdA, c269, if_true, if_false, not_true_eq_false, not_false_eq_true, ite_not] <;> try simp)⟩, cB.of (hP.sub [0, 1, 2] rfl) (hD.sub [0, 1, 2] (by decide) rfl) (hK.sub [0, 1] rfl) ht hW⟩, hS.F ht⟩) hS.2.2 d_Sm_read_288
                · skip
                  refine lv_aload_n hx hb d_Sm_read_272 rfl (lv_at hl 0 rfl) ?_
                  refine va_get (D := (dC, dI)) (ci := 4) (v := .int (nI u29_.1)) (C := R_Sm) (T := F_Sm) (N := 12) hx hb hts in_Sm hown hK hP 0 rfl rfl 3 (by decide) (hts _ w_112) (fun _ h9 => h9) rfl d_Sm_read_273 ?_
                  refine lv_aload_n hx hb d_Sm_read_276 rfl (lv_at hl 0 rfl) ?_
                  refine va_get (D := (dC, dI)) (ci := 4) (v := .int (nI j)) (C := R_Sm) (T := F_Sm) (N := 12) hx hb hts in_Sm hown hK hP 0 rfl rfl 2 (by decide) (hts _ w_111) (fun _ h9 => h9) rfl d_Sm_read_277 ?_
                  refine lv_icmp_ne (tgt := 287) hx hb d_Sm_read_280 (by decide) (fun c280 => ?_) (fun c280 => ?_)
                  · skip
                    refine lv_iconst (v := 0) hx hb d_Sm_read_287 (by decide) ?_
                    have hR31 : (r29_, r25_, r27_, sg, rt, tg, u29_.1, u29_.2) = rdF (vlD T W9 j 12) T j C9 vr fi lf sg rt tg a9 1 := by
                      unfold rdF
                      rw [if_neg c17_61, if_neg c17_69, if_neg c17_71, if_neg c17_73, if_neg c17_80, if_pos c17_82]
                      simp only [← e25_.1, ← e26_.1, ← e27_.1, ← e28_.1, ← e29_.1]
                    refine W.widen (k := 0) (n := 0) (by decide) (by decide) ?_
                    exact W.zret (v := 0) hx hb hr (rfl) (fun t ht hW => ⟨⟨0, ((C9, r29_, r25_, r27_, sg, rt, tg, u29_.1, u29_.2), j, T, W9), rfl, Or.inr ⟨hg9, j, T, W9, hj1, hj2, rfl, hTe.symm, rfl, by rw [hCe, haE, ← hR31], by (simp only [rdA, c269, c280, if_true, if_false, not_true_eq_false, not_false_eq_true, ite_not] <;> try simp)⟩, cB.of (hP.sub [0, 1, 2] rfl) (hD.sub [0, 1, 2] (by decide) rfl) (hK.sub [0, 1] rfl) ht hW⟩, hS.F ht⟩) hS.2.2 d_Sm_read_288
                  · skip
                    refine lv_iconst (v := 1) hx hb d_Sm_read_283 (by decide) ?_
                    refine lv_goto (tgt := 288) hx hb d_Sm_read_284 (by decide) ?_
                    have hR32 : (r29_, r25_, r27_, sg, rt, tg, u29_.1, u29_.2) = rdF (vlD T W9 j 12) T j C9 vr fi lf sg rt tg a9 1 := by
                      unfold rdF
                      rw [if_neg c17_61, if_neg c17_69, if_neg c17_71, if_neg c17_73, if_neg c17_80, if_pos c17_82]
                      simp only [← e25_.1, ← e26_.1, ← e27_.1, ← e28_.1, ← e29_.1]
                    refine W.widen (k := 0) (n := 0) (by decide) (by decide) ?_
                    exact W.zret (v := 1) hx hb hr (rfl) (fun t ht hW => ⟨⟨1, ((C9, r29_, r25_, r27_, sg, rt, tg, u29_.1, u29_.2), j, T, W9), rfl, Or.inr ⟨hg9, j, T, W9, hj1, hj2, rfl, hTe.symm, rfl, by rw [hCe, haE, ← hR32], by (simp only [rdA, c269, c280, if_true, if_false, not_true_eq_false, not_false_eq_true, ite_not] <;> try simp)⟩, cB.of (hP.sub [0, 1, 2] rfl) (hD.sub [0, 1, 2] (by decide) rfl) (hK.sub [0, 1] rfl) ht hW⟩, hS.F ht⟩) hS.2.2 d_Sm_read_288
              · skip
                rcases Decidable.em (C9 = 87) with c17_87 | c17_87
                · skip
                  refine lv_lookup (off := 162) (tgt := 179) hx hb d_Sm_read_17 (by decide) (by rw [c17_87]; rfl) (by decide) ?_
                  refine lv_aload_n hx hb d_Sm_read_179 rfl (lv_at hl 0 rfl) ?_
                  refine lv_aload_n hx hb d_Sm_read_180 rfl (lv_at hl 0 rfl) ?_
                  refine go_i (wr := []) (tr := []) (rV (C := "LineDisk$Statement") (ci := 4) (q0 := 0) (b := h0) (n := 0) (As := []) (rest := [.ref h0]) F hkw (g_Sm_fileDigit l dC dI h0 sx sv cX cV T W9 j a9 1 C9 vr fi lf sg rt tg hj2 ha9 H.size) xT_bl (fun _ _ _ => trivial) w_301 w_303 ws_14 w_5 w_304 rfl rfl (by decide +kernel) ⟨Nat.le_of_ble_eq_true rfl, Nat.le_of_ble_eq_true rfl⟩ (hP.sub (ws' := [(h0, .inr (4, [.ref sx, .ref sv, .int (nI j), .int (nI a9), .int 1, .int C9, .int vr, .int fi, .int lf, .int sg, .int rt, .int tg])), (sx, .inl (cX, 12, .inl T)), (sv, .inl (cV, 8, .inl W9))]) [0, 1, 2] rfl) (hD.sub (ws' := [(h0, .inr (4, [.ref sx, .ref sv, .int (nI j), .int (nI a9), .int 1, .int C9, .int vr, .int fi, .int lf, .int sg, .int rt, .int tg])), (sx, .inl (cX, 12, .inl T)), (sv, .inl (cV, 8, .inl W9))]) [0, 1, 2] (by decide) rfl) (hK.sub (tys' := [(cX, .int), (cV, .int)]) [0, 1] rfl) rfl rfl rfl rfl hl.1 rfl (Nat.le_of_ble_eq_true rfl) d_Sm_read_181 ⟨by decide, by decide⟩) hP hD hK hS hA [0, 1, 2] [] [] rfl rfl (by decide) (by decide) rfl (fun r33_ u33_ H locs e33_ hP hD hK hS => ?_)
                  have hP : va_P (dC, dI) cls [(h0, .inr (4, [.ref sx, .ref sv, .int (nI j), .int (nI u33_.1), .int u33_.2, .int C9, .int vr, .int fi, .int lf, .int sg, .int rt, .int tg])), (sx, .inl (cX, 12, .inl T)), (sv, .inl (cV, 8, .inl W9))] H := hP
                  have hD : va_D A [(h0, .inr (4, [.ref sx, .ref sv, .int (nI j), .int (nI u33_.1), .int u33_.2, .int C9, .int vr, .int fi, .int lf, .int sg, .int rt, .int tg])), (sx, .inl (cX, 12, .inl T)), (sv, .inl (cV, 8, .inl W9))] := hD
                  have hK : va_K (dC, dI) cls [(cX, .int), (cV, .int)] s := hK
                  refine W.widen (k := 0) (n := 0) (by omega) (by omega) ?_
                  refine va_put (D := (dC, dI)) (ci := 4) (v := .int r33_) (ty := .int) (C := R_Sm) (T := F_Sm) (N := 12) hx hb hts in_Sm t_Sm t_Sm_ok n_Sm hown hK hP hD hS 0 rfl rfl 7 (by decide) (hts _ w_118) (fun _ h9 => h9) rfl (by decide +kernel) (rfl) (rfl) (Nat.le_of_ble_eq_true rfl) d_Sm_read_184 (fun H locs hP hD hS => ?_)
                  have hP : va_P (dC, dI) cls [(h0, .inr (4, [.ref sx, .ref sv, .int (nI j), .int (nI u33_.1), .int u33_.2, .int C9, .int vr, .int r33_, .int lf, .int sg, .int rt, .int tg])), (sx, .inl (cX, 12, .inl T)), (sv, .inl (cV, 8, .inl W9))] H := hP
                  have hD : va_D A [(h0, .inr (4, [.ref sx, .ref sv, .int (nI j), .int (nI u33_.1), .int u33_.2, .int C9, .int vr, .int r33_, .int lf, .int sg, .int rt, .int tg])), (sx, .inl (cX, 12, .inl T)), (sv, .inl (cV, 8, .inl W9))] := hD
                  refine lv_aload_n hx hb d_Sm_read_187 rfl (lv_at hl 0 rfl) ?_
                  refine lv_bipush (v := 44) hx hb d_Sm_read_188 (by decide) ?_
                  refine go_v (wr := []) (tr := []) (rV (C := "LineDisk$Statement") (ci := 4) (q0 := 0) (b := h0) (n := 1) (As := [.int 44]) (rest := []) F hkw (g_Sm_expect l dC dI h0 sx sv cX cV T W9 j u33_.1 u33_.2 C9 vr r33_ lf sg rt tg hj2 e33_.2 44 (by decide) H.size) xT_bl (fun _ _ _ => trivial) w_272 w_274 ws_7 w_5 w_275 rfl rfl (by decide +kernel) ⟨Nat.le_of_ble_eq_true rfl, Nat.le_of_ble_eq_true rfl⟩ (hP.sub (ws' := [(h0, .inr (4, [.ref sx, .ref sv, .int (nI j), .int (nI u33_.1), .int u33_.2, .int C9, .int vr, .int r33_, .int lf, .int sg, .int rt, .int tg])), (sx, .inl (cX, 12, .inl T)), (sv, .inl (cV, 8, .inl W9))]) [0, 1, 2] rfl) (hD.sub (ws' := [(h0, .inr (4, [.ref sx, .ref sv, .int (nI j), .int (nI u33_.1), .int u33_.2, .int C9, .int vr, .int r33_, .int lf, .int sg, .int rt, .int tg])), (sx, .inl (cX, 12, .inl T)), (sv, .inl (cV, 8, .inl W9))]) [0, 1, 2] (by decide) rfl) (hK.sub (tys' := [(cX, .int), (cV, .int)]) [0, 1] rfl) rfl rfl rfl rfl hl.1 rfl (Nat.le_of_ble_eq_true rfl) d_Sm_read_190 ⟨by decide, by decide⟩) hP hD hK hS hA [0, 1, 2] [] [] rfl rfl (by decide) (by decide) rfl (fun u34_ H locs e34_ hP hD hK hS => ?_)
                  have hP : va_P (dC, dI) cls [(h0, .inr (4, [.ref sx, .ref sv, .int (nI j), .int (nI u34_.1), .int u34_.2, .int C9, .int vr, .int r33_, .int lf, .int sg, .int rt, .int tg])), (sx, .inl (cX, 12, .inl T)), (sv, .inl (cV, 8, .inl W9))] H := hP
                  have hD : va_D A [(h0, .inr (4, [.ref sx, .ref sv, .int (nI j), .int (nI u34_.1), .int u34_.2, .int C9, .int vr, .int r33_, .int lf, .int sg, .int rt, .int tg])), (sx, .inl (cX, 12, .inl T)), (sv, .inl (cV, 8, .inl W9))] := hD
                  have hK : va_K (dC, dI) cls [(cX, .int), (cV, .int)] s := hK
                  refine W.widen (k := 0) (n := 0) (by omega) (by omega) ?_
                  refine lv_aload_n hx hb d_Sm_read_193 rfl (lv_at hl 0 rfl) ?_
                  refine lv_aload_n hx hb d_Sm_read_194 rfl (lv_at hl 0 rfl) ?_
                  refine lv_iconst (v := 0) hx hb d_Sm_read_195 (by decide) ?_
                  refine go_i (wr := []) (tr := []) (rV (C := "LineDisk$Statement") (ci := 4) (q0 := 0) (b := h0) (n := 1) (As := [.int 0]) (rest := [.ref h0]) F hkw (g_Sm_val0 l dC dI h0 sx sv cX cV T W9 j C9 vr r33_ lf sg rt tg hj2 u34_.1 u34_.2 e34_.2 H.size) xT_bl (fun _ _ _ => trivial) w_276 w_278 ws_8 w_5 w_279 rfl rfl (by decide +kernel) ⟨Nat.le_of_ble_eq_true rfl, Nat.le_of_ble_eq_true rfl⟩ (hP.sub (ws' := [(h0, .inr (4, [.ref sx, .ref sv, .int (nI j), .int (nI u34_.1), .int u34_.2, .int C9, .int vr, .int r33_, .int lf, .int sg, .int rt, .int tg])), (sx, .inl (cX, 12, .inl T)), (sv, .inl (cV, 8, .inl W9))]) [0, 1, 2] rfl) (hD.sub (ws' := [(h0, .inr (4, [.ref sx, .ref sv, .int (nI j), .int (nI u34_.1), .int u34_.2, .int C9, .int vr, .int r33_, .int lf, .int sg, .int rt, .int tg])), (sx, .inl (cX, 12, .inl T)), (sv, .inl (cV, 8, .inl W9))]) [0, 1, 2] (by decide) rfl) (hK.sub (tys' := [(cX, .int), (cV, .int)]) [0, 1] rfl) rfl rfl rfl rfl hl.1 rfl (Nat.le_of_ble_eq_true rfl) d_Sm_read_196 ⟨by decide, by decide⟩) hP hD hK hS hA [0, 1, 2] [] [] rfl rfl (by decide) (by decide) rfl (fun r35_ u35_ H locs e35_ hP hD hK hS => ?_)
                  have hP : va_P (dC, dI) cls [(h0, .inr (4, [.ref sx, .ref sv, .int (nI j), .int (nI u35_.1), .int u35_.2, .int C9, .int vr, .int r33_, .int lf, .int sg, .int rt, .int tg])), (sx, .inl (cX, 12, .inl T)), (sv, .inl (cV, 8, .inl W9))] H := hP
                  have hD : va_D A [(h0, .inr (4, [.ref sx, .ref sv, .int (nI j), .int (nI u35_.1), .int u35_.2, .int C9, .int vr, .int r33_, .int lf, .int sg, .int rt, .int tg])), (sx, .inl (cX, 12, .inl T)), (sv, .inl (cV, 8, .inl W9))] := hD
                  have hK : va_K (dC, dI) cls [(cX, .int), (cV, .int)] s := hK
                  refine W.widen (k := 0) (n := 0) (by omega) (by omega) ?_
                  refine va_put (D := (dC, dI)) (ci := 4) (v := .int r35_) (ty := .int) (C := R_Sm) (T := F_Sm) (N := 12) hx hb hts in_Sm t_Sm t_Sm_ok n_Sm hown hK hP hD hS 0 rfl rfl 8 (by decide) (hts _ w_120) (fun _ h9 => h9) rfl (by decide +kernel) (rfl) (rfl) (Nat.le_of_ble_eq_true rfl) d_Sm_read_199 (fun H locs hP hD hS => ?_)
                  have hP : va_P (dC, dI) cls [(h0, .inr (4, [.ref sx, .ref sv, .int (nI j), .int (nI u35_.1), .int u35_.2, .int C9, .int vr, .int r33_, .int r35_, .int sg, .int rt, .int tg])), (sx, .inl (cX, 12, .inl T)), (sv, .inl (cV, 8, .inl W9))] H := hP
                  have hD : va_D A [(h0, .inr (4, [.ref sx, .ref sv, .int (nI j), .int (nI u35_.1), .int u35_.2, .int C9, .int vr, .int r33_, .int r35_, .int sg, .int rt, .int tg])), (sx, .inl (cX, 12, .inl T)), (sv, .inl (cV, 8, .inl W9))] := hD
                  refine lv_aload_n hx hb d_Sm_read_202 rfl (lv_at hl 0 rfl) ?_
                  refine lv_bipush (v := 44) hx hb d_Sm_read_203 (by decide) ?_
                  refine go_v (wr := []) (tr := []) (rV (C := "LineDisk$Statement") (ci := 4) (q0 := 0) (b := h0) (n := 1) (As := [.int 44]) (rest := []) F hkw (g_Sm_expect l dC dI h0 sx sv cX cV T W9 j u35_.1 u35_.2 C9 vr r33_ r35_ sg rt tg hj2 e35_.2 44 (by decide) H.size) xT_bl (fun _ _ _ => trivial) w_272 w_274 ws_7 w_5 w_275 rfl rfl (by decide +kernel) ⟨Nat.le_of_ble_eq_true rfl, Nat.le_of_ble_eq_true rfl⟩ (hP.sub (ws' := [(h0, .inr (4, [.ref sx, .ref sv, .int (nI j), .int (nI u35_.1), .int u35_.2, .int C9, .int vr, .int r33_, .int r35_, .int sg, .int rt, .int tg])), (sx, .inl (cX, 12, .inl T)), (sv, .inl (cV, 8, .inl W9))]) [0, 1, 2] rfl) (hD.sub (ws' := [(h0, .inr (4, [.ref sx, .ref sv, .int (nI j), .int (nI u35_.1), .int u35_.2, .int C9, .int vr, .int r33_, .int r35_, .int sg, .int rt, .int tg])), (sx, .inl (cX, 12, .inl T)), (sv, .inl (cV, 8, .inl W9))]) [0, 1, 2] (by decide) rfl) (hK.sub (tys' := [(cX, .int), (cV, .int)]) [0, 1] rfl) rfl rfl rfl rfl hl.1 rfl (Nat.le_of_ble_eq_true rfl) d_Sm_read_205 ⟨by decide, by decide⟩) hP hD hK hS hA [0, 1, 2] [] [] rfl rfl (by decide) (by decide) rfl (fun u36_ H locs e36_ hP hD hK hS => ?_)
                  have hP : va_P (dC, dI) cls [(h0, .inr (4, [.ref sx, .ref sv, .int (nI j), .int (nI u36_.1), .int u36_.2, .int C9, .int vr, .int r33_, .int r35_, .int sg, .int rt, .int tg])), (sx, .inl (cX, 12, .inl T)), (sv, .inl (cV, 8, .inl W9))] H := hP
                  have hD : va_D A [(h0, .inr (4, [.ref sx, .ref sv, .int (nI j), .int (nI u36_.1), .int u36_.2, .int C9, .int vr, .int r33_, .int r35_, .int sg, .int rt, .int tg])), (sx, .inl (cX, 12, .inl T)), (sv, .inl (cV, 8, .inl W9))] := hD
                  have hK : va_K (dC, dI) cls [(cX, .int), (cV, .int)] s := hK
                  refine W.widen (k := 0) (n := 0) (by omega) (by omega) ?_
                  refine lv_aload_n hx hb d_Sm_read_208 rfl (lv_at hl 0 rfl) ?_
                  refine lv_aload_n hx hb d_Sm_read_209 rfl (lv_at hl 0 rfl) ?_
                  refine lv_iconst (v := 0) hx hb d_Sm_read_210 (by decide) ?_
                  refine go_i (wr := []) (tr := []) (rV (C := "LineDisk$Statement") (ci := 4) (q0 := 0) (b := h0) (n := 1) (As := [.int 0]) (rest := [.ref h0]) F hkw (g_Sm_val0 l dC dI h0 sx sv cX cV T W9 j C9 vr r33_ r35_ sg rt tg hj2 u36_.1 u36_.2 e36_.2 H.size) xT_bl (fun _ _ _ => trivial) w_276 w_278 ws_8 w_5 w_279 rfl rfl (by decide +kernel) ⟨Nat.le_of_ble_eq_true rfl, Nat.le_of_ble_eq_true rfl⟩ (hP.sub (ws' := [(h0, .inr (4, [.ref sx, .ref sv, .int (nI j), .int (nI u36_.1), .int u36_.2, .int C9, .int vr, .int r33_, .int r35_, .int sg, .int rt, .int tg])), (sx, .inl (cX, 12, .inl T)), (sv, .inl (cV, 8, .inl W9))]) [0, 1, 2] rfl) (hD.sub (ws' := [(h0, .inr (4, [.ref sx, .ref sv, .int (nI j), .int (nI u36_.1), .int u36_.2, .int C9, .int vr, .int r33_, .int r35_, .int sg, .int rt, .int tg])), (sx, .inl (cX, 12, .inl T)), (sv, .inl (cV, 8, .inl W9))]) [0, 1, 2] (by decide) rfl) (hK.sub (tys' := [(cX, .int), (cV, .int)]) [0, 1] rfl) rfl rfl rfl rfl hl.1 rfl (Nat.le_of_ble_eq_true rfl) d_Sm_read_211 ⟨by decide, by decide⟩) hP hD hK hS hA [0, 1, 2] [] [] rfl rfl (by decide) (by decide) rfl (fun r37_ u37_ H locs e37_ hP hD hK hS => ?_)
                  have hP : va_P (dC, dI) cls [(h0, .inr (4, [.ref sx, .ref sv, .int (nI j), .int (nI u37_.1), .int u37_.2, .int C9, .int vr, .int r33_, .int r35_, .int sg, .int rt, .int tg])), (sx, .inl (cX, 12, .inl T)), (sv, .inl (cV, 8, .inl W9))] H := hP
                  have hD : va_D A [(h0, .inr (4, [.ref sx, .ref sv, .int (nI j), .int (nI u37_.1), .int u37_.2, .int C9, .int vr, .int r33_, .int r35_, .int sg, .int rt, .int tg])), (sx, .inl (cX, 12, .inl T)), (sv, .inl (cV, 8, .inl W9))] := hD
                  have hK : va_K (dC, dI) cls [(cX, .int), (cV, .int)] s := hK
                  refine W.widen (k := 0) (n := 0) (by omega) (by omega) ?_
                  refine va_put (D := (dC, dI)) (ci := 4) (v := .int r37_) (ty := .int) (C := R_Sm) (T := F_Sm) (N := 12) hx hb hts in_Sm t_Sm t_Sm_ok n_Sm hown hK hP hD hS 0 rfl rfl 10 (by decide) (hts _ w_123) (fun _ h9 => h9) rfl (by decide +kernel) (rfl) (rfl) (Nat.le_of_ble_eq_true rfl) d_Sm_read_214 (fun H locs hP hD hS => ?_)
                  have hP : va_P (dC, dI) cls [(h0, .inr (4, [.ref sx, .ref sv, .int (nI j), .int (nI u37_.1), .int u37_.2, .int C9, .int vr, .int r33_, .int r35_, .int sg, .int r37_, .int tg])), (sx, .inl (cX, 12, .inl T)), (sv, .inl (cV, 8, .inl W9))] H := hP
                  have hD : va_D A [(h0, .inr (4, [.ref sx, .ref sv, .int (nI j), .int (nI u37_.1), .int u37_.2, .int C9, .int vr, .int r33_, .int r35_, .int sg, .int r37_, .int tg])), (sx, .inl (cX, 12, .inl T)), (sv, .inl (cV, 8, .inl W9))] := hD
                  refine lv_goto (tgt := 265) hx hb d_Sm_read_217 (by decide) ?_
                  refine lv_aload_n hx hb d_Sm_read_265 rfl (lv_at hl 0 rfl) ?_
                  refine va_get (D := (dC, dI)) (ci := 4) (v := .int u37_.2) (C := R_Sm) (T := F_Sm) (N := 12) hx hb hts in_Sm hown hK hP 0 rfl rfl 4 (by decide) (hts _ w_113) (fun _ h9 => h9) rfl d_Sm_read_266 ?_
                  refine lv_if_eq (tgt := 287) hx hb d_Sm_read_269 (by decide) (fun c269 => ?_) (fun c269 => ?_)
                  · skip
                    refine lv_iconst (v := 0) hx hb d_Sm_read_287 (by decide) ?_
                    have hR38 : (vr, r33_, r35_, sg, r37_, tg, u37_.1, u37_.2) = rdF (vlD T W9 j 12) T j C9 vr fi lf sg rt tg a9 1 := by
                      unfold rdF
                      rw [if_neg c17_61, if_neg c17_69, if_neg c17_71, if_neg c17_73, if_neg c17_80, if_neg c17_82, if_pos c17_87]
                      simp only [← e33_.1, ← e34_.1, ← e35_.1, ← e36_.1, ← e37_.1]
                    refine W.widen (k := 0) (n := 0) (by decide) (by decide) ?_
                    exact W.zret (v := 0) hx hb hr (rfl) (fun t ht hW => ⟨⟨0, ((C9, vr, r33_, r35_, sg, r37_, tg, u37_.1, u37_.2), j, T, W9), rfl, Or.inr ⟨hg9, j, T, W9, hj1, hj2, rfl, hTe.symm, rfl, by rw [hCe, haE, ← hR38], by (simp only [rdA, c269, if_true, if_false, not_true_eq_false, not_false_eq_true, ite_not] <;> try simp)⟩, cB.of (hP.sub [0, 1, 2] rfl) (hD.sub [0, 1, 2] (by decide) rfl) (hK.sub [0, 1] rfl) ht hW⟩, hS.F ht⟩) hS.2.2 d_Sm_read_288
                  · skip
                    refine lv_aload_n hx hb d_Sm_read_272 rfl (lv_at hl 0 rfl) ?_
                    refine va_get (D := (dC, dI)) (ci := 4) (v := .int (nI u37_.1)) (C := R_Sm) (T := F_Sm) (N := 12) hx hb hts in_Sm hown hK hP 0 rfl rfl 3 (by decide) (hts _ w_112) (fun _ h9 => h9) rfl d_Sm_read_273 ?_
                    refine lv_aload_n hx hb d_Sm_read_276 rfl (lv_at hl 0 rfl) ?_
                    refine va_get (D := (dC, dI)) (ci := 4) (v := .int (nI j)) (C := R_Sm) (T := F_Sm) (N := 12) hx hb hts in_Sm hown hK hP 0 rfl rfl 2 (by decide) (hts _ w_111) (fun _ h9 => h9) rfl d_Sm_read_277 ?_
                    refine lv_icmp_ne (tgt := 287) hx hb d_Sm_read_280 (by decide) (fun c280 => ?_) (fun c280 => ?_)
                    · skip
                      refine lv_iconst (v := 0) hx hb d_Sm_read_287 (by decide) ?_
                      have hR39 : (vr, r33_, r35_, sg, r37_, tg, u37_.1, u37_.2) = rdF (vlD T W9 j 12) T j C9 vr fi lf sg rt tg a9 1 := by
                        unfold rdF
                        rw [if_neg c17_61, if_neg c17_69, if_neg c17_71, if_neg c17_73, if_neg c17_80, if_neg c17_82, if_pos c17_87]
                        simp only [← e33_.1, ← e34_.1, ← e35_.1, ← e36_.1, ← e37_.1]
                      refine W.widen (k := 0) (n := 0) (by decide) (by decide) ?_
                      exact W.zret (v := 0) hx hb hr (rfl) (fun t ht hW => ⟨⟨0, ((C9, vr, r33_, r35_, sg, r37_, tg, u37_.1, u37_.2), j, T, W9), rfl, Or.inr ⟨hg9, j, T, W9, hj1, hj2, rfl, hTe.symm, rfl, by rw [hCe, haE, ← hR39], by (simp only [rdA, c269, c280, if_true, if_false, not_true_eq_false, not_false_eq_true, ite_not] <;> try simp)⟩, cB.of (hP.sub [0, 1, 2] rfl) (hD.sub [0, 1, 2] (by decide) rfl) (hK.sub [0, 1] rfl) ht hW⟩, hS.F ht⟩) hS.2.2 d_Sm_read_288
                    · skip
                      refine lv_iconst (v := 1) hx hb d_Sm_read_283 (by decide) ?_
                      refine lv_goto (tgt := 288) hx hb d_Sm_read_284 (by decide) ?_
                      have hR40 : (vr, r33_, r35_, sg, r37_, tg, u37_.1, u37_.2) = rdF (vlD T W9 j 12) T j C9 vr fi lf sg rt tg a9 1 := by
                        unfold rdF
                        rw [if_neg c17_61, if_neg c17_69, if_neg c17_71, if_neg c17_73, if_neg c17_80, if_neg c17_82, if_pos c17_87]
                        simp only [← e33_.1, ← e34_.1, ← e35_.1, ← e36_.1, ← e37_.1]
                      refine W.widen (k := 0) (n := 0) (by decide) (by decide) ?_
                      exact W.zret (v := 1) hx hb hr (rfl) (fun t ht hW => ⟨⟨1, ((C9, vr, r33_, r35_, sg, r37_, tg, u37_.1, u37_.2), j, T, W9), rfl, Or.inr ⟨hg9, j, T, W9, hj1, hj2, rfl, hTe.symm, rfl, by rw [hCe, haE, ← hR40], by (simp only [rdA, c269, c280, if_true, if_false, not_true_eq_false, not_false_eq_true, ite_not] <;> try simp)⟩, cB.of (hP.sub [0, 1, 2] rfl) (hD.sub [0, 1, 2] (by decide) rfl) (hK.sub [0, 1] rfl) ht hW⟩, hS.F ht⟩) hS.2.2 d_Sm_read_288
                · skip
                  refine lv_lookup (off := 243) (tgt := 260) hx hb d_Sm_read_17 (by decide) ((lv_osw c17_61 rfl).trans ((lv_osw c17_69 rfl).trans ((lv_osw c17_71 rfl).trans ((lv_osw c17_73 rfl).trans ((lv_osw c17_80 rfl).trans ((lv_osw c17_82 rfl).trans ((lv_osw c17_87 rfl).trans (rfl)))))))) (by decide) ?_
                  refine lv_aload_n hx hb d_Sm_read_260 rfl (lv_at hl 0 rfl) ?_
                  refine lv_iconst (v := 0) hx hb d_Sm_read_261 (by decide) ?_
                  refine va_put (D := (dC, dI)) (ci := 4) (v := .int 0) (ty := .boolean) (C := R_Sm) (T := F_Sm) (N := 12) hx hb hts in_Sm t_Sm t_Sm_ok n_Sm hown hK hP hD hS 0 rfl rfl 4 (by decide) (hts _ w_113) (fun _ h9 => h9) rfl (by decide +kernel) (rfl) (rfl) (Nat.le_of_ble_eq_true rfl) d_Sm_read_262 (fun H locs hP hD hS => ?_)
                  have hP : va_P (dC, dI) cls [(h0, .inr (4, [.ref sx, .ref sv, .int (nI j), .int (nI a9), .int 0, .int C9, .int vr, .int fi, .int lf, .int sg, .int rt, .int tg])), (sx, .inl (cX, 12, .inl T)), (sv, .inl (cV, 8, .inl W9))] H := hP
                  have hD : va_D A [(h0, .inr (4, [.ref sx, .ref sv, .int (nI j), .int (nI a9), .int 0, .int C9, .int vr, .int fi, .int lf, .int sg, .int rt, .int tg])), (sx, .inl (cX, 12, .inl T)), (sv, .inl (cV, 8, .inl W9))] := hD
                  refine lv_aload_n hx hb d_Sm_read_265 rfl (lv_at hl 0 rfl) ?_
                  refine va_get (D := (dC, dI)) (ci := 4) (v := .int 0) (C := R_Sm) (T := F_Sm) (N := 12) hx hb hts in_Sm hown hK hP 0 rfl rfl 4 (by decide) (hts _ w_113) (fun _ h9 => h9) rfl d_Sm_read_266 ?_
                  refine lv_if_eq (tgt := 287) hx hb d_Sm_read_269 (by decide) (fun _ => ?_) (fun h => absurd (by decide) h)
                  refine lv_iconst (v := 0) hx hb d_Sm_read_287 (by decide) ?_
                  have hR41 : (vr, fi, lf, sg, rt, tg, a9, 0) = rdF (vlD T W9 j 12) T j C9 vr fi lf sg rt tg a9 1 := by
                    unfold rdF
                    rw [if_neg c17_61, if_neg c17_69, if_neg c17_71, if_neg c17_73, if_neg c17_80, if_neg c17_82, if_neg c17_87]
                  refine W.widen (k := 0) (n := 0) (by decide) (by decide) ?_
                  exact W.zret (v := 0) hx hb hr (rfl) (fun t ht hW => ⟨⟨0, ((C9, vr, fi, lf, sg, rt, tg, a9, 0), j, T, W9), rfl, Or.inr ⟨hg9, j, T, W9, hj1, hj2, rfl, hTe.symm, rfl, by rw [hCe, haE, ← hR41], by (simp only [rdA, if_true, if_false, not_true_eq_false, not_false_eq_true, ite_not] <;> try simp)⟩, cB.of (hP.sub [0, 1, 2] rfl) (hD.sub [0, 1, 2] (by decide) rfl) (hK.sub [0, 1] rfl) ht hW⟩, hS.F ht⟩) hS.2.2 d_Sm_read_288
