/-! the store, in any state: what each method answers and leaves, as a function -/
def cellv (g : Nat → Int32) (x : Int32) : Int32 := if x < 0 then 0 else if 512 ≤ x then 0 else g x.toNatClampNeg
def fmtv (g : Nat → Int32) : Int32 := if ¬ g 0 = 7077 then 0 else 1
def blkv (x : Int32) : Int32 := (x + 16 - 1) / 16
def wrS (ar de wr : Int32) (g : Nat → Int32) (n0 : Nat) (f : Nat → Int32) (bk fr : Int32) : Int32 × Int32 × Int32 × Int32 × (Nat → Int32) :=
  if ¬ ar = 0 then
    if bk < 0 then (1, if ar ≤ 0 then ar else ar - 1, de, wr, g)
    else if 32 ≤ bk then (1, if ar ≤ 0 then ar else ar - 1, de, wr, g)
    else if fr < 0 then (1, if ar ≤ 0 then ar else ar - 1, de, wr, g)
    else if Int32.ofNat n0 - 16 < fr then (1, if ar ≤ 0 then ar else ar - 1, de, wr, g)
    else (1, if ar ≤ 0 then ar else ar - 1, de, wr + 1, va_cpy f g fr.toNatClampNeg (bk * 16).toNatClampNeg (16 : Int32).toNatClampNeg)
  else (0, -1, 1, wr, g)
theorem nar_b {r : Int32} (h : r = 0 ∨ r = 1) : narrow .boolean (.int r) = .int r := by
  rcases h with rfl | rfl <;> rfl
theorem wrS_b {ar de wr : Int32} {g : Nat → Int32} {n0 : Nat} {f : Nat → Int32} {bk fr : Int32} {q : Int32 × Int32 × Int32 × Int32 × (Nat → Int32)} (h : q = wrS ar de wr g n0 f bk fr) : q.1 = 0 ∨ q.1 = 1 := by
  subst h
  unfold wrS
  repeat' split
  all_goals simp
theorem fmtv_b (g : Nat → Int32) : fmtv g = 0 ∨ fmtv g = 1 := by
  unfold fmtv
  split <;> simp
theorem in512g {x : Int32} (h1 : ¬ x < 0) (h2 : ¬ 512 ≤ x) : vp_in x 512 := by
  rw [vp_in_iff]
  have a := Int32.not_lt.mp h1
  have b := Int32.not_le.mp h2
  rw [Int32.le_iff_toInt_le] at a
  rw [Int32.lt_iff_toInt_lt] at b
  exact ⟨by simpa using a, by simpa using b⟩
theorem bk16 {bk : Int32} (h1 : ¬ bk < 0) (h2 : ¬ 32 ≤ bk) : ¬ bk * 16 < 0 ∧ (bk * 16).toNatClampNeg + (16 : Int32).toNatClampNeg ≤ 512 := by
  rcases pk_ix bk (n := 32) (by decide) with h | h | ⟨j, hj, rfl⟩
  · exact absurd h h1
  · exact absurd h h2
  · have e : nI j * 16 = nI (j * 16) := pk_mul j 16
    rw [e]
    refine ⟨nI_pos (by omega), ?_⟩
    rw [nI_clamp (by omega)]
    have e2 : (16 : Int32).toNatClampNeg = 16 := by decide
    omega
theorem fr16 {n0 : Nat} {fr : Int32} (hn : 16 ≤ n0) (hn2 : n0 < 2 ^ 31) (h1 : ¬ fr < 0) (h2 : ¬ Int32.ofNat n0 - 16 < fr) : fr.toNatClampNeg + (16 : Int32).toNatClampNeg ≤ n0 := by
  obtain ⟨j, hj, rfl⟩ := nI_of h1
  have e : Int32.ofNat n0 - 16 = nI (n0 - 16) := pk_sub (a := n0) (b := 16) hn
  rw [e, nI_ltI (by omega) hj] at h2
  rw [nI_clamp hj]
  have e2 : (16 : Int32).toNatClampNeg = 16 := by decide
  omega
set_option maxHeartbeats 4000000 in
set_option maxRecDepth 100000 in
theorem g_St_cell (l : Launch) (dC : Nat → ClassId) (dI : Nat → Nat → Nat) (h0 c0 : Nat) (cA : ClassId) (ar de wr : Int32) (g : Nat → Int32) (x : Int32) (sz : Nat) : Met l y_St_cell (Cond.code y_St_cell b_St_cell 2 (some .int) :: gw) ({ frames := 0, cells := 0, slots := 0, locals := 0 }) (cP (dC, dI) [.ref h0, .int x] sz [(h0, .inr (1, [.ref c0, .int ar, .int de, .int wr])), (c0, .inl (cA, 512, .inl g))] [(cA, .int)] xT) (va_Qi (fun (r : Int32) (u : Unit) => r = cellv g x) (fun (u : Unit) t => cB (dC, dI) (va_A [(h0, .inr (1, [.ref c0, .int ar, .int de, .int wr])), (c0, .inl (cA, 512, .inl g))] sz) [(h0, .inr (1, [.ref c0, .int ar, .int de, .int wr])), (c0, .inl (cA, 512, .inl g))] [(cA, .int)] t) (va_A [(h0, .inr (1, [.ref c0, .int ar, .int de, .int wr])), (c0, .inl (cA, 512, .inl g))] sz)) 0 0 (va_A [(h0, .inr (1, [.ref c0, .int ar, .int de, .int wr])), (c0, .inl (cA, 512, .inl g))] sz) := by
  refine Met.ofW (cc := b_St_cell) (maxL := 2) (ret := (some .int)) (by decide) rfl ?_
  intro p e s m args below meth c s₁ B hml hv
  obtain ⟨rfl, hsz, hP, hK, hD0, hkw, hX⟩ := hv
  have hx := B.exec
  have hb := B.bytes
  have hr := B.returns
  have hts := fun w hw => atoms_spec (ws := Cond.code y_St_cell b_St_cell 2 (some .int) :: gw) B.pre w (List.mem_cons_of_mem _ hw)
  have hown : s.vm.findClass "LineDisk$Store" = some m.cls := findClass_of_methodNamed B.named
  have hlocks := B.notSynchronized
  have hin := (name_of_methodNamed B.named B.method).1
  subst hsz
  have hD := hD0.self (sz := s.heap.size)
  generalize hAe : va_A [(h0, .inr (1, [.ref c0, .int ar, .int de, .int wr])), (c0, .inl (cA, 512, .inl g))] s.heap.size = A at hD ⊢
  have hA : ∀ q : Nat, s.heap.size ≤ q → A q := fun q h => by rw [← hAe]; exact Or.inr h
  have hS : va_S A s.heap s.heap [] := va_S.rf
  have hl := lv_entry ([.ref h0, .int x]) (n := 2) (Nat.le_of_ble_eq_true rfl)
  rw [lg_entry_eq]
  generalize (lg_sl ([.ref h0, .int x]) ++ List.replicate (2 - (lg_sl ([.ref h0, .int x])).length) Slot.unset).toArray = ls at hl ⊢
  have hl : lv_has ls 2 [(0, .ref h0), (1, .int x)] := hl
  have F : CallFix p m c b_St_cell 2 s ([.ref h0, .int x]).toArray gw "LineDisk$Store" := ⟨hx, hb, hml, hown, hts⟩
  refine lv_iload_n hx hb d_St_cell_0 rfl (lv_at hl 1 rfl) ?_
  refine lv_if_lt (tgt := 22) hx hb d_St_cell_1 (by decide) (fun c1 => ?_) (fun c1 => ?_)
  · skip
    refine lv_iconst (v := 0) hx hb d_St_cell_22 (by decide) ?_
    refine W.widen (k := 0) (n := 0) (by decide) (by decide) ?_
    exact W.iret (v := 0) hx hb hr (fun t ht hW => ⟨⟨0, (), rfl, by (simp only [cellv, c1, if_true, if_false, not_true_eq_false, not_false_eq_true, ite_not] <;> try simp), cB.of (hP.sub [0, 1] rfl) (hD.sub [0, 1] (by decide) rfl) (hK.sub [0] rfl) ht hW⟩, hS.F ht⟩) hS.2.2 d_St_cell_23
  · skip
    refine lv_iload_n hx hb d_St_cell_4 rfl (lv_at hl 1 rfl) ?_
    refine lv_aload_n hx hb d_St_cell_5 rfl (lv_at hl 0 rfl) ?_
    refine va_get (D := (dC, dI)) (ci := 1) (v := .ref c0) (C := R_St) (T := F_St) (N := 4) hx hb hts in_St hown hK hP 0 rfl rfl 0 (by decide) (hts _ w_29) (fun _ h9 => h9) rfl d_St_cell_6 ?_
    refine va_alen (v := 512) hx hb hK hP 1 0 rfl rfl rfl d_St_cell_9 ?_
    refine lv_icmp_ge (tgt := 22) hx hb d_St_cell_10 (by decide) (fun c10 => ?_) (fun c10 => ?_)
    · skip
      refine lv_iconst (v := 0) hx hb d_St_cell_22 (by decide) ?_
      refine W.widen (k := 0) (n := 0) (by decide) (by decide) ?_
      exact W.iret (v := 0) hx hb hr (fun t ht hW => ⟨⟨0, (), rfl, by (simp only [cellv, c1, c10, if_true, if_false, not_true_eq_false, not_false_eq_true, ite_not] <;> try simp), cB.of (hP.sub [0, 1] rfl) (hD.sub [0, 1] (by decide) rfl) (hK.sub [0] rfl) ht hW⟩, hS.F ht⟩) hS.2.2 d_St_cell_23
    · skip
      refine lv_aload_n hx hb d_St_cell_13 rfl (lv_at hl 0 rfl) ?_
      refine va_get (D := (dC, dI)) (ci := 1) (v := .ref c0) (C := R_St) (T := F_St) (N := 4) hx hb hts in_St hown hK hP 0 rfl rfl 0 (by decide) (hts _ w_29) (fun _ h9 => h9) rfl d_St_cell_14 ?_
      refine lv_iload_n hx hb d_St_cell_17 rfl (lv_at hl 1 rfl) ?_
      refine va_iald hx hb hK hP 1 0 rfl rfl (in512g c1 c10) d_St_cell_18 ?_
      refine lv_goto (tgt := 23) hx hb d_St_cell_19 (by decide) ?_
      refine W.widen (k := 0) (n := 0) (by decide) (by decide) ?_
      exact W.iret (v := g x.toNatClampNeg) hx hb hr (fun t ht hW => ⟨⟨g x.toNatClampNeg, (), rfl, by (simp only [cellv, c1, c10, if_true, if_false, not_true_eq_false, not_false_eq_true, ite_not] <;> try simp), cB.of (hP.sub [0, 1] rfl) (hD.sub [0, 1] (by decide) rfl) (hK.sub [0] rfl) ht hW⟩, hS.F ht⟩) hS.2.2 d_St_cell_23
set_option maxHeartbeats 4000000 in
set_option maxRecDepth 100000 in
theorem g_St_isF (l : Launch) (dC : Nat → ClassId) (dI : Nat → Nat → Nat) (h0 c0 : Nat) (cA : ClassId) (ar de wr : Int32) (g : Nat → Int32) (sz : Nat) : Met l y_St_isFormatted (Cond.code y_St_isFormatted b_St_isFormatted 1 (some .boolean) :: gw) ({ frames := 0, cells := 0, slots := 0, locals := 0 }) (cP (dC, dI) [.ref h0] sz [(h0, .inr (1, [.ref c0, .int ar, .int de, .int wr])), (c0, .inl (cA, 512, .inl g))] [(cA, .int)] xT) (va_Qi (fun (r : Int32) (u : Unit) => r = fmtv g) (fun (u : Unit) t => cB (dC, dI) (va_A [(h0, .inr (1, [.ref c0, .int ar, .int de, .int wr])), (c0, .inl (cA, 512, .inl g))] sz) [(h0, .inr (1, [.ref c0, .int ar, .int de, .int wr])), (c0, .inl (cA, 512, .inl g))] [(cA, .int)] t) (va_A [(h0, .inr (1, [.ref c0, .int ar, .int de, .int wr])), (c0, .inl (cA, 512, .inl g))] sz)) 0 0 (va_A [(h0, .inr (1, [.ref c0, .int ar, .int de, .int wr])), (c0, .inl (cA, 512, .inl g))] sz) := by
  refine Met.ofW (cc := b_St_isFormatted) (maxL := 1) (ret := (some .boolean)) (by decide) rfl ?_
  intro p e s m args below meth c s₁ B hml hv
  obtain ⟨rfl, hsz, hP, hK, hD0, hkw, hX⟩ := hv
  have hx := B.exec
  have hb := B.bytes
  have hr := B.returns
  have hts := fun w hw => atoms_spec (ws := Cond.code y_St_isFormatted b_St_isFormatted 1 (some .boolean) :: gw) B.pre w (List.mem_cons_of_mem _ hw)
  have hown : s.vm.findClass "LineDisk$Store" = some m.cls := findClass_of_methodNamed B.named
  have hlocks := B.notSynchronized
  have hin := (name_of_methodNamed B.named B.method).1
  subst hsz
  have hD := hD0.self (sz := s.heap.size)
  generalize hAe : va_A [(h0, .inr (1, [.ref c0, .int ar, .int de, .int wr])), (c0, .inl (cA, 512, .inl g))] s.heap.size = A at hD ⊢
  have hA : ∀ q : Nat, s.heap.size ≤ q → A q := fun q h => by rw [← hAe]; exact Or.inr h
  have hS : va_S A s.heap s.heap [] := va_S.rf
  have hl := lv_entry ([.ref h0]) (n := 1) (Nat.le_of_ble_eq_true rfl)
  rw [lg_entry_eq]
  generalize (lg_sl ([.ref h0]) ++ List.replicate (1 - (lg_sl ([.ref h0])).length) Slot.unset).toArray = ls at hl ⊢
  have hl : lv_has ls 1 [(0, .ref h0)] := hl
  have F : CallFix p m c b_St_isFormatted 1 s ([.ref h0]).toArray gw "LineDisk$Store" := ⟨hx, hb, hml, hown, hts⟩
  refine lv_aload_n hx hb d_St_isFormatted_0 rfl (lv_at hl 0 rfl) ?_
  refine va_get (D := (dC, dI)) (ci := 1) (v := .ref c0) (C := R_St) (T := F_St) (N := 4) hx hb hts in_St hown hK hP 0 rfl rfl 0 (by decide) (hts _ w_29) (fun _ h9 => h9) rfl d_St_isFormatted_1 ?_
  refine lv_iconst (v := 0) hx hb d_St_isFormatted_4 (by decide) ?_
  refine va_iald hx hb hK hP 1 0 rfl rfl (vp_in_iff.mpr (by decide)) d_St_isFormatted_5 ?_
  refine tv (x2 := g 0) (by exact rfl) ?_
  refine lv_sipush (v := 7077) hx hb d_St_isFormatted_6 (by decide) ?_
  refine lv_icmp_ne (tgt := 16) hx hb d_St_isFormatted_9 (by decide) (fun c9 => ?_) (fun c9 => ?_)
  · skip
    refine lv_iconst (v := 0) hx hb d_St_isFormatted_16 (by decide) ?_
    refine W.widen (k := 0) (n := 0) (by decide) (by decide) ?_
    exact W.zret (v := 0) hx hb hr (rfl) (fun t ht hW => ⟨⟨0, (), rfl, by (simp only [fmtv, c9, if_true, if_false, not_true_eq_false, not_false_eq_true, ite_not] <;> try simp), cB.of (hP.sub [0, 1] rfl) (hD.sub [0, 1] (by decide) rfl) (hK.sub [0] rfl) ht hW⟩, hS.F ht⟩) hS.2.2 d_St_isFormatted_17
  · skip
    refine lv_iconst (v := 1) hx hb d_St_isFormatted_12 (by decide) ?_
    refine lv_goto (tgt := 17) hx hb d_St_isFormatted_13 (by decide) ?_
    refine W.widen (k := 0) (n := 0) (by decide) (by decide) ?_
    exact W.zret (v := 1) hx hb hr (rfl) (fun t ht hW => ⟨⟨1, (), rfl, by (simp only [fmtv, c9, if_true, if_false, not_true_eq_false, not_false_eq_true, ite_not] <;> try simp), cB.of (hP.sub [0, 1] rfl) (hD.sub [0, 1] (by decide) rfl) (hK.sub [0] rfl) ht hW⟩, hS.F ht⟩) hS.2.2 d_St_isFormatted_17
set_option maxHeartbeats 4000000 in
set_option maxRecDepth 100000 in
theorem g_St_fileCells (l : Launch) (dC : Nat → ClassId) (dI : Nat → Nat → Nat) (h0 c0 : Nat) (cA : ClassId) (ar de wr : Int32) (g : Nat → Int32) (x : Int32) (sz : Nat) : Met l y_St_fileCells (Cond.code y_St_fileCells b_St_fileCells 2 (some .int) :: gw) ({ frames := 1, cells := 0, slots := 0, locals := 21 }) (cP (dC, dI) [.ref h0, .int x] sz [(h0, .inr (1, [.ref c0, .int ar, .int de, .int wr])), (c0, .inl (cA, 512, .inl g))] [(cA, .int)] xT) (va_Qi (fun (r : Int32) (u : Unit) => r = cellv g (16 + 2 * x)) (fun (u : Unit) t => cB (dC, dI) (va_A [(h0, .inr (1, [.ref c0, .int ar, .int de, .int wr])), (c0, .inl (cA, 512, .inl g))] sz) [(h0, .inr (1, [.ref c0, .int ar, .int de, .int wr])), (c0, .inl (cA, 512, .inl g))] [(cA, .int)] t) (va_A [(h0, .inr (1, [.ref c0, .int ar, .int de, .int wr])), (c0, .inl (cA, 512, .inl g))] sz)) 0 0 (va_A [(h0, .inr (1, [.ref c0, .int ar, .int de, .int wr])), (c0, .inl (cA, 512, .inl g))] sz) := by
  refine Met.ofW (cc := b_St_fileCells) (maxL := 2) (ret := (some .int)) (by decide) rfl ?_
  intro p e s m args below meth c s₁ B hml hv
  obtain ⟨rfl, hsz, hP, hK, hD0, hkw, hX⟩ := hv
  have hx := B.exec
  have hb := B.bytes
  have hr := B.returns
  have hts := fun w hw => atoms_spec (ws := Cond.code y_St_fileCells b_St_fileCells 2 (some .int) :: gw) B.pre w (List.mem_cons_of_mem _ hw)
  have hown : s.vm.findClass "LineDisk$Store" = some m.cls := findClass_of_methodNamed B.named
  have hlocks := B.notSynchronized
  have hin := (name_of_methodNamed B.named B.method).1
  subst hsz
  have hD := hD0.self (sz := s.heap.size)
  generalize hAe : va_A [(h0, .inr (1, [.ref c0, .int ar, .int de, .int wr])), (c0, .inl (cA, 512, .inl g))] s.heap.size = A at hD ⊢
  have hA : ∀ q : Nat, s.heap.size ≤ q → A q := fun q h => by rw [← hAe]; exact Or.inr h
  have hS : va_S A s.heap s.heap [] := va_S.rf
  have hl := lv_entry ([.ref h0, .int x]) (n := 2) (Nat.le_of_ble_eq_true rfl)
  rw [lg_entry_eq]
  generalize (lg_sl ([.ref h0, .int x]) ++ List.replicate (2 - (lg_sl ([.ref h0, .int x])).length) Slot.unset).toArray = ls at hl ⊢
  have hl : lv_has ls 2 [(0, .ref h0), (1, .int x)] := hl
  have F : CallFix p m c b_St_fileCells 2 s ([.ref h0, .int x]).toArray gw "LineDisk$Store" := ⟨hx, hb, hml, hown, hts⟩
  refine lv_aload_n hx hb d_St_fileCells_0 rfl (lv_at hl 0 rfl) ?_
  refine lv_bipush (v := 16) hx hb d_St_fileCells_1 (by decide) ?_
  refine lv_iconst (v := 2) hx hb d_St_fileCells_3 (by decide) ?_
  refine lv_iload_n hx hb d_St_fileCells_4 rfl (lv_at hl 1 rfl) ?_
  refine lv_imul hx hb d_St_fileCells_5 ?_
  refine lv_iadd hx hb d_St_fileCells_6 ?_
  refine go_i (wr := []) (tr := []) (rV (C := "LineDisk$Store") (ci := 1) (q0 := 0) (b := h0) (n := 1) (As := [.int (16 + (2 * x))]) (rest := []) F hkw (g_St_cell l dC dI h0 c0 cA ar de wr g (16 + 2 * x) s.heap.size) xT_bl (fun _ _ _ => trivial) w_328 w_210 w_211 w_2 w_212 rfl rfl (by decide +kernel) ⟨Nat.le_of_ble_eq_true rfl, Nat.le_of_ble_eq_true rfl⟩ (hP.sub (ws' := [(h0, .inr (1, [.ref c0, .int ar, .int de, .int wr])), (c0, .inl (cA, 512, .inl g))]) [0, 1] rfl) (hD.sub (ws' := [(h0, .inr (1, [.ref c0, .int ar, .int de, .int wr])), (c0, .inl (cA, 512, .inl g))]) [0, 1] (by decide) rfl) (hK.sub (tys' := [(cA, .int)]) [0] rfl) rfl rfl rfl rfl hl.1 rfl (Nat.le_of_ble_eq_true rfl) d_St_fileCells_7 ⟨by decide, by decide⟩) hP hD hK hS hA [0, 1] [] [] rfl rfl (by decide) (by decide) rfl (fun r u H locs hw hP hD hK hS => ?_)
  have hP : va_P (dC, dI) cls [(h0, .inr (1, [.ref c0, .int ar, .int de, .int wr])), (c0, .inl (cA, 512, .inl g))] H := hP
  have hD : va_D A [(h0, .inr (1, [.ref c0, .int ar, .int de, .int wr])), (c0, .inl (cA, 512, .inl g))] := hD
  have hK : va_K (dC, dI) cls [(cA, .int)] s := hK
  refine W.widen (k := 0) (n := 0) (by omega) (by omega) ?_
  subst hw
  refine W.widen (k := 0) (n := 0) (by decide) (by decide) ?_
  exact W.iret (v := cellv g (16 + 2 * x)) hx hb hr (fun t ht hW => ⟨⟨cellv g (16 + 2 * x), (), rfl, rfl, cB.of (hP.sub [0, 1] rfl) (hD.sub [0, 1] (by decide) rfl) (hK.sub [0] rfl) ht hW⟩, hS.F ht⟩) hS.2.2 d_St_fileCells_10
set_option maxHeartbeats 4000000 in
set_option maxRecDepth 100000 in
theorem g_St_fileStart (l : Launch) (dC : Nat → ClassId) (dI : Nat → Nat → Nat) (h0 c0 : Nat) (cA : ClassId) (ar de wr : Int32) (g : Nat → Int32) (x : Int32) (sz : Nat) : Met l y_St_fileStart (Cond.code y_St_fileStart b_St_fileStart 2 (some .int) :: gw) ({ frames := 1, cells := 0, slots := 0, locals := 21 }) (cP (dC, dI) [.ref h0, .int x] sz [(h0, .inr (1, [.ref c0, .int ar, .int de, .int wr])), (c0, .inl (cA, 512, .inl g))] [(cA, .int)] xT) (va_Qi (fun (r : Int32) (u : Unit) => r = cellv g (16 + 2 * x + 1) * 16) (fun (u : Unit) t => cB (dC, dI) (va_A [(h0, .inr (1, [.ref c0, .int ar, .int de, .int wr])), (c0, .inl (cA, 512, .inl g))] sz) [(h0, .inr (1, [.ref c0, .int ar, .int de, .int wr])), (c0, .inl (cA, 512, .inl g))] [(cA, .int)] t) (va_A [(h0, .inr (1, [.ref c0, .int ar, .int de, .int wr])), (c0, .inl (cA, 512, .inl g))] sz)) 0 0 (va_A [(h0, .inr (1, [.ref c0, .int ar, .int de, .int wr])), (c0, .inl (cA, 512, .inl g))] sz) := by
  refine Met.ofW (cc := b_St_fileStart) (maxL := 2) (ret := (some .int)) (by decide) rfl ?_
  intro p e s m args below meth c s₁ B hml hv
  obtain ⟨rfl, hsz, hP, hK, hD0, hkw, hX⟩ := hv
  have hx := B.exec
  have hb := B.bytes
  have hr := B.returns
  have hts := fun w hw => atoms_spec (ws := Cond.code y_St_fileStart b_St_fileStart 2 (some .int) :: gw) B.pre w (List.mem_cons_of_mem _ hw)
  have hown : s.vm.findClass "LineDisk$Store" = some m.cls := findClass_of_methodNamed B.named
  have hlocks := B.notSynchronized
  have hin := (name_of_methodNamed B.named B.method).1
  subst hsz
  have hD := hD0.self (sz := s.heap.size)
  generalize hAe : va_A [(h0, .inr (1, [.ref c0, .int ar, .int de, .int wr])), (c0, .inl (cA, 512, .inl g))] s.heap.size = A at hD ⊢
  have hA : ∀ q : Nat, s.heap.size ≤ q → A q := fun q h => by rw [← hAe]; exact Or.inr h
  have hS : va_S A s.heap s.heap [] := va_S.rf
  have hl := lv_entry ([.ref h0, .int x]) (n := 2) (Nat.le_of_ble_eq_true rfl)
  rw [lg_entry_eq]
  generalize (lg_sl ([.ref h0, .int x]) ++ List.replicate (2 - (lg_sl ([.ref h0, .int x])).length) Slot.unset).toArray = ls at hl ⊢
  have hl : lv_has ls 2 [(0, .ref h0), (1, .int x)] := hl
  have F : CallFix p m c b_St_fileStart 2 s ([.ref h0, .int x]).toArray gw "LineDisk$Store" := ⟨hx, hb, hml, hown, hts⟩
  refine lv_aload_n hx hb d_St_fileStart_0 rfl (lv_at hl 0 rfl) ?_
  refine lv_bipush (v := 16) hx hb d_St_fileStart_1 (by decide) ?_
  refine lv_iconst (v := 2) hx hb d_St_fileStart_3 (by decide) ?_
  refine lv_iload_n hx hb d_St_fileStart_4 rfl (lv_at hl 1 rfl) ?_
  refine lv_imul hx hb d_St_fileStart_5 ?_
  refine lv_iadd hx hb d_St_fileStart_6 ?_
  refine lv_iconst (v := 1) hx hb d_St_fileStart_7 (by decide) ?_
  refine lv_iadd hx hb d_St_fileStart_8 ?_
  refine go_i (wr := []) (tr := []) (rV (C := "LineDisk$Store") (ci := 1) (q0 := 0) (b := h0) (n := 1) (As := [.int ((16 + (2 * x)) + 1)]) (rest := []) F hkw (g_St_cell l dC dI h0 c0 cA ar de wr g (16 + 2 * x + 1) s.heap.size) xT_bl (fun _ _ _ => trivial) w_328 w_210 w_211 w_2 w_212 rfl rfl (by decide +kernel) ⟨Nat.le_of_ble_eq_true rfl, Nat.le_of_ble_eq_true rfl⟩ (hP.sub (ws' := [(h0, .inr (1, [.ref c0, .int ar, .int de, .int wr])), (c0, .inl (cA, 512, .inl g))]) [0, 1] rfl) (hD.sub (ws' := [(h0, .inr (1, [.ref c0, .int ar, .int de, .int wr])), (c0, .inl (cA, 512, .inl g))]) [0, 1] (by decide) rfl) (hK.sub (tys' := [(cA, .int)]) [0] rfl) rfl rfl rfl rfl hl.1 rfl (Nat.le_of_ble_eq_true rfl) d_St_fileStart_9 ⟨by decide, by decide⟩) hP hD hK hS hA [0, 1] [] [] rfl rfl (by decide) (by decide) rfl (fun r u H locs hw hP hD hK hS => ?_)
  have hP : va_P (dC, dI) cls [(h0, .inr (1, [.ref c0, .int ar, .int de, .int wr])), (c0, .inl (cA, 512, .inl g))] H := hP
  have hD : va_D A [(h0, .inr (1, [.ref c0, .int ar, .int de, .int wr])), (c0, .inl (cA, 512, .inl g))] := hD
  have hK : va_K (dC, dI) cls [(cA, .int)] s := hK
  refine W.widen (k := 0) (n := 0) (by omega) (by omega) ?_
  subst hw
  refine lv_bipush (v := 16) hx hb d_St_fileStart_12 (by decide) ?_
  refine lv_imul hx hb d_St_fileStart_14 ?_
  refine W.widen (k := 0) (n := 0) (by decide) (by decide) ?_
  exact W.iret (v := (cellv g (16 + 2 * x + 1)) * 16) hx hb hr (fun t ht hW => ⟨⟨(cellv g (16 + 2 * x + 1)) * 16, (), rfl, rfl, cB.of (hP.sub [0, 1] rfl) (hD.sub [0, 1] (by decide) rfl) (hK.sub [0] rfl) ht hW⟩, hS.F ht⟩) hS.2.2 d_St_fileStart_15
def xRn (row n0 : Nat) (f : Nat → Int32) (h0 c0 : Nat) : State → Prop := fun U => va_X row n0 f U U.heap ∧ row < U.heap.size ∧ row ≠ h0 ∧ row ≠ c0
theorem xRn_bl {row n0 : Nat} {f : Nat → Int32} {h0 c0 : Nat} : xBl (xRn row n0 f h0 c0) := fun U g mk a h => ⟨va_X.moved (u := U) (U := U.calling g mk a) (Vm.Alike.refl U.vm) h.1, h.2⟩
set_option maxHeartbeats 4000000 in
set_option maxRecDepth 100000 in
theorem g_St_write (l : Launch) (dC : Nat → ClassId) (dI : Nat → Nat → Nat) (h0 c0 : Nat) (cA : ClassId) (ar de wr : Int32) (g : Nat → Int32) (row n0 : Nat) (f : Nat → Int32) (bk fr : Int32) (hn : 16 ≤ n0) (hn2 : n0 < 2 ^ 31) (sz : Nat) : Met l y_St_write (Cond.code y_St_write b_St_write 4 (some .boolean) :: gw) ({ frames := 1, cells := 0, slots := 0, locals := 100 }) (cP (dC, dI) [.ref h0, .int bk, .ref row, .int fr] sz [(h0, .inr (1, [.ref c0, .int ar, .int de, .int wr])), (c0, .inl (cA, 512, .inl g))] [(cA, .int)] (xRn row n0 f h0 c0)) (va_Qi (fun (r : Int32) (u : Int32 × Int32 × Int32 × (Nat → Int32)) => (r, u) = wrS ar de wr g n0 f bk fr) (fun (u : Int32 × Int32 × Int32 × (Nat → Int32)) t => cB (dC, dI) (va_A [(h0, .inr (1, [.ref c0, .int ar, .int de, .int wr])), (c0, .inl (cA, 512, .inl g))] sz) [(h0, .inr (1, [.ref c0, .int u.1, .int u.2.1, .int u.2.2.1])), (c0, .inl (cA, 512, .inl u.2.2.2))] [(cA, .int)] t) (va_A [(h0, .inr (1, [.ref c0, .int ar, .int de, .int wr])), (c0, .inl (cA, 512, .inl g))] sz)) 0 0 (va_A [(h0, .inr (1, [.ref c0, .int ar, .int de, .int wr])), (c0, .inl (cA, 512, .inl g))] sz) := by
  refine Met.ofW (cc := b_St_write) (maxL := 4) (ret := (some .boolean)) (by decide) rfl ?_
  intro p e s m args below meth c s₁ B hml hv
  obtain ⟨rfl, hsz, hP, hK, hD0, hkw, hX⟩ := hv
  have hx := B.exec
  have hb := B.bytes
  have hr := B.returns
  have hts := fun w hw => atoms_spec (ws := Cond.code y_St_write b_St_write 4 (some .boolean) :: gw) B.pre w (List.mem_cons_of_mem _ hw)
  have hown : s.vm.findClass "LineDisk$Store" = some m.cls := findClass_of_methodNamed B.named
  have hlocks := B.notSynchronized
  have hin := (name_of_methodNamed B.named B.method).1
  subst hsz
  have hD := hD0.self (sz := s.heap.size)
  generalize hAe : va_A [(h0, .inr (1, [.ref c0, .int ar, .int de, .int wr])), (c0, .inl (cA, 512, .inl g))] s.heap.size = A at hD ⊢
  have hA : ∀ q : Nat, s.heap.size ≤ q → A q := fun q h => by rw [← hAe]; exact Or.inr h
  have hS : va_S A s.heap s.heap [] := va_S.rf
  have hl := lv_entry ([.ref h0, .int bk, .ref row, .int fr]) (n := 4) (Nat.le_of_ble_eq_true rfl)
  rw [lg_entry_eq]
  generalize (lg_sl ([.ref h0, .int bk, .ref row, .int fr]) ++ List.replicate (4 - (lg_sl ([.ref h0, .int bk, .ref row, .int fr])).length) Slot.unset).toArray = ls at hl ⊢
  have hl : lv_has ls 4 [(0, .ref h0), (1, .int bk), (2, .ref row), (3, .int fr)] := hl
  have F : CallFix p m c b_St_write 4 s ([.ref h0, .int bk, .ref row, .int fr]).toArray gw "LineDisk$Store" := ⟨hx, hb, hml, hown, hts⟩
  obtain ⟨hXr, hrl, hr1, hr2⟩ := hX
  have hbA : ¬ A row := by
    rw [← hAe]
    rintro (⟨k, e, h⟩ | h)
    · match k, h with
      | 0, h => exact hr1 (by cases h; rfl)
      | 1, h => exact hr2 (by cases h; rfl)
    · omega
  refine lv_aload_n hx hb d_St_write_0 rfl (lv_at hl 0 rfl) ?_
  refine va_get (D := (dC, dI)) (ci := 1) (v := .int ar) (C := R_St) (T := F_St) (N := 4) hx hb hts in_St hown hK hP 0 rfl rfl 1 (by decide) (hts _ w_30) (fun _ h9 => h9) rfl d_St_write_1 ?_
  refine lv_if_ne (tgt := 19) hx hb d_St_write_4 (by decide) (fun c4 => ?_) (fun c4 => ?_)
  · skip
    refine lv_aload_n hx hb d_St_write_19 rfl (lv_at hl 0 rfl) ?_
    refine va_get (D := (dC, dI)) (ci := 1) (v := .int ar) (C := R_St) (T := F_St) (N := 4) hx hb hts in_St hown hK hP 0 rfl rfl 1 (by decide) (hts _ w_30) (fun _ h9 => h9) rfl d_St_write_20 ?_
    refine lv_if_le (tgt := 36) hx hb d_St_write_23 (by decide) (fun c23 => ?_) (fun c23 => ?_)
    · skip
      refine lv_iload_n hx hb d_St_write_36 rfl (lv_at hl 1 rfl) ?_
      refine lv_if_lt (tgt := 84) hx hb d_St_write_37 (by decide) (fun c37 => ?_) (fun c37 => ?_)
      · skip
        refine lv_iconst (v := 1) hx hb d_St_write_84 (by decide) ?_
        refine W.widen (k := 0) (n := 0) (by decide) (by decide) ?_
        exact W.zret (v := 1) hx hb hr (rfl) (fun t ht hW => ⟨⟨1, (ar, de, wr, g), rfl, by (simp only [wrS, c4, c23, c37, if_true, if_false, not_true_eq_false, not_false_eq_true, ite_not] <;> try simp), cB.of (hP.sub [0, 1] rfl) (hD.sub [0, 1] (by decide) rfl) (hK.sub [0] rfl) ht hW⟩, hS.F ht⟩) hS.2.2 d_St_write_85
      · skip
        refine lv_iload_n hx hb d_St_write_40 rfl (lv_at hl 1 rfl) ?_
        refine lv_bipush (v := 32) hx hb d_St_write_41 (by decide) ?_
        refine lv_icmp_ge (tgt := 84) hx hb d_St_write_43 (by decide) (fun c43 => ?_) (fun c43 => ?_)
        · skip
          refine lv_iconst (v := 1) hx hb d_St_write_84 (by decide) ?_
          refine W.widen (k := 0) (n := 0) (by decide) (by decide) ?_
          exact W.zret (v := 1) hx hb hr (rfl) (fun t ht hW => ⟨⟨1, (ar, de, wr, g), rfl, by (simp only [wrS, c4, c23, c37, c43, if_true, if_false, not_true_eq_false, not_false_eq_true, ite_not] <;> try simp), cB.of (hP.sub [0, 1] rfl) (hD.sub [0, 1] (by decide) rfl) (hK.sub [0] rfl) ht hW⟩, hS.F ht⟩) hS.2.2 d_St_write_85
        · skip
          refine lv_iload_n hx hb d_St_write_46 rfl (lv_at hl 3 rfl) ?_
          refine lv_if_lt (tgt := 84) hx hb d_St_write_47 (by decide) (fun c47 => ?_) (fun c47 => ?_)
          · skip
            refine lv_iconst (v := 1) hx hb d_St_write_84 (by decide) ?_
            refine W.widen (k := 0) (n := 0) (by decide) (by decide) ?_
            exact W.zret (v := 1) hx hb hr (rfl) (fun t ht hW => ⟨⟨1, (ar, de, wr, g), rfl, by (simp only [wrS, c4, c23, c37, c43, c47, if_true, if_false, not_true_eq_false, not_false_eq_true, ite_not] <;> try simp), cB.of (hP.sub [0, 1] rfl) (hD.sub [0, 1] (by decide) rfl) (hK.sub [0] rfl) ht hW⟩, hS.F ht⟩) hS.2.2 d_St_write_85
          · skip
            refine lv_iload_n hx hb d_St_write_50 rfl (lv_at hl 3 rfl) ?_
            refine lv_aload_n hx hb d_St_write_51 rfl (lv_at hl 2 rfl) ?_
            refine va_slen hx hb hXr hrl hbA hS d_St_write_52 ?_
            refine lv_bipush (v := 16) hx hb d_St_write_53 (by decide) ?_
            refine lv_isub hx hb d_St_write_55 ?_
            refine lv_icmp_gt (tgt := 84) hx hb d_St_write_56 (by decide) (fun c56 => ?_) (fun c56 => ?_)
            · skip
              refine lv_iconst (v := 1) hx hb d_St_write_84 (by decide) ?_
              refine W.widen (k := 0) (n := 0) (by decide) (by decide) ?_
              exact W.zret (v := 1) hx hb hr (rfl) (fun t ht hW => ⟨⟨1, (ar, de, wr, g), rfl, by (simp only [wrS, c4, c23, c37, c43, c47, c56, if_true, if_false, not_true_eq_false, not_false_eq_true, ite_not] <;> try simp), cB.of (hP.sub [0, 1] rfl) (hD.sub [0, 1] (by decide) rfl) (hK.sub [0] rfl) ht hW⟩, hS.F ht⟩) hS.2.2 d_St_write_85
            · skip
              refine lv_aload_n hx hb d_St_write_59 rfl (lv_at hl 2 rfl) ?_
              refine lv_iload_n hx hb d_St_write_60 rfl (lv_at hl 3 rfl) ?_
              refine lv_aload_n hx hb d_St_write_61 rfl (lv_at hl 0 rfl) ?_
              refine va_get (D := (dC, dI)) (ci := 1) (v := .ref c0) (C := R_St) (T := F_St) (N := 4) hx hb hts in_St hown hK hP 0 rfl rfl 0 (by decide) (hts _ w_29) (fun _ h9 => h9) rfl d_St_write_62 ?_
              refine lv_iload_n hx hb d_St_write_65 rfl (lv_at hl 1 rfl) ?_
              refine lv_bipush (v := 16) hx hb d_St_write_66 (by decide) ?_
              refine lv_imul hx hb d_St_write_68 ?_
              refine lv_bipush (v := 16) hx hb d_St_write_69 (by decide) ?_
              refine va_copyx (rest := []) hx hb (by rw [hml]; exact hl.1.symm) hown (hts _ w_181) (hts _ w_183) (hts _ w_182) (hts _ w_7) hK hP hD hS hXr hrl hbA 1 0 rfl rfl c47 (bk16 c37 c43).1 (by decide) (fr16 hn hn2 c47 c56) (bk16 c37 c43).2 (by decide) (by decide) d_St_write_71 (fun H locs hP hD hS => ?_)
              have hP : va_P (dC, dI) cls [(h0, .inr (1, [.ref c0, .int ar, .int de, .int wr])), (c0, .inl (cA, 512, .inl (va_cpy f g fr.toNatClampNeg (bk * 16).toNatClampNeg (16 : Int32).toNatClampNeg)))] H := hP
              have hD : va_D A [(h0, .inr (1, [.ref c0, .int ar, .int de, .int wr])), (c0, .inl (cA, 512, .inl (va_cpy f g fr.toNatClampNeg (bk * 16).toNatClampNeg (16 : Int32).toNatClampNeg)))] := hD
              refine lv_aload_n hx hb d_St_write_74 rfl (lv_at hl 0 rfl) ?_
              refine lv_dup hx hb d_St_write_75 rfl ?_
              refine va_get (D := (dC, dI)) (ci := 1) (v := .int wr) (C := R_St) (T := F_St) (N := 4) hx hb hts in_St hown hK hP 0 rfl rfl 3 (by decide) (hts _ w_34) (fun _ h9 => h9) rfl d_St_write_76 ?_
              refine lv_iconst (v := 1) hx hb d_St_write_79 (by decide) ?_
              refine lv_iadd hx hb d_St_write_80 ?_
              refine va_put (D := (dC, dI)) (ci := 1) (v := .int (wr + 1)) (ty := .int) (C := R_St) (T := F_St) (N := 4) hx hb hts in_St t_St t_St_ok n_St hown hK hP hD hS 0 rfl rfl 3 (by decide) (hts _ w_34) (fun _ h9 => h9) rfl (by decide +kernel) (rfl) (rfl) (Nat.le_of_ble_eq_true rfl) d_St_write_81 (fun H locs hP hD hS => ?_)
              have hP : va_P (dC, dI) cls [(h0, .inr (1, [.ref c0, .int ar, .int de, .int (wr + 1)])), (c0, .inl (cA, 512, .inl (va_cpy f g fr.toNatClampNeg (bk * 16).toNatClampNeg (16 : Int32).toNatClampNeg)))] H := hP
              have hD : va_D A [(h0, .inr (1, [.ref c0, .int ar, .int de, .int (wr + 1)])), (c0, .inl (cA, 512, .inl (va_cpy f g fr.toNatClampNeg (bk * 16).toNatClampNeg (16 : Int32).toNatClampNeg)))] := hD
              refine lv_iconst (v := 1) hx hb d_St_write_84 (by decide) ?_
              refine W.widen (k := 0) (n := 0) (by decide) (by decide) ?_
              exact W.zret (v := 1) hx hb hr (rfl) (fun t ht hW => ⟨⟨1, (ar, de, wr + 1, va_cpy f g fr.toNatClampNeg (bk * 16).toNatClampNeg (16 : Int32).toNatClampNeg), rfl, by (simp only [wrS, c4, c23, c37, c43, c47, c56, if_true, if_false, not_true_eq_false, not_false_eq_true, ite_not] <;> try simp), cB.of (hP.sub [0, 1] rfl) (hD.sub [0, 1] (by decide) rfl) (hK.sub [0] rfl) ht hW⟩, hS.F ht⟩) hS.2.2 d_St_write_85
    · skip
      refine lv_aload_n hx hb d_St_write_26 rfl (lv_at hl 0 rfl) ?_
      refine lv_dup hx hb d_St_write_27 rfl ?_
      refine va_get (D := (dC, dI)) (ci := 1) (v := .int ar) (C := R_St) (T := F_St) (N := 4) hx hb hts in_St hown hK hP 0 rfl rfl 1 (by decide) (hts _ w_30) (fun _ h9 => h9) rfl d_St_write_28 ?_
      refine lv_iconst (v := 1) hx hb d_St_write_31 (by decide) ?_
      refine lv_isub hx hb d_St_write_32 ?_
      refine va_put (D := (dC, dI)) (ci := 1) (v := .int (ar - 1)) (ty := .int) (C := R_St) (T := F_St) (N := 4) hx hb hts in_St t_St t_St_ok n_St hown hK hP hD hS 0 rfl rfl 1 (by decide) (hts _ w_30) (fun _ h9 => h9) rfl (by decide +kernel) (rfl) (rfl) (Nat.le_of_ble_eq_true rfl) d_St_write_33 (fun H locs hP hD hS => ?_)
      have hP : va_P (dC, dI) cls [(h0, .inr (1, [.ref c0, .int (ar - 1), .int de, .int wr])), (c0, .inl (cA, 512, .inl g))] H := hP
      have hD : va_D A [(h0, .inr (1, [.ref c0, .int (ar - 1), .int de, .int wr])), (c0, .inl (cA, 512, .inl g))] := hD
      refine lv_iload_n hx hb d_St_write_36 rfl (lv_at hl 1 rfl) ?_
      refine lv_if_lt (tgt := 84) hx hb d_St_write_37 (by decide) (fun c37 => ?_) (fun c37 => ?_)
      · skip
        refine lv_iconst (v := 1) hx hb d_St_write_84 (by decide) ?_
        refine W.widen (k := 0) (n := 0) (by decide) (by decide) ?_
        exact W.zret (v := 1) hx hb hr (rfl) (fun t ht hW => ⟨⟨1, (ar - 1, de, wr, g), rfl, by (simp only [wrS, c4, c23, c37, if_true, if_false, not_true_eq_false, not_false_eq_true, ite_not] <;> try simp), cB.of (hP.sub [0, 1] rfl) (hD.sub [0, 1] (by decide) rfl) (hK.sub [0] rfl) ht hW⟩, hS.F ht⟩) hS.2.2 d_St_write_85
      · skip
        refine lv_iload_n hx hb d_St_write_40 rfl (lv_at hl 1 rfl) ?_
        refine lv_bipush (v := 32) hx hb d_St_write_41 (by decide) ?_
        refine lv_icmp_ge (tgt := 84) hx hb d_St_write_43 (by decide) (fun c43 => ?_) (fun c43 => ?_)
        · skip
          refine lv_iconst (v := 1) hx hb d_St_write_84 (by decide) ?_
          refine W.widen (k := 0) (n := 0) (by decide) (by decide) ?_
          exact W.zret (v := 1) hx hb hr (rfl) (fun t ht hW => ⟨⟨1, (ar - 1, de, wr, g), rfl, by (simp only [wrS, c4, c23, c37, c43, if_true, if_false, not_true_eq_false, not_false_eq_true, ite_not] <;> try simp), cB.of (hP.sub [0, 1] rfl) (hD.sub [0, 1] (by decide) rfl) (hK.sub [0] rfl) ht hW⟩, hS.F ht⟩) hS.2.2 d_St_write_85
        · skip
          refine lv_iload_n hx hb d_St_write_46 rfl (lv_at hl 3 rfl) ?_
          refine lv_if_lt (tgt := 84) hx hb d_St_write_47 (by decide) (fun c47 => ?_) (fun c47 => ?_)
          · skip
            refine lv_iconst (v := 1) hx hb d_St_write_84 (by decide) ?_
            refine W.widen (k := 0) (n := 0) (by decide) (by decide) ?_
            exact W.zret (v := 1) hx hb hr (rfl) (fun t ht hW => ⟨⟨1, (ar - 1, de, wr, g), rfl, by (simp only [wrS, c4, c23, c37, c43, c47, if_true, if_false, not_true_eq_false, not_false_eq_true, ite_not] <;> try simp), cB.of (hP.sub [0, 1] rfl) (hD.sub [0, 1] (by decide) rfl) (hK.sub [0] rfl) ht hW⟩, hS.F ht⟩) hS.2.2 d_St_write_85
          · skip
            refine lv_iload_n hx hb d_St_write_50 rfl (lv_at hl 3 rfl) ?_
            refine lv_aload_n hx hb d_St_write_51 rfl (lv_at hl 2 rfl) ?_
            refine va_slen hx hb hXr hrl hbA hS d_St_write_52 ?_
            refine lv_bipush (v := 16) hx hb d_St_write_53 (by decide) ?_
            refine lv_isub hx hb d_St_write_55 ?_
            refine lv_icmp_gt (tgt := 84) hx hb d_St_write_56 (by decide) (fun c56 => ?_) (fun c56 => ?_)
            · skip
              refine lv_iconst (v := 1) hx hb d_St_write_84 (by decide) ?_
              refine W.widen (k := 0) (n := 0) (by decide) (by decide) ?_
              exact W.zret (v := 1) hx hb hr (rfl) (fun t ht hW => ⟨⟨1, (ar - 1, de, wr, g), rfl, by (simp only [wrS, c4, c23, c37, c43, c47, c56, if_true, if_false, not_true_eq_false, not_false_eq_true, ite_not] <;> try simp), cB.of (hP.sub [0, 1] rfl) (hD.sub [0, 1] (by decide) rfl) (hK.sub [0] rfl) ht hW⟩, hS.F ht⟩) hS.2.2 d_St_write_85
            · skip
              refine lv_aload_n hx hb d_St_write_59 rfl (lv_at hl 2 rfl) ?_
              refine lv_iload_n hx hb d_St_write_60 rfl (lv_at hl 3 rfl) ?_
              refine lv_aload_n hx hb d_St_write_61 rfl (lv_at hl 0 rfl) ?_
              refine va_get (D := (dC, dI)) (ci := 1) (v := .ref c0) (C := R_St) (T := F_St) (N := 4) hx hb hts in_St hown hK hP 0 rfl rfl 0 (by decide) (hts _ w_29) (fun _ h9 => h9) rfl d_St_write_62 ?_
              refine lv_iload_n hx hb d_St_write_65 rfl (lv_at hl 1 rfl) ?_
              refine lv_bipush (v := 16) hx hb d_St_write_66 (by decide) ?_
              refine lv_imul hx hb d_St_write_68 ?_
              refine lv_bipush (v := 16) hx hb d_St_write_69 (by decide) ?_
              refine va_copyx (rest := []) hx hb (by rw [hml]; exact hl.1.symm) hown (hts _ w_181) (hts _ w_183) (hts _ w_182) (hts _ w_7) hK hP hD hS hXr hrl hbA 1 0 rfl rfl c47 (bk16 c37 c43).1 (by decide) (fr16 hn hn2 c47 c56) (bk16 c37 c43).2 (by decide) (by decide) d_St_write_71 (fun H locs hP hD hS => ?_)
              have hP : va_P (dC, dI) cls [(h0, .inr (1, [.ref c0, .int (ar - 1), .int de, .int wr])), (c0, .inl (cA, 512, .inl (va_cpy f g fr.toNatClampNeg (bk * 16).toNatClampNeg (16 : Int32).toNatClampNeg)))] H := hP
              have hD : va_D A [(h0, .inr (1, [.ref c0, .int (ar - 1), .int de, .int wr])), (c0, .inl (cA, 512, .inl (va_cpy f g fr.toNatClampNeg (bk * 16).toNatClampNeg (16 : Int32).toNatClampNeg)))] := hD
              refine lv_aload_n hx hb d_St_write_74 rfl (lv_at hl 0 rfl) ?_
              refine lv_dup hx hb d_St_write_75 rfl ?_
              refine va_get (D := (dC, dI)) (ci := 1) (v := .int wr) (C := R_St) (T := F_St) (N := 4) hx hb hts in_St hown hK hP 0 rfl rfl 3 (by decide) (hts _ w_34) (fun _ h9 => h9) rfl d_St_write_76 ?_
              refine lv_iconst (v := 1) hx hb d_St_write_79 (by decide) ?_
              refine lv_iadd hx hb d_St_write_80 ?_
              refine va_put (D := (dC, dI)) (ci := 1) (v := .int (wr + 1)) (ty := .int) (C := R_St) (T := F_St) (N := 4) hx hb hts in_St t_St t_St_ok n_St hown hK hP hD hS 0 rfl rfl 3 (by decide) (hts _ w_34) (fun _ h9 => h9) rfl (by decide +kernel) (rfl) (rfl) (Nat.le_of_ble_eq_true rfl) d_St_write_81 (fun H locs hP hD hS => ?_)
              have hP : va_P (dC, dI) cls [(h0, .inr (1, [.ref c0, .int (ar - 1), .int de, .int (wr + 1)])), (c0, .inl (cA, 512, .inl (va_cpy f g fr.toNatClampNeg (bk * 16).toNatClampNeg (16 : Int32).toNatClampNeg)))] H := hP
              have hD : va_D A [(h0, .inr (1, [.ref c0, .int (ar - 1), .int de, .int (wr + 1)])), (c0, .inl (cA, 512, .inl (va_cpy f g fr.toNatClampNeg (bk * 16).toNatClampNeg (16 : Int32).toNatClampNeg)))] := hD
              refine lv_iconst (v := 1) hx hb d_St_write_84 (by decide) ?_
              refine W.widen (k := 0) (n := 0) (by decide) (by decide) ?_
              exact W.zret (v := 1) hx hb hr (rfl) (fun t ht hW => ⟨⟨1, (ar - 1, de, wr + 1, va_cpy f g fr.toNatClampNeg (bk * 16).toNatClampNeg (16 : Int32).toNatClampNeg), rfl, by (simp only [wrS, c4, c23, c37, c43, c47, c56, if_true, if_false, not_true_eq_false, not_false_eq_true, ite_not] <;> try simp), cB.of (hP.sub [0, 1] rfl) (hD.sub [0, 1] (by decide) rfl) (hK.sub [0] rfl) ht hW⟩, hS.F ht⟩) hS.2.2 d_St_write_85
  · skip
    refine lv_aload_n hx hb d_St_write_7 rfl (lv_at hl 0 rfl) ?_
    refine lv_iconst (v := (-1)) hx hb d_St_write_8 (by decide) ?_
    refine va_put (D := (dC, dI)) (ci := 1) (v := .int (-1)) (ty := .int) (C := R_St) (T := F_St) (N := 4) hx hb hts in_St t_St t_St_ok n_St hown hK hP hD hS 0 rfl rfl 1 (by decide) (hts _ w_30) (fun _ h9 => h9) rfl (by decide +kernel) (rfl) (rfl) (Nat.le_of_ble_eq_true rfl) d_St_write_9 (fun H locs hP hD hS => ?_)
    have hP : va_P (dC, dI) cls [(h0, .inr (1, [.ref c0, .int (-1), .int de, .int wr])), (c0, .inl (cA, 512, .inl g))] H := hP
    have hD : va_D A [(h0, .inr (1, [.ref c0, .int (-1), .int de, .int wr])), (c0, .inl (cA, 512, .inl g))] := hD
    refine lv_aload_n hx hb d_St_write_12 rfl (lv_at hl 0 rfl) ?_
    refine lv_iconst (v := 1) hx hb d_St_write_13 (by decide) ?_
    refine va_put (D := (dC, dI)) (ci := 1) (v := .int 1) (ty := .boolean) (C := R_St) (T := F_St) (N := 4) hx hb hts in_St t_St t_St_ok n_St hown hK hP hD hS 0 rfl rfl 2 (by decide) (hts _ w_32) (fun _ h9 => h9) rfl (by decide +kernel) (rfl) (rfl) (Nat.le_of_ble_eq_true rfl) d_St_write_14 (fun H locs hP hD hS => ?_)
    have hP : va_P (dC, dI) cls [(h0, .inr (1, [.ref c0, .int (-1), .int 1, .int wr])), (c0, .inl (cA, 512, .inl g))] H := hP
    have hD : va_D A [(h0, .inr (1, [.ref c0, .int (-1), .int 1, .int wr])), (c0, .inl (cA, 512, .inl g))] := hD
    refine lv_iconst (v := 0) hx hb d_St_write_17 (by decide) ?_
    refine W.widen (k := 0) (n := 0) (by decide) (by decide) ?_
    exact W.zret (v := 0) hx hb hr (rfl) (fun t ht hW => ⟨⟨0, ((-1), 1, wr, g), rfl, by (simp only [wrS, c4, if_true, if_false, not_true_eq_false, not_false_eq_true, ite_not] <;> try simp), cB.of (hP.sub [0, 1] rfl) (hD.sub [0, 1] (by decide) rfl) (hK.sub [0] rfl) ht hW⟩, hS.F ht⟩) hS.2.2 d_St_write_18
set_option maxHeartbeats 4000000 in
set_option maxRecDepth 100000 in
theorem g_St_writeC (l : Launch) (dC : Nat → ClassId) (dI : Nat → Nat → Nat) (h0 c0 : Nat) (cA : ClassId) (ar de wr : Int32) (g : Nat → Int32) (bk fr : Int32) (sz : Nat) : Met l y_St_write (Cond.code y_St_write b_St_write 4 (some .boolean) :: gw) ({ frames := 1, cells := 0, slots := 0, locals := 100 }) (cP (dC, dI) [.ref h0, .int bk, .ref c0, .int fr] sz [(h0, .inr (1, [.ref c0, .int ar, .int de, .int wr])), (c0, .inl (cA, 512, .inl g))] [(cA, .int)] xT) (va_Qi (fun (r : Int32) (u : Int32 × Int32 × Int32 × (Nat → Int32)) => (r, u) = wrS ar de wr g 512 g bk fr) (fun (u : Int32 × Int32 × Int32 × (Nat → Int32)) t => cB (dC, dI) (va_A [(h0, .inr (1, [.ref c0, .int ar, .int de, .int wr])), (c0, .inl (cA, 512, .inl g))] sz) [(h0, .inr (1, [.ref c0, .int u.1, .int u.2.1, .int u.2.2.1])), (c0, .inl (cA, 512, .inl u.2.2.2))] [(cA, .int)] t) (va_A [(h0, .inr (1, [.ref c0, .int ar, .int de, .int wr])), (c0, .inl (cA, 512, .inl g))] sz)) 0 0 (va_A [(h0, .inr (1, [.ref c0, .int ar, .int de, .int wr])), (c0, .inl (cA, 512, .inl g))] sz) := by
  refine Met.ofW (cc := b_St_write) (maxL := 4) (ret := (some .boolean)) (by decide) rfl ?_
  intro p e s m args below meth c s₁ B hml hv
  obtain ⟨rfl, hsz, hP, hK, hD0, hkw, hX⟩ := hv
  have hx := B.exec
  have hb := B.bytes
  have hr := B.returns
  have hts := fun w hw => atoms_spec (ws := Cond.code y_St_write b_St_write 4 (some .boolean) :: gw) B.pre w (List.mem_cons_of_mem _ hw)
  have hown : s.vm.findClass "LineDisk$Store" = some m.cls := findClass_of_methodNamed B.named
  have hlocks := B.notSynchronized
  have hin := (name_of_methodNamed B.named B.method).1
  subst hsz
  have hD := hD0.self (sz := s.heap.size)
  generalize hAe : va_A [(h0, .inr (1, [.ref c0, .int ar, .int de, .int wr])), (c0, .inl (cA, 512, .inl g))] s.heap.size = A at hD ⊢
  have hA : ∀ q : Nat, s.heap.size ≤ q → A q := fun q h => by rw [← hAe]; exact Or.inr h
  have hS : va_S A s.heap s.heap [] := va_S.rf
  have hl := lv_entry ([.ref h0, .int bk, .ref c0, .int fr]) (n := 4) (Nat.le_of_ble_eq_true rfl)
  rw [lg_entry_eq]
  generalize (lg_sl ([.ref h0, .int bk, .ref c0, .int fr]) ++ List.replicate (4 - (lg_sl ([.ref h0, .int bk, .ref c0, .int fr])).length) Slot.unset).toArray = ls at hl ⊢
  have hl : lv_has ls 4 [(0, .ref h0), (1, .int bk), (2, .ref c0), (3, .int fr)] := hl
  have F : CallFix p m c b_St_write 4 s ([.ref h0, .int bk, .ref c0, .int fr]).toArray gw "LineDisk$Store" := ⟨hx, hb, hml, hown, hts⟩
  refine lv_aload_n hx hb d_St_write_0 rfl (lv_at hl 0 rfl) ?_
  refine va_get (D := (dC, dI)) (ci := 1) (v := .int ar) (C := R_St) (T := F_St) (N := 4) hx hb hts in_St hown hK hP 0 rfl rfl 1 (by decide) (hts _ w_30) (fun _ h9 => h9) rfl d_St_write_1 ?_
  refine lv_if_ne (tgt := 19) hx hb d_St_write_4 (by decide) (fun c4 => ?_) (fun c4 => ?_)
  · skip
    refine lv_aload_n hx hb d_St_write_19 rfl (lv_at hl 0 rfl) ?_
    refine va_get (D := (dC, dI)) (ci := 1) (v := .int ar) (C := R_St) (T := F_St) (N := 4) hx hb hts in_St hown hK hP 0 rfl rfl 1 (by decide) (hts _ w_30) (fun _ h9 => h9) rfl d_St_write_20 ?_
    refine lv_if_le (tgt := 36) hx hb d_St_write_23 (by decide) (fun c23 => ?_) (fun c23 => ?_)
    · skip
      refine lv_iload_n hx hb d_St_write_36 rfl (lv_at hl 1 rfl) ?_
      refine lv_if_lt (tgt := 84) hx hb d_St_write_37 (by decide) (fun c37 => ?_) (fun c37 => ?_)
      · skip
        refine lv_iconst (v := 1) hx hb d_St_write_84 (by decide) ?_
        refine W.widen (k := 0) (n := 0) (by decide) (by decide) ?_
        exact W.zret (v := 1) hx hb hr (rfl) (fun t ht hW => ⟨⟨1, (ar, de, wr, g), rfl, by (simp only [wrS, c4, c23, c37, if_true, if_false, not_true_eq_false, not_false_eq_true, ite_not] <;> try simp), cB.of (hP.sub [0, 1] rfl) (hD.sub [0, 1] (by decide) rfl) (hK.sub [0] rfl) ht hW⟩, hS.F ht⟩) hS.2.2 d_St_write_85
      · skip
        refine lv_iload_n hx hb d_St_write_40 rfl (lv_at hl 1 rfl) ?_
        refine lv_bipush (v := 32) hx hb d_St_write_41 (by decide) ?_
        refine lv_icmp_ge (tgt := 84) hx hb d_St_write_43 (by decide) (fun c43 => ?_) (fun c43 => ?_)
        · skip
          refine lv_iconst (v := 1) hx hb d_St_write_84 (by decide) ?_
          refine W.widen (k := 0) (n := 0) (by decide) (by decide) ?_
          exact W.zret (v := 1) hx hb hr (rfl) (fun t ht hW => ⟨⟨1, (ar, de, wr, g), rfl, by (simp only [wrS, c4, c23, c37, c43, if_true, if_false, not_true_eq_false, not_false_eq_true, ite_not] <;> try simp), cB.of (hP.sub [0, 1] rfl) (hD.sub [0, 1] (by decide) rfl) (hK.sub [0] rfl) ht hW⟩, hS.F ht⟩) hS.2.2 d_St_write_85
        · skip
          refine lv_iload_n hx hb d_St_write_46 rfl (lv_at hl 3 rfl) ?_
          refine lv_if_lt (tgt := 84) hx hb d_St_write_47 (by decide) (fun c47 => ?_) (fun c47 => ?_)
          · skip
            refine lv_iconst (v := 1) hx hb d_St_write_84 (by decide) ?_
            refine W.widen (k := 0) (n := 0) (by decide) (by decide) ?_
            exact W.zret (v := 1) hx hb hr (rfl) (fun t ht hW => ⟨⟨1, (ar, de, wr, g), rfl, by (simp only [wrS, c4, c23, c37, c43, c47, if_true, if_false, not_true_eq_false, not_false_eq_true, ite_not] <;> try simp), cB.of (hP.sub [0, 1] rfl) (hD.sub [0, 1] (by decide) rfl) (hK.sub [0] rfl) ht hW⟩, hS.F ht⟩) hS.2.2 d_St_write_85
          · skip
            refine lv_iload_n hx hb d_St_write_50 rfl (lv_at hl 3 rfl) ?_
            refine lv_aload_n hx hb d_St_write_51 rfl (lv_at hl 2 rfl) ?_
            refine va_alen (v := Int32.ofNat 512) hx hb hK hP 1 0 rfl rfl rfl d_St_write_52 ?_
            refine lv_bipush (v := 16) hx hb d_St_write_53 (by decide) ?_
            refine lv_isub hx hb d_St_write_55 ?_
            refine lv_icmp_gt (tgt := 84) hx hb d_St_write_56 (by decide) (fun c56 => ?_) (fun c56 => ?_)
            · skip
              refine lv_iconst (v := 1) hx hb d_St_write_84 (by decide) ?_
              refine W.widen (k := 0) (n := 0) (by decide) (by decide) ?_
              exact W.zret (v := 1) hx hb hr (rfl) (fun t ht hW => ⟨⟨1, (ar, de, wr, g), rfl, by (simp only [wrS, c4, c23, c37, c43, c47, c56, if_true, if_false, not_true_eq_false, not_false_eq_true, ite_not] <;> try simp), cB.of (hP.sub [0, 1] rfl) (hD.sub [0, 1] (by decide) rfl) (hK.sub [0] rfl) ht hW⟩, hS.F ht⟩) hS.2.2 d_St_write_85
            · skip
              refine lv_aload_n hx hb d_St_write_59 rfl (lv_at hl 2 rfl) ?_
              refine lv_iload_n hx hb d_St_write_60 rfl (lv_at hl 3 rfl) ?_
              refine lv_aload_n hx hb d_St_write_61 rfl (lv_at hl 0 rfl) ?_
              refine va_get (D := (dC, dI)) (ci := 1) (v := .ref c0) (C := R_St) (T := F_St) (N := 4) hx hb hts in_St hown hK hP 0 rfl rfl 0 (by decide) (hts _ w_29) (fun _ h9 => h9) rfl d_St_write_62 ?_
              refine lv_iload_n hx hb d_St_write_65 rfl (lv_at hl 1 rfl) ?_
              refine lv_bipush (v := 16) hx hb d_St_write_66 (by decide) ?_
              refine lv_imul hx hb d_St_write_68 ?_
              refine lv_bipush (v := 16) hx hb d_St_write_69 (by decide) ?_
              refine va_copyi (rest := []) hx hb (by rw [hml]; exact hl.1.symm) hown (hts _ w_181) (hts _ w_183) (hts _ w_182) (hts _ w_7) hK hP hD hS 1 1 0 0 rfl rfl rfl rfl rfl c47 (bk16 c37 c43).1 (by decide) (fr16 (by decide) (by decide) c47 c56) (bk16 c37 c43).2 (fun _ _ => rfl) (by decide) (by decide) d_St_write_71 (fun H locs hP hD hS => ?_)
              have hP : va_P (dC, dI) cls [(h0, .inr (1, [.ref c0, .int ar, .int de, .int wr])), (c0, .inl (cA, 512, .inl (va_cpy g g fr.toNatClampNeg (bk * 16).toNatClampNeg (16 : Int32).toNatClampNeg)))] H := hP
              have hD : va_D A [(h0, .inr (1, [.ref c0, .int ar, .int de, .int wr])), (c0, .inl (cA, 512, .inl (va_cpy g g fr.toNatClampNeg (bk * 16).toNatClampNeg (16 : Int32).toNatClampNeg)))] := hD
              refine lv_aload_n hx hb d_St_write_74 rfl (lv_at hl 0 rfl) ?_
              refine lv_dup hx hb d_St_write_75 rfl ?_
              refine va_get (D := (dC, dI)) (ci := 1) (v := .int wr) (C := R_St) (T := F_St) (N := 4) hx hb hts in_St hown hK hP 0 rfl rfl 3 (by decide) (hts _ w_34) (fun _ h9 => h9) rfl d_St_write_76 ?_
              refine lv_iconst (v := 1) hx hb d_St_write_79 (by decide) ?_
              refine lv_iadd hx hb d_St_write_80 ?_
              refine va_put (D := (dC, dI)) (ci := 1) (v := .int (wr + 1)) (ty := .int) (C := R_St) (T := F_St) (N := 4) hx hb hts in_St t_St t_St_ok n_St hown hK hP hD hS 0 rfl rfl 3 (by decide) (hts _ w_34) (fun _ h9 => h9) rfl (by decide +kernel) (rfl) (rfl) (Nat.le_of_ble_eq_true rfl) d_St_write_81 (fun H locs hP hD hS => ?_)
              have hP : va_P (dC, dI) cls [(h0, .inr (1, [.ref c0, .int ar, .int de, .int (wr + 1)])), (c0, .inl (cA, 512, .inl (va_cpy g g fr.toNatClampNeg (bk * 16).toNatClampNeg (16 : Int32).toNatClampNeg)))] H := hP
              have hD : va_D A [(h0, .inr (1, [.ref c0, .int ar, .int de, .int (wr + 1)])), (c0, .inl (cA, 512, .inl (va_cpy g g fr.toNatClampNeg (bk * 16).toNatClampNeg (16 : Int32).toNatClampNeg)))] := hD
              refine lv_iconst (v := 1) hx hb d_St_write_84 (by decide) ?_
              refine W.widen (k := 0) (n := 0) (by decide) (by decide) ?_
              exact W.zret (v := 1) hx hb hr (rfl) (fun t ht hW => ⟨⟨1, (ar, de, wr + 1, va_cpy g g fr.toNatClampNeg (bk * 16).toNatClampNeg (16 : Int32).toNatClampNeg), rfl, by (simp only [wrS, c4, c23, c37, c43, c47, c56, if_true, if_false, not_true_eq_false, not_false_eq_true, ite_not] <;> try simp), cB.of (hP.sub [0, 1] rfl) (hD.sub [0, 1] (by decide) rfl) (hK.sub [0] rfl) ht hW⟩, hS.F ht⟩) hS.2.2 d_St_write_85
    · skip
      refine lv_aload_n hx hb d_St_write_26 rfl (lv_at hl 0 rfl) ?_
      refine lv_dup hx hb d_St_write_27 rfl ?_
      refine va_get (D := (dC, dI)) (ci := 1) (v := .int ar) (C := R_St) (T := F_St) (N := 4) hx hb hts in_St hown hK hP 0 rfl rfl 1 (by decide) (hts _ w_30) (fun _ h9 => h9) rfl d_St_write_28 ?_
      refine lv_iconst (v := 1) hx hb d_St_write_31 (by decide) ?_
      refine lv_isub hx hb d_St_write_32 ?_
      refine va_put (D := (dC, dI)) (ci := 1) (v := .int (ar - 1)) (ty := .int) (C := R_St) (T := F_St) (N := 4) hx hb hts in_St t_St t_St_ok n_St hown hK hP hD hS 0 rfl rfl 1 (by decide) (hts _ w_30) (fun _ h9 => h9) rfl (by decide +kernel) (rfl) (rfl) (Nat.le_of_ble_eq_true rfl) d_St_write_33 (fun H locs hP hD hS => ?_)
      have hP : va_P (dC, dI) cls [(h0, .inr (1, [.ref c0, .int (ar - 1), .int de, .int wr])), (c0, .inl (cA, 512, .inl g))] H := hP
      have hD : va_D A [(h0, .inr (1, [.ref c0, .int (ar - 1), .int de, .int wr])), (c0, .inl (cA, 512, .inl g))] := hD
      refine lv_iload_n hx hb d_St_write_36 rfl (lv_at hl 1 rfl) ?_
      refine lv_if_lt (tgt := 84) hx hb d_St_write_37 (by decide) (fun c37 => ?_) (fun c37 => ?_)
      · skip
        refine lv_iconst (v := 1) hx hb d_St_write_84 (by decide) ?_
        refine W.widen (k := 0) (n := 0) (by decide) (by decide) ?_
        exact W.zret (v := 1) hx hb hr (rfl) (fun t ht hW => ⟨⟨1, (ar - 1, de, wr, g), rfl, by (simp only [wrS, c4, c23, c37, if_true, if_false, not_true_eq_false, not_false_eq_true, ite_not] <;> try simp), cB.of (hP.sub [0, 1] rfl) (hD.sub [0, 1] (by decide) rfl) (hK.sub [0] rfl) ht hW⟩, hS.F ht⟩) hS.2.2 d_St_write_85
      · skip
        refine lv_iload_n hx hb d_St_write_40 rfl (lv_at hl 1 rfl) ?_
        refine lv_bipush (v := 32) hx hb d_St_write_41 (by decide) ?_
        refine lv_icmp_ge (tgt := 84) hx hb d_St_write_43 (by decide) (fun c43 => ?_) (fun c43 => ?_)
        · skip
          refine lv_iconst (v := 1) hx hb d_St_write_84 (by decide) ?_
          refine W.widen (k := 0) (n := 0) (by decide) (by decide) ?_
          exact W.zret (v := 1) hx hb hr (rfl) (fun t ht hW => ⟨⟨1, (ar - 1, de, wr, g), rfl, by (simp only [wrS, c4, c23, c37, c43, if_true, if_false, not_true_eq_false, not_false_eq_true, ite_not] <;> try simp), cB.of (hP.sub [0, 1] rfl) (hD.sub [0, 1] (by decide) rfl) (hK.sub [0] rfl) ht hW⟩, hS.F ht⟩) hS.2.2 d_St_write_85
        · skip
          refine lv_iload_n hx hb d_St_write_46 rfl (lv_at hl 3 rfl) ?_
          refine lv_if_lt (tgt := 84) hx hb d_St_write_47 (by decide) (fun c47 => ?_) (fun c47 => ?_)
          · skip
            refine lv_iconst (v := 1) hx hb d_St_write_84 (by decide) ?_
            refine W.widen (k := 0) (n := 0) (by decide) (by decide) ?_
            exact W.zret (v := 1) hx hb hr (rfl) (fun t ht hW => ⟨⟨1, (ar - 1, de, wr, g), rfl, by (simp only [wrS, c4, c23, c37, c43, c47, if_true, if_false, not_true_eq_false, not_false_eq_true, ite_not] <;> try simp), cB.of (hP.sub [0, 1] rfl) (hD.sub [0, 1] (by decide) rfl) (hK.sub [0] rfl) ht hW⟩, hS.F ht⟩) hS.2.2 d_St_write_85
          · skip
            refine lv_iload_n hx hb d_St_write_50 rfl (lv_at hl 3 rfl) ?_
            refine lv_aload_n hx hb d_St_write_51 rfl (lv_at hl 2 rfl) ?_
            refine va_alen (v := Int32.ofNat 512) hx hb hK hP 1 0 rfl rfl rfl d_St_write_52 ?_
            refine lv_bipush (v := 16) hx hb d_St_write_53 (by decide) ?_
            refine lv_isub hx hb d_St_write_55 ?_
            refine lv_icmp_gt (tgt := 84) hx hb d_St_write_56 (by decide) (fun c56 => ?_) (fun c56 => ?_)
            · skip
              refine lv_iconst (v := 1) hx hb d_St_write_84 (by decide) ?_
              refine W.widen (k := 0) (n := 0) (by decide) (by decide) ?_
              exact W.zret (v := 1) hx hb hr (rfl) (fun t ht hW => ⟨⟨1, (ar - 1, de, wr, g), rfl, by (simp only [wrS, c4, c23, c37, c43, c47, c56, if_true, if_false, not_true_eq_false, not_false_eq_true, ite_not] <;> try simp), cB.of (hP.sub [0, 1] rfl) (hD.sub [0, 1] (by decide) rfl) (hK.sub [0] rfl) ht hW⟩, hS.F ht⟩) hS.2.2 d_St_write_85
            · skip
              refine lv_aload_n hx hb d_St_write_59 rfl (lv_at hl 2 rfl) ?_
              refine lv_iload_n hx hb d_St_write_60 rfl (lv_at hl 3 rfl) ?_
              refine lv_aload_n hx hb d_St_write_61 rfl (lv_at hl 0 rfl) ?_
              refine va_get (D := (dC, dI)) (ci := 1) (v := .ref c0) (C := R_St) (T := F_St) (N := 4) hx hb hts in_St hown hK hP 0 rfl rfl 0 (by decide) (hts _ w_29) (fun _ h9 => h9) rfl d_St_write_62 ?_
              refine lv_iload_n hx hb d_St_write_65 rfl (lv_at hl 1 rfl) ?_
              refine lv_bipush (v := 16) hx hb d_St_write_66 (by decide) ?_
              refine lv_imul hx hb d_St_write_68 ?_
              refine lv_bipush (v := 16) hx hb d_St_write_69 (by decide) ?_
              refine va_copyi (rest := []) hx hb (by rw [hml]; exact hl.1.symm) hown (hts _ w_181) (hts _ w_183) (hts _ w_182) (hts _ w_7) hK hP hD hS 1 1 0 0 rfl rfl rfl rfl rfl c47 (bk16 c37 c43).1 (by decide) (fr16 (by decide) (by decide) c47 c56) (bk16 c37 c43).2 (fun _ _ => rfl) (by decide) (by decide) d_St_write_71 (fun H locs hP hD hS => ?_)
              have hP : va_P (dC, dI) cls [(h0, .inr (1, [.ref c0, .int (ar - 1), .int de, .int wr])), (c0, .inl (cA, 512, .inl (va_cpy g g fr.toNatClampNeg (bk * 16).toNatClampNeg (16 : Int32).toNatClampNeg)))] H := hP
              have hD : va_D A [(h0, .inr (1, [.ref c0, .int (ar - 1), .int de, .int wr])), (c0, .inl (cA, 512, .inl (va_cpy g g fr.toNatClampNeg (bk * 16).toNatClampNeg (16 : Int32).toNatClampNeg)))] := hD
              refine lv_aload_n hx hb d_St_write_74 rfl (lv_at hl 0 rfl) ?_
              refine lv_dup hx hb d_St_write_75 rfl ?_
              refine va_get (D := (dC, dI)) (ci := 1) (v := .int wr) (C := R_St) (T := F_St) (N := 4) hx hb hts in_St hown hK hP 0 rfl rfl 3 (by decide) (hts _ w_34) (fun _ h9 => h9) rfl d_St_write_76 ?_
              refine lv_iconst (v := 1) hx hb d_St_write_79 (by decide) ?_
              refine lv_iadd hx hb d_St_write_80 ?_
              refine va_put (D := (dC, dI)) (ci := 1) (v := .int (wr + 1)) (ty := .int) (C := R_St) (T := F_St) (N := 4) hx hb hts in_St t_St t_St_ok n_St hown hK hP hD hS 0 rfl rfl 3 (by decide) (hts _ w_34) (fun _ h9 => h9) rfl (by decide +kernel) (rfl) (rfl) (Nat.le_of_ble_eq_true rfl) d_St_write_81 (fun H locs hP hD hS => ?_)
              have hP : va_P (dC, dI) cls [(h0, .inr (1, [.ref c0, .int (ar - 1), .int de, .int (wr + 1)])), (c0, .inl (cA, 512, .inl (va_cpy g g fr.toNatClampNeg (bk * 16).toNatClampNeg (16 : Int32).toNatClampNeg)))] H := hP
              have hD : va_D A [(h0, .inr (1, [.ref c0, .int (ar - 1), .int de, .int (wr + 1)])), (c0, .inl (cA, 512, .inl (va_cpy g g fr.toNatClampNeg (bk * 16).toNatClampNeg (16 : Int32).toNatClampNeg)))] := hD
              refine lv_iconst (v := 1) hx hb d_St_write_84 (by decide) ?_
              refine W.widen (k := 0) (n := 0) (by decide) (by decide) ?_
              exact W.zret (v := 1) hx hb hr (rfl) (fun t ht hW => ⟨⟨1, (ar - 1, de, wr + 1, va_cpy g g fr.toNatClampNeg (bk * 16).toNatClampNeg (16 : Int32).toNatClampNeg), rfl, by (simp only [wrS, c4, c23, c37, c43, c47, c56, if_true, if_false, not_true_eq_false, not_false_eq_true, ite_not] <;> try simp), cB.of (hP.sub [0, 1] rfl) (hD.sub [0, 1] (by decide) rfl) (hK.sub [0] rfl) ht hW⟩, hS.F ht⟩) hS.2.2 d_St_write_85
  · skip
    refine lv_aload_n hx hb d_St_write_7 rfl (lv_at hl 0 rfl) ?_
    refine lv_iconst (v := (-1)) hx hb d_St_write_8 (by decide) ?_
    refine va_put (D := (dC, dI)) (ci := 1) (v := .int (-1)) (ty := .int) (C := R_St) (T := F_St) (N := 4) hx hb hts in_St t_St t_St_ok n_St hown hK hP hD hS 0 rfl rfl 1 (by decide) (hts _ w_30) (fun _ h9 => h9) rfl (by decide +kernel) (rfl) (rfl) (Nat.le_of_ble_eq_true rfl) d_St_write_9 (fun H locs hP hD hS => ?_)
    have hP : va_P (dC, dI) cls [(h0, .inr (1, [.ref c0, .int (-1), .int de, .int wr])), (c0, .inl (cA, 512, .inl g))] H := hP
    have hD : va_D A [(h0, .inr (1, [.ref c0, .int (-1), .int de, .int wr])), (c0, .inl (cA, 512, .inl g))] := hD
    refine lv_aload_n hx hb d_St_write_12 rfl (lv_at hl 0 rfl) ?_
    refine lv_iconst (v := 1) hx hb d_St_write_13 (by decide) ?_
    refine va_put (D := (dC, dI)) (ci := 1) (v := .int 1) (ty := .boolean) (C := R_St) (T := F_St) (N := 4) hx hb hts in_St t_St t_St_ok n_St hown hK hP hD hS 0 rfl rfl 2 (by decide) (hts _ w_32) (fun _ h9 => h9) rfl (by decide +kernel) (rfl) (rfl) (Nat.le_of_ble_eq_true rfl) d_St_write_14 (fun H locs hP hD hS => ?_)
    have hP : va_P (dC, dI) cls [(h0, .inr (1, [.ref c0, .int (-1), .int 1, .int wr])), (c0, .inl (cA, 512, .inl g))] H := hP
    have hD : va_D A [(h0, .inr (1, [.ref c0, .int (-1), .int 1, .int wr])), (c0, .inl (cA, 512, .inl g))] := hD
    refine lv_iconst (v := 0) hx hb d_St_write_17 (by decide) ?_
    refine W.widen (k := 0) (n := 0) (by decide) (by decide) ?_
    exact W.zret (v := 0) hx hb hr (rfl) (fun t ht hW => ⟨⟨0, ((-1), 1, wr, g), rfl, by (simp only [wrS, c4, if_true, if_false, not_true_eq_false, not_false_eq_true, ite_not] <;> try simp), cB.of (hP.sub [0, 1] rfl) (hD.sub [0, 1] (by decide) rfl) (hK.sub [0] rfl) ht hW⟩, hS.F ht⟩) hS.2.2 d_St_write_18
set_option maxHeartbeats 4000000 in
set_option maxRecDepth 100000 in
theorem g_St_copyBlock (l : Launch) (dC : Nat → ClassId) (dI : Nat → Nat → Nat) (h0 c0 : Nat) (cA : ClassId) (ar de wr : Int32) (g : Nat → Int32) (x y : Int32) (sz : Nat) : Met l y_St_copyBlock (Cond.code y_St_copyBlock b_St_copyBlock 3 (some .boolean) :: gw) ({ frames := 2, cells := 0, slots := 0, locals := 123 }) (cP (dC, dI) [.ref h0, .int x, .int y] sz [(h0, .inr (1, [.ref c0, .int ar, .int de, .int wr])), (c0, .inl (cA, 512, .inl g))] [(cA, .int)] xT) (va_Qi (fun (r : Int32) (u : Int32 × Int32 × Int32 × (Nat → Int32)) => (r, u) = wrS ar de wr g 512 g y (x * 16)) (fun (u : Int32 × Int32 × Int32 × (Nat → Int32)) t => cB (dC, dI) (va_A [(h0, .inr (1, [.ref c0, .int ar, .int de, .int wr])), (c0, .inl (cA, 512, .inl g))] sz) [(h0, .inr (1, [.ref c0, .int u.1, .int u.2.1, .int u.2.2.1])), (c0, .inl (cA, 512, .inl u.2.2.2))] [(cA, .int)] t) (va_A [(h0, .inr (1, [.ref c0, .int ar, .int de, .int wr])), (c0, .inl (cA, 512, .inl g))] sz)) 0 0 (va_A [(h0, .inr (1, [.ref c0, .int ar, .int de, .int wr])), (c0, .inl (cA, 512, .inl g))] sz) := by
  refine Met.ofW (cc := b_St_copyBlock) (maxL := 3) (ret := (some .boolean)) (by decide) rfl ?_
  intro p e s m args below meth c s₁ B hml hv
  obtain ⟨rfl, hsz, hP, hK, hD0, hkw, hX⟩ := hv
  have hx := B.exec
  have hb := B.bytes
  have hr := B.returns
  have hts := fun w hw => atoms_spec (ws := Cond.code y_St_copyBlock b_St_copyBlock 3 (some .boolean) :: gw) B.pre w (List.mem_cons_of_mem _ hw)
  have hown : s.vm.findClass "LineDisk$Store" = some m.cls := findClass_of_methodNamed B.named
  have hlocks := B.notSynchronized
  have hin := (name_of_methodNamed B.named B.method).1
  subst hsz
  have hD := hD0.self (sz := s.heap.size)
  generalize hAe : va_A [(h0, .inr (1, [.ref c0, .int ar, .int de, .int wr])), (c0, .inl (cA, 512, .inl g))] s.heap.size = A at hD ⊢
  have hA : ∀ q : Nat, s.heap.size ≤ q → A q := fun q h => by rw [← hAe]; exact Or.inr h
  have hS : va_S A s.heap s.heap [] := va_S.rf
  have hl := lv_entry ([.ref h0, .int x, .int y]) (n := 3) (Nat.le_of_ble_eq_true rfl)
  rw [lg_entry_eq]
  generalize (lg_sl ([.ref h0, .int x, .int y]) ++ List.replicate (3 - (lg_sl ([.ref h0, .int x, .int y])).length) Slot.unset).toArray = ls at hl ⊢
  have hl : lv_has ls 3 [(0, .ref h0), (1, .int x), (2, .int y)] := hl
  have F : CallFix p m c b_St_copyBlock 3 s ([.ref h0, .int x, .int y]).toArray gw "LineDisk$Store" := ⟨hx, hb, hml, hown, hts⟩
  refine lv_aload_n hx hb d_St_copyBlock_0 rfl (lv_at hl 0 rfl) ?_
  refine lv_iload_n hx hb d_St_copyBlock_1 rfl (lv_at hl 2 rfl) ?_
  refine lv_aload_n hx hb d_St_copyBlock_2 rfl (lv_at hl 0 rfl) ?_
  refine va_get (D := (dC, dI)) (ci := 1) (v := .ref c0) (C := R_St) (T := F_St) (N := 4) hx hb hts in_St hown hK hP 0 rfl rfl 0 (by decide) (hts _ w_29) (fun _ h9 => h9) rfl d_St_copyBlock_3 ?_
  refine lv_iload_n hx hb d_St_copyBlock_6 rfl (lv_at hl 1 rfl) ?_
  refine lv_bipush (v := 16) hx hb d_St_copyBlock_7 (by decide) ?_
  refine lv_imul hx hb d_St_copyBlock_9 ?_
  refine go_i (wr := []) (tr := []) (rV (C := "LineDisk$Store") (ci := 1) (q0 := 0) (b := h0) (n := 3) (As := [.int y, .ref c0, .int (x * 16)]) (rest := []) F hkw (g_St_writeC l dC dI h0 c0 cA ar de wr g y (x * 16) s.heap.size) xT_bl (fun _ _ _ => trivial) w_217 w_178 w_179 w_2 w_180 rfl rfl (by decide +kernel) ⟨Nat.le_of_ble_eq_true rfl, Nat.le_of_ble_eq_true rfl⟩ (hP.sub (ws' := [(h0, .inr (1, [.ref c0, .int ar, .int de, .int wr])), (c0, .inl (cA, 512, .inl g))]) [0, 1] rfl) (hD.sub (ws' := [(h0, .inr (1, [.ref c0, .int ar, .int de, .int wr])), (c0, .inl (cA, 512, .inl g))]) [0, 1] (by decide) rfl) (hK.sub (tys' := [(cA, .int)]) [0] rfl) rfl rfl rfl rfl hl.1 rfl (Nat.le_of_ble_eq_true rfl) d_St_copyBlock_10 ⟨by decide, by decide⟩) hP hD hK hS hA [0, 1] [] [] rfl rfl (by decide) (by decide) rfl (fun r uu H locs hw hP hD hK hS => ?_)
  have hP : va_P (dC, dI) cls [(h0, .inr (1, [.ref c0, .int uu.1, .int uu.2.1, .int uu.2.2.1])), (c0, .inl (cA, 512, .inl uu.2.2.2))] H := hP
  have hD : va_D A [(h0, .inr (1, [.ref c0, .int uu.1, .int uu.2.1, .int uu.2.2.1])), (c0, .inl (cA, 512, .inl uu.2.2.2))] := hD
  have hK : va_K (dC, dI) cls [(cA, .int)] s := hK
  refine W.widen (k := 0) (n := 0) (by omega) (by omega) ?_
  refine W.widen (k := 0) (n := 0) (by decide) (by decide) ?_
  exact W.zret (v := r) hx hb hr (nar_b (wrS_b hw)) (fun t ht hW => ⟨⟨r, uu, rfl, hw, cB.of (hP.sub [0, 1] rfl) (hD.sub [0, 1] (by decide) rfl) (hK.sub [0] rfl) ht hW⟩, hS.F ht⟩) hS.2.2 d_St_copyBlock_13
