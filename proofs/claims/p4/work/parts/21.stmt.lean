/-! reading a statement -/
def pk (tx : Nat → Int32) (en a : Nat) : Int32 := if a < en then tx a else -1
def dgt (c : Int32) : Int32 := if c < 48 then 0 else if 57 < c then 0 else 1
def fdg (c : Int32) : Int32 := if c < 48 then 0 else if 56 ≤ c then 0 else 1
def vrb (c : Int32) : Int32 := if c < 65 then 0 else if 73 ≤ c then 0 else 1
theorem dgt_b (c : Int32) : dgt c = 0 ∨ dgt c = 1 := by unfold dgt; repeat' split
                                                        all_goals simp
theorem fdg_b (c : Int32) : fdg c = 0 ∨ fdg c = 1 := by unfold fdg; repeat' split
                                                        all_goals simp
theorem vrb_b (c : Int32) : vrb c = 0 ∨ vrb c = 1 := by unfold vrb; repeat' split
                                                        all_goals simp
theorem qk_lt {tx : Nat → Int32} {en a : Nat} {c : Int32} (h : pk tx en a = c) (hc : ¬ c = -1) : a < en := by
  unfold pk at h
  split at h
  · assumption
  · exact absurd h.symm hc
theorem qk_dgt {tx : Nat → Int32} {en a : Nat} (h : ¬ dgt (pk tx en a) = 0) : a < en := by
  unfold pk at h
  split at h
  · assumption
  · exact absurd (by decide) h
theorem qk_vrb {tx : Nat → Int32} {en a : Nat} (h : ¬ vrb (pk tx en a) = 0) : a < en := by
  unfold pk at h
  split at h
  · assumption
  · exact absurd (by decide) h
theorem qk_fdg {tx : Nat → Int32} {en a : Nat} (h : ¬ fdg (pk tx en a) = 0) : a < en := by
  unfold pk at h
  split at h
  · assumption
  · exact absurd (by decide) h
set_option maxHeartbeats 4000000 in
set_option maxRecDepth 100000 in
theorem g_Ld_isDigit (l : Launch) (dC : Nat → ClassId) (dI : Nat → Nat → Nat) (x : Int32) (sz : Nat) : Met l y_Ld_isDigit (Cond.code y_Ld_isDigit b_Ld_isDigit 1 (some .boolean) :: gw) ({ frames := 0, cells := 0, slots := 0, locals := 0 }) (cP (dC, dI) [.int x] sz [] [] xT) (va_Qi (fun (r : Int32) (u : Unit) => r = dgt x) (fun (u : Unit) t => cB (dC, dI) (va_A [] sz) [] [] t) (va_A [] sz)) 0 0 (va_A [] sz) := by
  refine Met.ofW (cc := b_Ld_isDigit) (maxL := 1) (ret := (some .boolean)) (by decide) rfl ?_
  intro p e s m args below meth c s₁ B hml hv
  obtain ⟨rfl, hsz, hP, hK, hD0, hkw, hX⟩ := hv
  have hx := B.exec
  have hb := B.bytes
  have hr := B.returns
  have hts := fun w hw => atoms_spec (ws := Cond.code y_Ld_isDigit b_Ld_isDigit 1 (some .boolean) :: gw) B.pre w (List.mem_cons_of_mem _ hw)
  have hown : s.vm.findClass "LineDisk" = some m.cls := findClass_of_methodNamed B.named
  have hlocks := B.notSynchronized
  have hin := (name_of_methodNamed B.named B.method).1
  subst hsz
  have hD := hD0.self (sz := s.heap.size)
  generalize hAe : va_A [] s.heap.size = A at hD ⊢
  have hA : ∀ q : Nat, s.heap.size ≤ q → A q := fun q h => by rw [← hAe]; exact Or.inr h
  have hS : va_S A s.heap s.heap [] := va_S.rf
  have hl := lv_entry ([.int x]) (n := 1) (Nat.le_of_ble_eq_true rfl)
  rw [lg_entry_eq]
  generalize (lg_sl ([.int x]) ++ List.replicate (1 - (lg_sl ([.int x])).length) Slot.unset).toArray = ls at hl ⊢
  have hl : lv_has ls 1 [(0, .int x)] := hl
  have F : CallFix p m c b_Ld_isDigit 1 s ([.int x]).toArray gw "LineDisk" := ⟨hx, hb, hml, hown, hts⟩
  refine lv_iload_n hx hb d_Ld_isDigit_0 rfl (lv_at hl 0 rfl) ?_
  refine lv_bipush (v := 48) hx hb d_Ld_isDigit_1 (by decide) ?_
  refine lv_icmp_lt (tgt := 16) hx hb d_Ld_isDigit_3 (by decide) (fun c3 => ?_) (fun c3 => ?_)
  · skip
    refine lv_iconst (v := 0) hx hb d_Ld_isDigit_16 (by decide) ?_
    refine W.widen (k := 0) (n := 0) (by decide) (by decide) ?_
    exact W.zret (v := 0) hx hb hr (rfl) (fun t ht hW => ⟨⟨0, (), rfl, by (simp only [dgt, c3, if_true, if_false, not_true_eq_false, not_false_eq_true, ite_not] <;> try simp), cB.of (hP.sub [] rfl) (hD.sub [] (by decide) rfl) (hK.sub [] rfl) ht hW⟩, hS.F ht⟩) hS.2.2 d_Ld_isDigit_17
  · skip
    refine lv_iload_n hx hb d_Ld_isDigit_6 rfl (lv_at hl 0 rfl) ?_
    refine lv_bipush (v := 57) hx hb d_Ld_isDigit_7 (by decide) ?_
    refine lv_icmp_gt (tgt := 16) hx hb d_Ld_isDigit_9 (by decide) (fun c9 => ?_) (fun c9 => ?_)
    · skip
      refine lv_iconst (v := 0) hx hb d_Ld_isDigit_16 (by decide) ?_
      refine W.widen (k := 0) (n := 0) (by decide) (by decide) ?_
      exact W.zret (v := 0) hx hb hr (rfl) (fun t ht hW => ⟨⟨0, (), rfl, by (simp only [dgt, c3, c9, if_true, if_false, not_true_eq_false, not_false_eq_true, ite_not] <;> try simp), cB.of (hP.sub [] rfl) (hD.sub [] (by decide) rfl) (hK.sub [] rfl) ht hW⟩, hS.F ht⟩) hS.2.2 d_Ld_isDigit_17
    · skip
      refine lv_iconst (v := 1) hx hb d_Ld_isDigit_12 (by decide) ?_
      refine lv_goto (tgt := 17) hx hb d_Ld_isDigit_13 (by decide) ?_
      refine W.widen (k := 0) (n := 0) (by decide) (by decide) ?_
      exact W.zret (v := 1) hx hb hr (rfl) (fun t ht hW => ⟨⟨1, (), rfl, by (simp only [dgt, c3, c9, if_true, if_false, not_true_eq_false, not_false_eq_true, ite_not] <;> try simp), cB.of (hP.sub [] rfl) (hD.sub [] (by decide) rfl) (hK.sub [] rfl) ht hW⟩, hS.F ht⟩) hS.2.2 d_Ld_isDigit_17
set_option maxHeartbeats 4000000 in
set_option maxRecDepth 100000 in
theorem g_Ld_isFileDigit (l : Launch) (dC : Nat → ClassId) (dI : Nat → Nat → Nat) (x : Int32) (sz : Nat) : Met l y_Ld_isFileDigit (Cond.code y_Ld_isFileDigit b_Ld_isFileDigit 1 (some .boolean) :: gw) ({ frames := 0, cells := 0, slots := 0, locals := 0 }) (cP (dC, dI) [.int x] sz [] [] xT) (va_Qi (fun (r : Int32) (u : Unit) => r = fdg x) (fun (u : Unit) t => cB (dC, dI) (va_A [] sz) [] [] t) (va_A [] sz)) 0 0 (va_A [] sz) := by
  refine Met.ofW (cc := b_Ld_isFileDigit) (maxL := 1) (ret := (some .boolean)) (by decide) rfl ?_
  intro p e s m args below meth c s₁ B hml hv
  obtain ⟨rfl, hsz, hP, hK, hD0, hkw, hX⟩ := hv
  have hx := B.exec
  have hb := B.bytes
  have hr := B.returns
  have hts := fun w hw => atoms_spec (ws := Cond.code y_Ld_isFileDigit b_Ld_isFileDigit 1 (some .boolean) :: gw) B.pre w (List.mem_cons_of_mem _ hw)
  have hown : s.vm.findClass "LineDisk" = some m.cls := findClass_of_methodNamed B.named
  have hlocks := B.notSynchronized
  have hin := (name_of_methodNamed B.named B.method).1
  subst hsz
  have hD := hD0.self (sz := s.heap.size)
  generalize hAe : va_A [] s.heap.size = A at hD ⊢
  have hA : ∀ q : Nat, s.heap.size ≤ q → A q := fun q h => by rw [← hAe]; exact Or.inr h
  have hS : va_S A s.heap s.heap [] := va_S.rf
  have hl := lv_entry ([.int x]) (n := 1) (Nat.le_of_ble_eq_true rfl)
  rw [lg_entry_eq]
  generalize (lg_sl ([.int x]) ++ List.replicate (1 - (lg_sl ([.int x])).length) Slot.unset).toArray = ls at hl ⊢
  have hl : lv_has ls 1 [(0, .int x)] := hl
  have F : CallFix p m c b_Ld_isFileDigit 1 s ([.int x]).toArray gw "LineDisk" := ⟨hx, hb, hml, hown, hts⟩
  refine lv_iload_n hx hb d_Ld_isFileDigit_0 rfl (lv_at hl 0 rfl) ?_
  refine lv_bipush (v := 48) hx hb d_Ld_isFileDigit_1 (by decide) ?_
  refine lv_icmp_lt (tgt := 16) hx hb d_Ld_isFileDigit_3 (by decide) (fun c3 => ?_) (fun c3 => ?_)
  · skip
    refine lv_iconst (v := 0) hx hb d_Ld_isFileDigit_16 (by decide) ?_
    refine W.widen (k := 0) (n := 0) (by decide) (by decide) ?_
    exact W.zret (v := 0) hx hb hr (rfl) (fun t ht hW => ⟨⟨0, (), rfl, by (simp only [fdg, c3, if_true, if_false, not_true_eq_false, not_false_eq_true, ite_not] <;> try simp), cB.of (hP.sub [] rfl) (hD.sub [] (by decide) rfl) (hK.sub [] rfl) ht hW⟩, hS.F ht⟩) hS.2.2 d_Ld_isFileDigit_17
  · skip
    refine lv_iload_n hx hb d_Ld_isFileDigit_6 rfl (lv_at hl 0 rfl) ?_
    refine lv_bipush (v := 56) hx hb d_Ld_isFileDigit_7 (by decide) ?_
    refine lv_icmp_ge (tgt := 16) hx hb d_Ld_isFileDigit_9 (by decide) (fun c9 => ?_) (fun c9 => ?_)
    · skip
      refine lv_iconst (v := 0) hx hb d_Ld_isFileDigit_16 (by decide) ?_
      refine W.widen (k := 0) (n := 0) (by decide) (by decide) ?_
      exact W.zret (v := 0) hx hb hr (rfl) (fun t ht hW => ⟨⟨0, (), rfl, by (simp only [fdg, c3, c9, if_true, if_false, not_true_eq_false, not_false_eq_true, ite_not] <;> try simp), cB.of (hP.sub [] rfl) (hD.sub [] (by decide) rfl) (hK.sub [] rfl) ht hW⟩, hS.F ht⟩) hS.2.2 d_Ld_isFileDigit_17
    · skip
      refine lv_iconst (v := 1) hx hb d_Ld_isFileDigit_12 (by decide) ?_
      refine lv_goto (tgt := 17) hx hb d_Ld_isFileDigit_13 (by decide) ?_
      refine W.widen (k := 0) (n := 0) (by decide) (by decide) ?_
      exact W.zret (v := 1) hx hb hr (rfl) (fun t ht hW => ⟨⟨1, (), rfl, by (simp only [fdg, c3, c9, if_true, if_false, not_true_eq_false, not_false_eq_true, ite_not] <;> try simp), cB.of (hP.sub [] rfl) (hD.sub [] (by decide) rfl) (hK.sub [] rfl) ht hW⟩, hS.F ht⟩) hS.2.2 d_Ld_isFileDigit_17
set_option maxHeartbeats 4000000 in
set_option maxRecDepth 100000 in
theorem g_Ld_isVariable (l : Launch) (dC : Nat → ClassId) (dI : Nat → Nat → Nat) (x : Int32) (sz : Nat) : Met l y_Ld_isVariable (Cond.code y_Ld_isVariable b_Ld_isVariable 1 (some .boolean) :: gw) ({ frames := 0, cells := 0, slots := 0, locals := 0 }) (cP (dC, dI) [.int x] sz [] [] xT) (va_Qi (fun (r : Int32) (u : Unit) => r = vrb x) (fun (u : Unit) t => cB (dC, dI) (va_A [] sz) [] [] t) (va_A [] sz)) 0 0 (va_A [] sz) := by
  refine Met.ofW (cc := b_Ld_isVariable) (maxL := 1) (ret := (some .boolean)) (by decide) rfl ?_
  intro p e s m args below meth c s₁ B hml hv
  obtain ⟨rfl, hsz, hP, hK, hD0, hkw, hX⟩ := hv
  have hx := B.exec
  have hb := B.bytes
  have hr := B.returns
  have hts := fun w hw => atoms_spec (ws := Cond.code y_Ld_isVariable b_Ld_isVariable 1 (some .boolean) :: gw) B.pre w (List.mem_cons_of_mem _ hw)
  have hown : s.vm.findClass "LineDisk" = some m.cls := findClass_of_methodNamed B.named
  have hlocks := B.notSynchronized
  have hin := (name_of_methodNamed B.named B.method).1
  subst hsz
  have hD := hD0.self (sz := s.heap.size)
  generalize hAe : va_A [] s.heap.size = A at hD ⊢
  have hA : ∀ q : Nat, s.heap.size ≤ q → A q := fun q h => by rw [← hAe]; exact Or.inr h
  have hS : va_S A s.heap s.heap [] := va_S.rf
  have hl := lv_entry ([.int x]) (n := 1) (Nat.le_of_ble_eq_true rfl)
  rw [lg_entry_eq]
  generalize (lg_sl ([.int x]) ++ List.replicate (1 - (lg_sl ([.int x])).length) Slot.unset).toArray = ls at hl ⊢
  have hl : lv_has ls 1 [(0, .int x)] := hl
  have F : CallFix p m c b_Ld_isVariable 1 s ([.int x]).toArray gw "LineDisk" := ⟨hx, hb, hml, hown, hts⟩
  refine lv_iload_n hx hb d_Ld_isVariable_0 rfl (lv_at hl 0 rfl) ?_
  refine lv_bipush (v := 65) hx hb d_Ld_isVariable_1 (by decide) ?_
  refine lv_icmp_lt (tgt := 16) hx hb d_Ld_isVariable_3 (by decide) (fun c3 => ?_) (fun c3 => ?_)
  · skip
    refine lv_iconst (v := 0) hx hb d_Ld_isVariable_16 (by decide) ?_
    refine W.widen (k := 0) (n := 0) (by decide) (by decide) ?_
    exact W.zret (v := 0) hx hb hr (rfl) (fun t ht hW => ⟨⟨0, (), rfl, by (simp only [vrb, c3, if_true, if_false, not_true_eq_false, not_false_eq_true, ite_not] <;> try simp), cB.of (hP.sub [] rfl) (hD.sub [] (by decide) rfl) (hK.sub [] rfl) ht hW⟩, hS.F ht⟩) hS.2.2 d_Ld_isVariable_17
  · skip
    refine lv_iload_n hx hb d_Ld_isVariable_6 rfl (lv_at hl 0 rfl) ?_
    refine lv_bipush (v := 73) hx hb d_Ld_isVariable_7 (by decide) ?_
    refine lv_icmp_ge (tgt := 16) hx hb d_Ld_isVariable_9 (by decide) (fun c9 => ?_) (fun c9 => ?_)
    · skip
      refine lv_iconst (v := 0) hx hb d_Ld_isVariable_16 (by decide) ?_
      refine W.widen (k := 0) (n := 0) (by decide) (by decide) ?_
      exact W.zret (v := 0) hx hb hr (rfl) (fun t ht hW => ⟨⟨0, (), rfl, by (simp only [vrb, c3, c9, if_true, if_false, not_true_eq_false, not_false_eq_true, ite_not] <;> try simp), cB.of (hP.sub [] rfl) (hD.sub [] (by decide) rfl) (hK.sub [] rfl) ht hW⟩, hS.F ht⟩) hS.2.2 d_Ld_isVariable_17
    · skip
      refine lv_iconst (v := 1) hx hb d_Ld_isVariable_12 (by decide) ?_
      refine lv_goto (tgt := 17) hx hb d_Ld_isVariable_13 (by decide) ?_
      refine W.widen (k := 0) (n := 0) (by decide) (by decide) ?_
      exact W.zret (v := 1) hx hb hr (rfl) (fun t ht hW => ⟨⟨1, (), rfl, by (simp only [vrb, c3, c9, if_true, if_false, not_true_eq_false, not_false_eq_true, ite_not] <;> try simp), cB.of (hP.sub [] rfl) (hD.sub [] (by decide) rfl) (hK.sub [] rfl) ht hW⟩, hS.F ht⟩) hS.2.2 d_Ld_isVariable_17
set_option maxHeartbeats 4000000 in
set_option maxRecDepth 100000 in
theorem g_Sm_peek (l : Launch) (dC : Nat → ClassId) (dI : Nat → Nat → Nat) (h0 sx sv : Nat) (cX cV : ClassId) (tx va : Nat → Int32) (en at1 : Nat) (go kd vr fi lf sg rt tg : Int32) (he : en ≤ 12) (ha : at1 ≤ 12) (sz : Nat) : Met l y_Sm_peek (Cond.code y_Sm_peek b_Sm_peek 1 (some .int) :: gw) ({ frames := 0, cells := 0, slots := 0, locals := 0 }) (cP (dC, dI) [.ref h0] sz [(h0, .inr (4, [.ref sx, .ref sv, .int (nI en), .int (nI at1), .int go, .int kd, .int vr, .int fi, .int lf, .int sg, .int rt, .int tg])), (sx, .inl (cX, 12, .inl tx)), (sv, .inl (cV, 8, .inl va))] [(cX, .int), (cV, .int)] xT) (va_Qi (fun (r : Int32) (u : Unit) => r = pk tx en at1) (fun (u : Unit) t => cB (dC, dI) (va_A [(h0, .inr (4, [.ref sx, .ref sv, .int (nI en), .int (nI at1), .int go, .int kd, .int vr, .int fi, .int lf, .int sg, .int rt, .int tg])), (sx, .inl (cX, 12, .inl tx)), (sv, .inl (cV, 8, .inl va))] sz) [(h0, .inr (4, [.ref sx, .ref sv, .int (nI en), .int (nI at1), .int go, .int kd, .int vr, .int fi, .int lf, .int sg, .int rt, .int tg])), (sx, .inl (cX, 12, .inl tx)), (sv, .inl (cV, 8, .inl va))] [(cX, .int), (cV, .int)] t) (va_A [(h0, .inr (4, [.ref sx, .ref sv, .int (nI en), .int (nI at1), .int go, .int kd, .int vr, .int fi, .int lf, .int sg, .int rt, .int tg])), (sx, .inl (cX, 12, .inl tx)), (sv, .inl (cV, 8, .inl va))] sz)) 0 0 (va_A [(h0, .inr (4, [.ref sx, .ref sv, .int (nI en), .int (nI at1), .int go, .int kd, .int vr, .int fi, .int lf, .int sg, .int rt, .int tg])), (sx, .inl (cX, 12, .inl tx)), (sv, .inl (cV, 8, .inl va))] sz) := by
  refine Met.ofW (cc := b_Sm_peek) (maxL := 1) (ret := (some .int)) (by decide) rfl ?_
  intro p e s m args below meth c s₁ B hml hv
  obtain ⟨rfl, hsz, hP, hK, hD0, hkw, hX⟩ := hv
  have hx := B.exec
  have hb := B.bytes
  have hr := B.returns
  have hts := fun w hw => atoms_spec (ws := Cond.code y_Sm_peek b_Sm_peek 1 (some .int) :: gw) B.pre w (List.mem_cons_of_mem _ hw)
  have hown : s.vm.findClass "LineDisk$Statement" = some m.cls := findClass_of_methodNamed B.named
  have hlocks := B.notSynchronized
  have hin := (name_of_methodNamed B.named B.method).1
  subst hsz
  have hD := hD0.self (sz := s.heap.size)
  generalize hAe : va_A [(h0, .inr (4, [.ref sx, .ref sv, .int (nI en), .int (nI at1), .int go, .int kd, .int vr, .int fi, .int lf, .int sg, .int rt, .int tg])), (sx, .inl (cX, 12, .inl tx)), (sv, .inl (cV, 8, .inl va))] s.heap.size = A at hD ⊢
  have hA : ∀ q : Nat, s.heap.size ≤ q → A q := fun q h => by rw [← hAe]; exact Or.inr h
  have hS : va_S A s.heap s.heap [] := va_S.rf
  have hl := lv_entry ([.ref h0]) (n := 1) (Nat.le_of_ble_eq_true rfl)
  rw [lg_entry_eq]
  generalize (lg_sl ([.ref h0]) ++ List.replicate (1 - (lg_sl ([.ref h0])).length) Slot.unset).toArray = ls at hl ⊢
  have hl : lv_has ls 1 [(0, .ref h0)] := hl
  have F : CallFix p m c b_Sm_peek 1 s ([.ref h0]).toArray gw "LineDisk$Statement" := ⟨hx, hb, hml, hown, hts⟩
  refine lv_aload_n hx hb d_Sm_peek_0 rfl (lv_at hl 0 rfl) ?_
  refine va_get (D := (dC, dI)) (ci := 4) (v := .int (nI at1)) (C := R_Sm) (T := F_Sm) (N := 12) hx hb hts in_Sm hown hK hP 0 rfl rfl 3 (by decide) (hts _ w_112) (fun _ h9 => h9) rfl d_Sm_peek_1 ?_
  refine lv_aload_n hx hb d_Sm_peek_4 rfl (lv_at hl 0 rfl) ?_
  refine va_get (D := (dC, dI)) (ci := 4) (v := .int (nI en)) (C := R_Sm) (T := F_Sm) (N := 12) hx hb hts in_Sm hown hK hP 0 rfl rfl 2 (by decide) (hts _ w_111) (fun _ h9 => h9) rfl d_Sm_peek_5 ?_
  refine lv_icmp_ge (tgt := 23) hx hb d_Sm_peek_8 (by decide) (fun c8 => ?_) (fun c8 => ?_)
  · skip
    refine lv_iconst (v := (-1)) hx hb d_Sm_peek_23 (by decide) ?_
    refine W.widen (k := 0) (n := 0) (by decide) (by decide) ?_
    exact W.iret (v := (-1)) hx hb hr (fun t ht hW => ⟨⟨(-1), (), rfl, by
      rw [nI_leI (by omega) (by omega)] at c8
      unfold pk
      rw [if_neg (by omega)], cB.of (hP.sub [0, 1, 2] rfl) (hD.sub [0, 1, 2] (by decide) rfl) (hK.sub [0, 1] rfl) ht hW⟩, hS.F ht⟩) hS.2.2 d_Sm_peek_24
  · skip
    refine lv_aload_n hx hb d_Sm_peek_11 rfl (lv_at hl 0 rfl) ?_
    refine va_get (D := (dC, dI)) (ci := 4) (v := .ref sx) (C := R_Sm) (T := F_Sm) (N := 12) hx hb hts in_Sm hown hK hP 0 rfl rfl 0 (by decide) (hts _ w_109) (fun _ h9 => h9) rfl d_Sm_peek_12 ?_
    refine lv_aload_n hx hb d_Sm_peek_15 rfl (lv_at hl 0 rfl) ?_
    refine va_get (D := (dC, dI)) (ci := 4) (v := .int (nI at1)) (C := R_Sm) (T := F_Sm) (N := 12) hx hb hts in_Sm hown hK hP 0 rfl rfl 3 (by decide) (hts _ w_112) (fun _ h9 => h9) rfl d_Sm_peek_16 ?_
    refine va_iald hx hb hK hP 1 0 rfl rfl (by
      rw [nI_leI (by omega) (by omega)] at c8
      exact vp_in_nI (by omega) (by decide)) d_Sm_peek_19 ?_
    refine tv (x2 := tx at1) (by exact by rw [nI_clamp (by omega)]) ?_
    refine lv_goto (tgt := 24) hx hb d_Sm_peek_20 (by decide) ?_
    refine W.widen (k := 0) (n := 0) (by decide) (by decide) ?_
    exact W.iret (v := tx at1) hx hb hr (fun t ht hW => ⟨⟨tx at1, (), rfl, by
      rw [nI_leI (by omega) (by omega)] at c8
      unfold pk
      rw [if_pos (by omega)], cB.of (hP.sub [0, 1, 2] rfl) (hD.sub [0, 1, 2] (by decide) rfl) (hK.sub [0, 1] rfl) ht hW⟩, hS.F ht⟩) hS.2.2 d_Sm_peek_24
def expF (tx : Nat → Int32) (en : Nat) (c : Int32) (a : Nat) (g : Int32) : Nat × Int32 := if ¬ pk tx en a = c then (a, 0) else (a + 1, g)
set_option maxHeartbeats 4000000 in
set_option maxRecDepth 100000 in
theorem g_Sm_expect (l : Launch) (dC : Nat → ClassId) (dI : Nat → Nat → Nat) (h0 sx sv : Nat) (cX cV : ClassId) (tx va : Nat → Int32) (en at1 : Nat) (go kd vr fi lf sg rt tg : Int32) (he : en ≤ 12) (ha : at1 ≤ en) (c9 : Int32) (hc9 : ¬ c9 = -1) (sz : Nat) : Met l y_Sm_expect (Cond.code y_Sm_expect b_Sm_expect 2 none :: gw) ({ frames := 1, cells := 0, slots := 0, locals := 20 }) (cP (dC, dI) [.ref h0, .int c9] sz [(h0, .inr (4, [.ref sx, .ref sv, .int (nI en), .int (nI at1), .int go, .int kd, .int vr, .int fi, .int lf, .int sg, .int rt, .int tg])), (sx, .inl (cX, 12, .inl tx)), (sv, .inl (cV, 8, .inl va))] [(cX, .int), (cV, .int)] xT) (va_Qv (fun (u : Nat × Int32) => u = expF tx en c9 at1 go ∧ u.1 ≤ en) (fun (u : Nat × Int32) t => cB (dC, dI) (va_A [(h0, .inr (4, [.ref sx, .ref sv, .int (nI en), .int (nI at1), .int go, .int kd, .int vr, .int fi, .int lf, .int sg, .int rt, .int tg])), (sx, .inl (cX, 12, .inl tx)), (sv, .inl (cV, 8, .inl va))] sz) [(h0, .inr (4, [.ref sx, .ref sv, .int (nI en), .int (nI u.1), .int u.2, .int kd, .int vr, .int fi, .int lf, .int sg, .int rt, .int tg])), (sx, .inl (cX, 12, .inl tx)), (sv, .inl (cV, 8, .inl va))] [(cX, .int), (cV, .int)] t) (va_A [(h0, .inr (4, [.ref sx, .ref sv, .int (nI en), .int (nI at1), .int go, .int kd, .int vr, .int fi, .int lf, .int sg, .int rt, .int tg])), (sx, .inl (cX, 12, .inl tx)), (sv, .inl (cV, 8, .inl va))] sz)) 0 0 (va_A [(h0, .inr (4, [.ref sx, .ref sv, .int (nI en), .int (nI at1), .int go, .int kd, .int vr, .int fi, .int lf, .int sg, .int rt, .int tg])), (sx, .inl (cX, 12, .inl tx)), (sv, .inl (cV, 8, .inl va))] sz) := by
  refine Met.ofW (cc := b_Sm_expect) (maxL := 2) (ret := none) (by decide) rfl ?_
  intro p e s m args below meth c s₁ B hml hv
  obtain ⟨rfl, hsz, hP, hK, hD0, hkw, hX⟩ := hv
  have hx := B.exec
  have hb := B.bytes
  have hr := B.returns
  have hts := fun w hw => atoms_spec (ws := Cond.code y_Sm_expect b_Sm_expect 2 none :: gw) B.pre w (List.mem_cons_of_mem _ hw)
  have hown : s.vm.findClass "LineDisk$Statement" = some m.cls := findClass_of_methodNamed B.named
  have hlocks := B.notSynchronized
  have hin := (name_of_methodNamed B.named B.method).1
  subst hsz
  have hD := hD0.self (sz := s.heap.size)
  generalize hAe : va_A [(h0, .inr (4, [.ref sx, .ref sv, .int (nI en), .int (nI at1), .int go, .int kd, .int vr, .int fi, .int lf, .int sg, .int rt, .int tg])), (sx, .inl (cX, 12, .inl tx)), (sv, .inl (cV, 8, .inl va))] s.heap.size = A at hD ⊢
  have hA : ∀ q : Nat, s.heap.size ≤ q → A q := fun q h => by rw [← hAe]; exact Or.inr h
  have hS : va_S A s.heap s.heap [] := va_S.rf
  have hl := lv_entry ([.ref h0, .int c9]) (n := 2) (Nat.le_of_ble_eq_true rfl)
  rw [lg_entry_eq]
  generalize (lg_sl ([.ref h0, .int c9]) ++ List.replicate (2 - (lg_sl ([.ref h0, .int c9])).length) Slot.unset).toArray = ls at hl ⊢
  have hl : lv_has ls 2 [(0, .ref h0), (1, .int c9)] := hl
  have F : CallFix p m c b_Sm_expect 2 s ([.ref h0, .int c9]).toArray gw "LineDisk$Statement" := ⟨hx, hb, hml, hown, hts⟩
  refine lv_aload_n hx hb d_Sm_expect_0 rfl (lv_at hl 0 rfl) ?_
  refine go_i (wr := []) (tr := []) (rV (C := "LineDisk$Statement") (ci := 4) (q0 := 0) (b := h0) (n := 0) (As := []) (rest := []) F hkw (g_Sm_peek l dC dI h0 sx sv cX cV tx va en at1 go kd vr fi lf sg rt tg he (by omega) s.heap.size) xT_bl (fun _ _ _ => trivial) w_268 w_270 ws_6 w_5 w_271 rfl rfl (by decide +kernel) ⟨Nat.le_of_ble_eq_true rfl, Nat.le_of_ble_eq_true rfl⟩ (hP.sub (ws' := [(h0, .inr (4, [.ref sx, .ref sv, .int (nI en), .int (nI at1), .int go, .int kd, .int vr, .int fi, .int lf, .int sg, .int rt, .int tg])), (sx, .inl (cX, 12, .inl tx)), (sv, .inl (cV, 8, .inl va))]) [0, 1, 2] rfl) (hD.sub (ws' := [(h0, .inr (4, [.ref sx, .ref sv, .int (nI en), .int (nI at1), .int go, .int kd, .int vr, .int fi, .int lf, .int sg, .int rt, .int tg])), (sx, .inl (cX, 12, .inl tx)), (sv, .inl (cV, 8, .inl va))]) [0, 1, 2] (by decide) rfl) (hK.sub (tys' := [(cX, .int), (cV, .int)]) [0, 1] rfl) rfl rfl rfl rfl hl.1 rfl (Nat.le_of_ble_eq_true rfl) d_Sm_expect_1 ⟨by decide, by decide⟩) hP hD hK hS hA [0, 1, 2] [] [] rfl rfl (by decide) (by decide) rfl (fun r u H locs hw hP hD hK hS => ?_)
  have hP : va_P (dC, dI) cls [(h0, .inr (4, [.ref sx, .ref sv, .int (nI en), .int (nI at1), .int go, .int kd, .int vr, .int fi, .int lf, .int sg, .int rt, .int tg])), (sx, .inl (cX, 12, .inl tx)), (sv, .inl (cV, 8, .inl va))] H := hP
  have hD : va_D A [(h0, .inr (4, [.ref sx, .ref sv, .int (nI en), .int (nI at1), .int go, .int kd, .int vr, .int fi, .int lf, .int sg, .int rt, .int tg])), (sx, .inl (cX, 12, .inl tx)), (sv, .inl (cV, 8, .inl va))] := hD
  have hK : va_K (dC, dI) cls [(cX, .int), (cV, .int)] s := hK
  refine W.widen (k := 0) (n := 0) (by omega) (by omega) ?_
  subst hw
  refine lv_iload_n hx hb d_Sm_expect_4 rfl (lv_at hl 1 rfl) ?_
  refine lv_icmp_ne (tgt := 21) hx hb d_Sm_expect_5 (by decide) (fun c5 => ?_) (fun c5 => ?_)
  · skip
    refine lv_aload_n hx hb d_Sm_expect_21 rfl (lv_at hl 0 rfl) ?_
    refine lv_iconst (v := 0) hx hb d_Sm_expect_22 (by decide) ?_
    refine va_put (D := (dC, dI)) (ci := 4) (v := .int 0) (ty := .boolean) (C := R_Sm) (T := F_Sm) (N := 12) hx hb hts in_Sm t_Sm t_Sm_ok n_Sm hown hK hP hD hS 0 rfl rfl 4 (by decide) (hts _ w_113) (fun _ h9 => h9) rfl (by decide +kernel) (rfl) (rfl) (Nat.le_of_ble_eq_true rfl) d_Sm_expect_23 (fun H locs hP hD hS => ?_)
    have hP : va_P (dC, dI) cls [(h0, .inr (4, [.ref sx, .ref sv, .int (nI en), .int (nI at1), .int 0, .int kd, .int vr, .int fi, .int lf, .int sg, .int rt, .int tg])), (sx, .inl (cX, 12, .inl tx)), (sv, .inl (cV, 8, .inl va))] H := hP
    have hD : va_D A [(h0, .inr (4, [.ref sx, .ref sv, .int (nI en), .int (nI at1), .int 0, .int kd, .int vr, .int fi, .int lf, .int sg, .int rt, .int tg])), (sx, .inl (cX, 12, .inl tx)), (sv, .inl (cV, 8, .inl va))] := hD
    refine W.widen (k := 0) (n := 0) (by decide) (by decide) ?_
    exact W.vret hx hb hr (fun t ht hW => ⟨⟨(at1, 0), rfl, ⟨by (simp only [expF, c5, if_true, if_false, not_true_eq_false, not_false_eq_true, ite_not] <;> try simp), by exact ha⟩, cB.of (hP.sub [0, 1, 2] rfl) (hD.sub [0, 1, 2] (by decide) rfl) (hK.sub [0, 1] rfl) ht hW⟩, hS.F ht⟩) hS.2.2 d_Sm_expect_26
  · skip
    refine lv_aload_n hx hb d_Sm_expect_8 rfl (lv_at hl 0 rfl) ?_
    refine lv_dup hx hb d_Sm_expect_9 rfl ?_
    refine va_get (D := (dC, dI)) (ci := 4) (v := .int (nI at1)) (C := R_Sm) (T := F_Sm) (N := 12) hx hb hts in_Sm hown hK hP 0 rfl rfl 3 (by decide) (hts _ w_112) (fun _ h9 => h9) rfl d_Sm_expect_10 ?_
    refine lv_iconst (v := 1) hx hb d_Sm_expect_13 (by decide) ?_
    refine lv_iadd hx hb d_Sm_expect_14 ?_
    refine tv (x2 := nI (at1 + 1)) (by exact (nI_succ at1).symm) ?_
    refine va_put (D := (dC, dI)) (ci := 4) (v := .int (nI (at1 + 1))) (ty := .int) (C := R_Sm) (T := F_Sm) (N := 12) hx hb hts in_Sm t_Sm t_Sm_ok n_Sm hown hK hP hD hS 0 rfl rfl 3 (by decide) (hts _ w_112) (fun _ h9 => h9) rfl (by decide +kernel) (rfl) (rfl) (Nat.le_of_ble_eq_true rfl) d_Sm_expect_15 (fun H locs hP hD hS => ?_)
    have hP : va_P (dC, dI) cls [(h0, .inr (4, [.ref sx, .ref sv, .int (nI en), .int (nI (at1 + 1)), .int go, .int kd, .int vr, .int fi, .int lf, .int sg, .int rt, .int tg])), (sx, .inl (cX, 12, .inl tx)), (sv, .inl (cV, 8, .inl va))] H := hP
    have hD : va_D A [(h0, .inr (4, [.ref sx, .ref sv, .int (nI en), .int (nI (at1 + 1)), .int go, .int kd, .int vr, .int fi, .int lf, .int sg, .int rt, .int tg])), (sx, .inl (cX, 12, .inl tx)), (sv, .inl (cV, 8, .inl va))] := hD
    refine lv_goto (tgt := 26) hx hb d_Sm_expect_18 (by decide) ?_
    refine W.widen (k := 0) (n := 0) (by decide) (by decide) ?_
    exact W.vret hx hb hr (fun t ht hW => ⟨⟨(at1 + 1, go), rfl, ⟨by (simp only [expF, c5, if_true, if_false, not_true_eq_false, not_false_eq_true, ite_not] <;> try simp), by show at1 + 1 ≤ en; have := qk_lt c5 hc9; omega⟩, cB.of (hP.sub [0, 1, 2] rfl) (hD.sub [0, 1, 2] (by decide) rfl) (hK.sub [0, 1] rfl) ht hW⟩, hS.F ht⟩) hS.2.2 d_Sm_expect_26
def variableF (tx : Nat → Int32) (en a : Nat) (g : Int32) : Int32 × Nat × Int32 := if ¬ vrb (pk tx en a) = 0 then (pk tx en a - 65, a + 1, g) else (0, a, 0)
set_option maxHeartbeats 4000000 in
set_option maxRecDepth 100000 in
theorem g_Sm_variable (l : Launch) (dC : Nat → ClassId) (dI : Nat → Nat → Nat) (h0 sx sv : Nat) (cX cV : ClassId) (tx va : Nat → Int32) (en at1 : Nat) (go kd vr fi lf sg rt tg : Int32) (he : en ≤ 12) (ha : at1 ≤ en) (sz : Nat) : Met l y_Sm_variable (Cond.code y_Sm_variable b_Sm_variable 2 (some .int) :: gw) ({ frames := 1, cells := 0, slots := 0, locals := 20 }) (cP (dC, dI) [.ref h0] sz [(h0, .inr (4, [.ref sx, .ref sv, .int (nI en), .int (nI at1), .int go, .int kd, .int vr, .int fi, .int lf, .int sg, .int rt, .int tg])), (sx, .inl (cX, 12, .inl tx)), (sv, .inl (cV, 8, .inl va))] [(cX, .int), (cV, .int)] xT) (va_Qi (fun (r : Int32) (u : Nat × Int32) => (r, u) = variableF tx en at1 go ∧ u.1 ≤ en) (fun (u : Nat × Int32) t => cB (dC, dI) (va_A [(h0, .inr (4, [.ref sx, .ref sv, .int (nI en), .int (nI at1), .int go, .int kd, .int vr, .int fi, .int lf, .int sg, .int rt, .int tg])), (sx, .inl (cX, 12, .inl tx)), (sv, .inl (cV, 8, .inl va))] sz) [(h0, .inr (4, [.ref sx, .ref sv, .int (nI en), .int (nI u.1), .int u.2, .int kd, .int vr, .int fi, .int lf, .int sg, .int rt, .int tg])), (sx, .inl (cX, 12, .inl tx)), (sv, .inl (cV, 8, .inl va))] [(cX, .int), (cV, .int)] t) (va_A [(h0, .inr (4, [.ref sx, .ref sv, .int (nI en), .int (nI at1), .int go, .int kd, .int vr, .int fi, .int lf, .int sg, .int rt, .int tg])), (sx, .inl (cX, 12, .inl tx)), (sv, .inl (cV, 8, .inl va))] sz)) 0 0 (va_A [(h0, .inr (4, [.ref sx, .ref sv, .int (nI en), .int (nI at1), .int go, .int kd, .int vr, .int fi, .int lf, .int sg, .int rt, .int tg])), (sx, .inl (cX, 12, .inl tx)), (sv, .inl (cV, 8, .inl va))] sz) := by
  refine Met.ofW (cc := b_Sm_variable) (maxL := 2) (ret := (some .int)) (by decide) rfl ?_
  intro p e s m args below meth c s₁ B hml hv
  obtain ⟨rfl, hsz, hP, hK, hD0, hkw, hX⟩ := hv
  have hx := B.exec
  have hb := B.bytes
  have hr := B.returns
  have hts := fun w hw => atoms_spec (ws := Cond.code y_Sm_variable b_Sm_variable 2 (some .int) :: gw) B.pre w (List.mem_cons_of_mem _ hw)
  have hown : s.vm.findClass "LineDisk$Statement" = some m.cls := findClass_of_methodNamed B.named
  have hlocks := B.notSynchronized
  have hin := (name_of_methodNamed B.named B.method).1
  subst hsz
  have hD := hD0.self (sz := s.heap.size)
  generalize hAe : va_A [(h0, .inr (4, [.ref sx, .ref sv, .int (nI en), .int (nI at1), .int go, .int kd, .int vr, .int fi, .int lf, .int sg, .int rt, .int tg])), (sx, .inl (cX, 12, .inl tx)), (sv, .inl (cV, 8, .inl va))] s.heap.size = A at hD ⊢
  have hA : ∀ q : Nat, s.heap.size ≤ q → A q := fun q h => by rw [← hAe]; exact Or.inr h
  have hS : va_S A s.heap s.heap [] := va_S.rf
  have hl := lv_entry ([.ref h0]) (n := 2) (Nat.le_of_ble_eq_true rfl)
  rw [lg_entry_eq]
  generalize (lg_sl ([.ref h0]) ++ List.replicate (2 - (lg_sl ([.ref h0])).length) Slot.unset).toArray = ls at hl ⊢
  have hl : lv_has ls 2 [(0, .ref h0)] := hl
  have F : CallFix p m c b_Sm_variable 2 s ([.ref h0]).toArray gw "LineDisk$Statement" := ⟨hx, hb, hml, hown, hts⟩
  refine lv_aload_n hx hb d_Sm_variable_0 rfl (lv_at hl 0 rfl) ?_
  refine go_i (wr := []) (tr := []) (rV (C := "LineDisk$Statement") (ci := 4) (q0 := 0) (b := h0) (n := 0) (As := []) (rest := []) F hkw (g_Sm_peek l dC dI h0 sx sv cX cV tx va en at1 go kd vr fi lf sg rt tg he (by omega) s.heap.size) xT_bl (fun _ _ _ => trivial) w_268 w_270 ws_6 w_5 w_271 rfl rfl (by decide +kernel) ⟨Nat.le_of_ble_eq_true rfl, Nat.le_of_ble_eq_true rfl⟩ (hP.sub (ws' := [(h0, .inr (4, [.ref sx, .ref sv, .int (nI en), .int (nI at1), .int go, .int kd, .int vr, .int fi, .int lf, .int sg, .int rt, .int tg])), (sx, .inl (cX, 12, .inl tx)), (sv, .inl (cV, 8, .inl va))]) [0, 1, 2] rfl) (hD.sub (ws' := [(h0, .inr (4, [.ref sx, .ref sv, .int (nI en), .int (nI at1), .int go, .int kd, .int vr, .int fi, .int lf, .int sg, .int rt, .int tg])), (sx, .inl (cX, 12, .inl tx)), (sv, .inl (cV, 8, .inl va))]) [0, 1, 2] (by decide) rfl) (hK.sub (tys' := [(cX, .int), (cV, .int)]) [0, 1] rfl) rfl rfl rfl rfl hl.1 rfl (Nat.le_of_ble_eq_true rfl) d_Sm_variable_1 ⟨by decide, by decide⟩) hP hD hK hS hA [0, 1, 2] [] [] rfl rfl (by decide) (by decide) rfl (fun r u H locs hw hP hD hK hS => ?_)
  have hP : va_P (dC, dI) cls [(h0, .inr (4, [.ref sx, .ref sv, .int (nI en), .int (nI at1), .int go, .int kd, .int vr, .int fi, .int lf, .int sg, .int rt, .int tg])), (sx, .inl (cX, 12, .inl tx)), (sv, .inl (cV, 8, .inl va))] H := hP
  have hD : va_D A [(h0, .inr (4, [.ref sx, .ref sv, .int (nI en), .int (nI at1), .int go, .int kd, .int vr, .int fi, .int lf, .int sg, .int rt, .int tg])), (sx, .inl (cX, 12, .inl tx)), (sv, .inl (cV, 8, .inl va))] := hD
  have hK : va_K (dC, dI) cls [(cX, .int), (cV, .int)] s := hK
  refine W.widen (k := 0) (n := 0) (by omega) (by omega) ?_
  subst hw
  refine go_i (wr := [(h0, .inr (4, [.ref sx, .ref sv, .int (nI en), .int (nI at1), .int go, .int kd, .int vr, .int fi, .int lf, .int sg, .int rt, .int tg])), (sx, .inl (cX, 12, .inl tx)), (sv, .inl (cV, 8, .inl va))]) (tr := [(cX, .int), (cV, .int)]) (rSN (host := "LineDisk") (n := 1) (As := [.int (pk tx en at1)]) (rest := []) F hkw (g_Ld_isVariable l dC dI (pk tx en at1) H.size) xT_bl (fun _ _ _ => trivial) (hkw.at v_261 rfl) w_262 w_1 w_263 rfl rfl (by decide +kernel) ⟨Nat.le_of_ble_eq_true rfl, Nat.le_of_ble_eq_true rfl⟩ (hP.sub (ws' := []) [] rfl) (hD.sub (ws' := []) [] (by decide) rfl) (hK.sub (tys' := []) [] rfl) rfl hl.1 rfl (Nat.le_of_ble_eq_true rfl) d_Sm_variable_4 ⟨by decide, by decide⟩) hP hD hK hS hA [] [0, 1, 2] [0, 1] rfl rfl (by decide) (by decide) rfl (fun r u H locs hw hP hD hK hS => ?_)
  have hP : va_P (dC, dI) cls [(h0, .inr (4, [.ref sx, .ref sv, .int (nI en), .int (nI at1), .int go, .int kd, .int vr, .int fi, .int lf, .int sg, .int rt, .int tg])), (sx, .inl (cX, 12, .inl tx)), (sv, .inl (cV, 8, .inl va))] H := hP
  have hD : va_D A [(h0, .inr (4, [.ref sx, .ref sv, .int (nI en), .int (nI at1), .int go, .int kd, .int vr, .int fi, .int lf, .int sg, .int rt, .int tg])), (sx, .inl (cX, 12, .inl tx)), (sv, .inl (cV, 8, .inl va))] := hD
  have hK : va_K (dC, dI) cls [(cX, .int), (cV, .int)] s := hK
  refine W.widen (k := 0) (n := 0) (by omega) (by omega) ?_
  subst hw
  refine lv_if_ne (tgt := 17) hx hb d_Sm_variable_7 (by decide) (fun c7 => ?_) (fun c7 => ?_)
  · skip
    refine lv_aload_n hx hb d_Sm_variable_17 rfl (lv_at hl 0 rfl) ?_
    refine go_i (wr := []) (tr := []) (rV (C := "LineDisk$Statement") (ci := 4) (q0 := 0) (b := h0) (n := 0) (As := []) (rest := []) F hkw (g_Sm_peek l dC dI h0 sx sv cX cV tx va en at1 go kd vr fi lf sg rt tg he (by omega) H.size) xT_bl (fun _ _ _ => trivial) w_268 w_270 ws_6 w_5 w_271 rfl rfl (by decide +kernel) ⟨Nat.le_of_ble_eq_true rfl, Nat.le_of_ble_eq_true rfl⟩ (hP.sub (ws' := [(h0, .inr (4, [.ref sx, .ref sv, .int (nI en), .int (nI at1), .int go, .int kd, .int vr, .int fi, .int lf, .int sg, .int rt, .int tg])), (sx, .inl (cX, 12, .inl tx)), (sv, .inl (cV, 8, .inl va))]) [0, 1, 2] rfl) (hD.sub (ws' := [(h0, .inr (4, [.ref sx, .ref sv, .int (nI en), .int (nI at1), .int go, .int kd, .int vr, .int fi, .int lf, .int sg, .int rt, .int tg])), (sx, .inl (cX, 12, .inl tx)), (sv, .inl (cV, 8, .inl va))]) [0, 1, 2] (by decide) rfl) (hK.sub (tys' := [(cX, .int), (cV, .int)]) [0, 1] rfl) rfl rfl rfl rfl hl.1 rfl (Nat.le_of_ble_eq_true rfl) d_Sm_variable_18 ⟨by decide, by decide⟩) hP hD hK hS hA [0, 1, 2] [] [] rfl rfl (by decide) (by decide) rfl (fun r u H locs hw hP hD hK hS => ?_)
    have hP : va_P (dC, dI) cls [(h0, .inr (4, [.ref sx, .ref sv, .int (nI en), .int (nI at1), .int go, .int kd, .int vr, .int fi, .int lf, .int sg, .int rt, .int tg])), (sx, .inl (cX, 12, .inl tx)), (sv, .inl (cV, 8, .inl va))] H := hP
    have hD : va_D A [(h0, .inr (4, [.ref sx, .ref sv, .int (nI en), .int (nI at1), .int go, .int kd, .int vr, .int fi, .int lf, .int sg, .int rt, .int tg])), (sx, .inl (cX, 12, .inl tx)), (sv, .inl (cV, 8, .inl va))] := hD
    have hK : va_K (dC, dI) cls [(cX, .int), (cV, .int)] s := hK
    refine W.widen (k := 0) (n := 0) (by omega) (by omega) ?_
    subst hw
    refine lv_bipush (v := 65) hx hb d_Sm_variable_21 (by decide) ?_
    refine lv_isub hx hb d_Sm_variable_23 ?_
    refine lv_istore_n (i := 1) hx hb d_Sm_variable_24 rfl hl (by decide) rfl (fun ls hl => ?_)
    have hl : lv_has ls 2 [(1, .int ((pk tx en at1) - 65)), (0, .ref h0)] := hl
    refine lv_aload_n hx hb d_Sm_variable_25 rfl (lv_at hl 1 rfl) ?_
    refine lv_dup hx hb d_Sm_variable_26 rfl ?_
    refine va_get (D := (dC, dI)) (ci := 4) (v := .int (nI at1)) (C := R_Sm) (T := F_Sm) (N := 12) hx hb hts in_Sm hown hK hP 0 rfl rfl 3 (by decide) (hts _ w_112) (fun _ h9 => h9) rfl d_Sm_variable_27 ?_
    refine lv_iconst (v := 1) hx hb d_Sm_variable_30 (by decide) ?_
    refine lv_iadd hx hb d_Sm_variable_31 ?_
    refine tv (x2 := nI (at1 + 1)) (by exact (nI_succ at1).symm) ?_
    refine va_put (D := (dC, dI)) (ci := 4) (v := .int (nI (at1 + 1))) (ty := .int) (C := R_Sm) (T := F_Sm) (N := 12) hx hb hts in_Sm t_Sm t_Sm_ok n_Sm hown hK hP hD hS 0 rfl rfl 3 (by decide) (hts _ w_112) (fun _ h9 => h9) rfl (by decide +kernel) (rfl) (rfl) (Nat.le_of_ble_eq_true rfl) d_Sm_variable_32 (fun H locs hP hD hS => ?_)
    have hP : va_P (dC, dI) cls [(h0, .inr (4, [.ref sx, .ref sv, .int (nI en), .int (nI (at1 + 1)), .int go, .int kd, .int vr, .int fi, .int lf, .int sg, .int rt, .int tg])), (sx, .inl (cX, 12, .inl tx)), (sv, .inl (cV, 8, .inl va))] H := hP
    have hD : va_D A [(h0, .inr (4, [.ref sx, .ref sv, .int (nI en), .int (nI (at1 + 1)), .int go, .int kd, .int vr, .int fi, .int lf, .int sg, .int rt, .int tg])), (sx, .inl (cX, 12, .inl tx)), (sv, .inl (cV, 8, .inl va))] := hD
    refine lv_iload_n hx hb d_Sm_variable_35 rfl (lv_at hl 0 rfl) ?_
    refine W.widen (k := 0) (n := 0) (by decide) (by decide) ?_
    exact W.iret (v := (pk tx en at1) - 65) hx hb hr (fun t ht hW => ⟨⟨(pk tx en at1) - 65, (at1 + 1, go), rfl, ⟨by (simp only [variableF, c7, if_true, if_false, not_true_eq_false, not_false_eq_true, ite_not] <;> try simp), by show at1 + 1 ≤ en; have := qk_vrb c7; omega⟩, cB.of (hP.sub [0, 1, 2] rfl) (hD.sub [0, 1, 2] (by decide) rfl) (hK.sub [0, 1] rfl) ht hW⟩, hS.F ht⟩) hS.2.2 d_Sm_variable_36
  · skip
    refine lv_aload_n hx hb d_Sm_variable_10 rfl (lv_at hl 0 rfl) ?_
    refine lv_iconst (v := 0) hx hb d_Sm_variable_11 (by decide) ?_
    refine va_put (D := (dC, dI)) (ci := 4) (v := .int 0) (ty := .boolean) (C := R_Sm) (T := F_Sm) (N := 12) hx hb hts in_Sm t_Sm t_Sm_ok n_Sm hown hK hP hD hS 0 rfl rfl 4 (by decide) (hts _ w_113) (fun _ h9 => h9) rfl (by decide +kernel) (rfl) (rfl) (Nat.le_of_ble_eq_true rfl) d_Sm_variable_12 (fun H locs hP hD hS => ?_)
    have hP : va_P (dC, dI) cls [(h0, .inr (4, [.ref sx, .ref sv, .int (nI en), .int (nI at1), .int 0, .int kd, .int vr, .int fi, .int lf, .int sg, .int rt, .int tg])), (sx, .inl (cX, 12, .inl tx)), (sv, .inl (cV, 8, .inl va))] H := hP
    have hD : va_D A [(h0, .inr (4, [.ref sx, .ref sv, .int (nI en), .int (nI at1), .int 0, .int kd, .int vr, .int fi, .int lf, .int sg, .int rt, .int tg])), (sx, .inl (cX, 12, .inl tx)), (sv, .inl (cV, 8, .inl va))] := hD
    refine lv_iconst (v := 0) hx hb d_Sm_variable_15 (by decide) ?_
    refine W.widen (k := 0) (n := 0) (by decide) (by decide) ?_
    exact W.iret (v := 0) hx hb hr (fun t ht hW => ⟨⟨0, (at1, 0), rfl, ⟨by (simp only [variableF, c7, if_true, if_false, not_true_eq_false, not_false_eq_true, ite_not] <;> try simp), by exact ha⟩, cB.of (hP.sub [0, 1, 2] rfl) (hD.sub [0, 1, 2] (by decide) rfl) (hK.sub [0, 1] rfl) ht hW⟩, hS.F ht⟩) hS.2.2 d_Sm_variable_16
def fileDigitF (tx : Nat → Int32) (en a : Nat) (g : Int32) : Int32 × Nat × Int32 := if ¬ fdg (pk tx en a) = 0 then (pk tx en a - 48, a + 1, g) else (0, a, 0)
set_option maxHeartbeats 4000000 in
set_option maxRecDepth 100000 in
theorem g_Sm_fileDigit (l : Launch) (dC : Nat → ClassId) (dI : Nat → Nat → Nat) (h0 sx sv : Nat) (cX cV : ClassId) (tx va : Nat → Int32) (en at1 : Nat) (go kd vr fi lf sg rt tg : Int32) (he : en ≤ 12) (ha : at1 ≤ en) (sz : Nat) : Met l y_Sm_fileDigit (Cond.code y_Sm_fileDigit b_Sm_fileDigit 2 (some .int) :: gw) ({ frames := 1, cells := 0, slots := 0, locals := 20 }) (cP (dC, dI) [.ref h0] sz [(h0, .inr (4, [.ref sx, .ref sv, .int (nI en), .int (nI at1), .int go, .int kd, .int vr, .int fi, .int lf, .int sg, .int rt, .int tg])), (sx, .inl (cX, 12, .inl tx)), (sv, .inl (cV, 8, .inl va))] [(cX, .int), (cV, .int)] xT) (va_Qi (fun (r : Int32) (u : Nat × Int32) => (r, u) = fileDigitF tx en at1 go ∧ u.1 ≤ en) (fun (u : Nat × Int32) t => cB (dC, dI) (va_A [(h0, .inr (4, [.ref sx, .ref sv, .int (nI en), .int (nI at1), .int go, .int kd, .int vr, .int fi, .int lf, .int sg, .int rt, .int tg])), (sx, .inl (cX, 12, .inl tx)), (sv, .inl (cV, 8, .inl va))] sz) [(h0, .inr (4, [.ref sx, .ref sv, .int (nI en), .int (nI u.1), .int u.2, .int kd, .int vr, .int fi, .int lf, .int sg, .int rt, .int tg])), (sx, .inl (cX, 12, .inl tx)), (sv, .inl (cV, 8, .inl va))] [(cX, .int), (cV, .int)] t) (va_A [(h0, .inr (4, [.ref sx, .ref sv, .int (nI en), .int (nI at1), .int go, .int kd, .int vr, .int fi, .int lf, .int sg, .int rt, .int tg])), (sx, .inl (cX, 12, .inl tx)), (sv, .inl (cV, 8, .inl va))] sz)) 0 0 (va_A [(h0, .inr (4, [.ref sx, .ref sv, .int (nI en), .int (nI at1), .int go, .int kd, .int vr, .int fi, .int lf, .int sg, .int rt, .int tg])), (sx, .inl (cX, 12, .inl tx)), (sv, .inl (cV, 8, .inl va))] sz) := by
  refine Met.ofW (cc := b_Sm_fileDigit) (maxL := 2) (ret := (some .int)) (by decide) rfl ?_
  intro p e s m args below meth c s₁ B hml hv
  obtain ⟨rfl, hsz, hP, hK, hD0, hkw, hX⟩ := hv
  have hx := B.exec
  have hb := B.bytes
  have hr := B.returns
  have hts := fun w hw => atoms_spec (ws := Cond.code y_Sm_fileDigit b_Sm_fileDigit 2 (some .int) :: gw) B.pre w (List.mem_cons_of_mem _ hw)
  have hown : s.vm.findClass "LineDisk$Statement" = some m.cls := findClass_of_methodNamed B.named
  have hlocks := B.notSynchronized
  have hin := (name_of_methodNamed B.named B.method).1
  subst hsz
  have hD := hD0.self (sz := s.heap.size)
  generalize hAe : va_A [(h0, .inr (4, [.ref sx, .ref sv, .int (nI en), .int (nI at1), .int go, .int kd, .int vr, .int fi, .int lf, .int sg, .int rt, .int tg])), (sx, .inl (cX, 12, .inl tx)), (sv, .inl (cV, 8, .inl va))] s.heap.size = A at hD ⊢
  have hA : ∀ q : Nat, s.heap.size ≤ q → A q := fun q h => by rw [← hAe]; exact Or.inr h
  have hS : va_S A s.heap s.heap [] := va_S.rf
  have hl := lv_entry ([.ref h0]) (n := 2) (Nat.le_of_ble_eq_true rfl)
  rw [lg_entry_eq]
  generalize (lg_sl ([.ref h0]) ++ List.replicate (2 - (lg_sl ([.ref h0])).length) Slot.unset).toArray = ls at hl ⊢
  have hl : lv_has ls 2 [(0, .ref h0)] := hl
  have F : CallFix p m c b_Sm_fileDigit 2 s ([.ref h0]).toArray gw "LineDisk$Statement" := ⟨hx, hb, hml, hown, hts⟩
  refine lv_aload_n hx hb d_Sm_fileDigit_0 rfl (lv_at hl 0 rfl) ?_
  refine go_i (wr := []) (tr := []) (rV (C := "LineDisk$Statement") (ci := 4) (q0 := 0) (b := h0) (n := 0) (As := []) (rest := []) F hkw (g_Sm_peek l dC dI h0 sx sv cX cV tx va en at1 go kd vr fi lf sg rt tg he (by omega) s.heap.size) xT_bl (fun _ _ _ => trivial) w_268 w_270 ws_6 w_5 w_271 rfl rfl (by decide +kernel) ⟨Nat.le_of_ble_eq_true rfl, Nat.le_of_ble_eq_true rfl⟩ (hP.sub (ws' := [(h0, .inr (4, [.ref sx, .ref sv, .int (nI en), .int (nI at1), .int go, .int kd, .int vr, .int fi, .int lf, .int sg, .int rt, .int tg])), (sx, .inl (cX, 12, .inl tx)), (sv, .inl (cV, 8, .inl va))]) [0, 1, 2] rfl) (hD.sub (ws' := [(h0, .inr (4, [.ref sx, .ref sv, .int (nI en), .int (nI at1), .int go, .int kd, .int vr, .int fi, .int lf, .int sg, .int rt, .int tg])), (sx, .inl (cX, 12, .inl tx)), (sv, .inl (cV, 8, .inl va))]) [0, 1, 2] (by decide) rfl) (hK.sub (tys' := [(cX, .int), (cV, .int)]) [0, 1] rfl) rfl rfl rfl rfl hl.1 rfl (Nat.le_of_ble_eq_true rfl) d_Sm_fileDigit_1 ⟨by decide, by decide⟩) hP hD hK hS hA [0, 1, 2] [] [] rfl rfl (by decide) (by decide) rfl (fun r u H locs hw hP hD hK hS => ?_)
  have hP : va_P (dC, dI) cls [(h0, .inr (4, [.ref sx, .ref sv, .int (nI en), .int (nI at1), .int go, .int kd, .int vr, .int fi, .int lf, .int sg, .int rt, .int tg])), (sx, .inl (cX, 12, .inl tx)), (sv, .inl (cV, 8, .inl va))] H := hP
  have hD : va_D A [(h0, .inr (4, [.ref sx, .ref sv, .int (nI en), .int (nI at1), .int go, .int kd, .int vr, .int fi, .int lf, .int sg, .int rt, .int tg])), (sx, .inl (cX, 12, .inl tx)), (sv, .inl (cV, 8, .inl va))] := hD
  have hK : va_K (dC, dI) cls [(cX, .int), (cV, .int)] s := hK
  refine W.widen (k := 0) (n := 0) (by omega) (by omega) ?_
  subst hw
  refine go_i (wr := [(h0, .inr (4, [.ref sx, .ref sv, .int (nI en), .int (nI at1), .int go, .int kd, .int vr, .int fi, .int lf, .int sg, .int rt, .int tg])), (sx, .inl (cX, 12, .inl tx)), (sv, .inl (cV, 8, .inl va))]) (tr := [(cX, .int), (cV, .int)]) (rSN (host := "LineDisk") (n := 1) (As := [.int (pk tx en at1)]) (rest := []) F hkw (g_Ld_isFileDigit l dC dI (pk tx en at1) H.size) xT_bl (fun _ _ _ => trivial) (hkw.at v_305 rfl) w_306 w_1 w_307 rfl rfl (by decide +kernel) ⟨Nat.le_of_ble_eq_true rfl, Nat.le_of_ble_eq_true rfl⟩ (hP.sub (ws' := []) [] rfl) (hD.sub (ws' := []) [] (by decide) rfl) (hK.sub (tys' := []) [] rfl) rfl hl.1 rfl (Nat.le_of_ble_eq_true rfl) d_Sm_fileDigit_4 ⟨by decide, by decide⟩) hP hD hK hS hA [] [0, 1, 2] [0, 1] rfl rfl (by decide) (by decide) rfl (fun r u H locs hw hP hD hK hS => ?_)
  have hP : va_P (dC, dI) cls [(h0, .inr (4, [.ref sx, .ref sv, .int (nI en), .int (nI at1), .int go, .int kd, .int vr, .int fi, .int lf, .int sg, .int rt, .int tg])), (sx, .inl (cX, 12, .inl tx)), (sv, .inl (cV, 8, .inl va))] H := hP
  have hD : va_D A [(h0, .inr (4, [.ref sx, .ref sv, .int (nI en), .int (nI at1), .int go, .int kd, .int vr, .int fi, .int lf, .int sg, .int rt, .int tg])), (sx, .inl (cX, 12, .inl tx)), (sv, .inl (cV, 8, .inl va))] := hD
  have hK : va_K (dC, dI) cls [(cX, .int), (cV, .int)] s := hK
  refine W.widen (k := 0) (n := 0) (by omega) (by omega) ?_
  subst hw
  refine lv_if_ne (tgt := 17) hx hb d_Sm_fileDigit_7 (by decide) (fun c7 => ?_) (fun c7 => ?_)
  · skip
    refine lv_aload_n hx hb d_Sm_fileDigit_17 rfl (lv_at hl 0 rfl) ?_
    refine go_i (wr := []) (tr := []) (rV (C := "LineDisk$Statement") (ci := 4) (q0 := 0) (b := h0) (n := 0) (As := []) (rest := []) F hkw (g_Sm_peek l dC dI h0 sx sv cX cV tx va en at1 go kd vr fi lf sg rt tg he (by omega) H.size) xT_bl (fun _ _ _ => trivial) w_268 w_270 ws_6 w_5 w_271 rfl rfl (by decide +kernel) ⟨Nat.le_of_ble_eq_true rfl, Nat.le_of_ble_eq_true rfl⟩ (hP.sub (ws' := [(h0, .inr (4, [.ref sx, .ref sv, .int (nI en), .int (nI at1), .int go, .int kd, .int vr, .int fi, .int lf, .int sg, .int rt, .int tg])), (sx, .inl (cX, 12, .inl tx)), (sv, .inl (cV, 8, .inl va))]) [0, 1, 2] rfl) (hD.sub (ws' := [(h0, .inr (4, [.ref sx, .ref sv, .int (nI en), .int (nI at1), .int go, .int kd, .int vr, .int fi, .int lf, .int sg, .int rt, .int tg])), (sx, .inl (cX, 12, .inl tx)), (sv, .inl (cV, 8, .inl va))]) [0, 1, 2] (by decide) rfl) (hK.sub (tys' := [(cX, .int), (cV, .int)]) [0, 1] rfl) rfl rfl rfl rfl hl.1 rfl (Nat.le_of_ble_eq_true rfl) d_Sm_fileDigit_18 ⟨by decide, by decide⟩) hP hD hK hS hA [0, 1, 2] [] [] rfl rfl (by decide) (by decide) rfl (fun r u H locs hw hP hD hK hS => ?_)
    have hP : va_P (dC, dI) cls [(h0, .inr (4, [.ref sx, .ref sv, .int (nI en), .int (nI at1), .int go, .int kd, .int vr, .int fi, .int lf, .int sg, .int rt, .int tg])), (sx, .inl (cX, 12, .inl tx)), (sv, .inl (cV, 8, .inl va))] H := hP
    have hD : va_D A [(h0, .inr (4, [.ref sx, .ref sv, .int (nI en), .int (nI at1), .int go, .int kd, .int vr, .int fi, .int lf, .int sg, .int rt, .int tg])), (sx, .inl (cX, 12, .inl tx)), (sv, .inl (cV, 8, .inl va))] := hD
    have hK : va_K (dC, dI) cls [(cX, .int), (cV, .int)] s := hK
    refine W.widen (k := 0) (n := 0) (by omega) (by omega) ?_
    subst hw
    refine lv_bipush (v := 48) hx hb d_Sm_fileDigit_21 (by decide) ?_
    refine lv_isub hx hb d_Sm_fileDigit_23 ?_
    refine lv_istore_n (i := 1) hx hb d_Sm_fileDigit_24 rfl hl (by decide) rfl (fun ls hl => ?_)
    have hl : lv_has ls 2 [(1, .int ((pk tx en at1) - 48)), (0, .ref h0)] := hl
    refine lv_aload_n hx hb d_Sm_fileDigit_25 rfl (lv_at hl 1 rfl) ?_
    refine lv_dup hx hb d_Sm_fileDigit_26 rfl ?_
    refine va_get (D := (dC, dI)) (ci := 4) (v := .int (nI at1)) (C := R_Sm) (T := F_Sm) (N := 12) hx hb hts in_Sm hown hK hP 0 rfl rfl 3 (by decide) (hts _ w_112) (fun _ h9 => h9) rfl d_Sm_fileDigit_27 ?_
    refine lv_iconst (v := 1) hx hb d_Sm_fileDigit_30 (by decide) ?_
    refine lv_iadd hx hb d_Sm_fileDigit_31 ?_
    refine tv (x2 := nI (at1 + 1)) (by exact (nI_succ at1).symm) ?_
    refine va_put (D := (dC, dI)) (ci := 4) (v := .int (nI (at1 + 1))) (ty := .int) (C := R_Sm) (T := F_Sm) (N := 12) hx hb hts in_Sm t_Sm t_Sm_ok n_Sm hown hK hP hD hS 0 rfl rfl 3 (by decide) (hts _ w_112) (fun _ h9 => h9) rfl (by decide +kernel) (rfl) (rfl) (Nat.le_of_ble_eq_true rfl) d_Sm_fileDigit_32 (fun H locs hP hD hS => ?_)
    have hP : va_P (dC, dI) cls [(h0, .inr (4, [.ref sx, .ref sv, .int (nI en), .int (nI (at1 + 1)), .int go, .int kd, .int vr, .int fi, .int lf, .int sg, .int rt, .int tg])), (sx, .inl (cX, 12, .inl tx)), (sv, .inl (cV, 8, .inl va))] H := hP
    have hD : va_D A [(h0, .inr (4, [.ref sx, .ref sv, .int (nI en), .int (nI (at1 + 1)), .int go, .int kd, .int vr, .int fi, .int lf, .int sg, .int rt, .int tg])), (sx, .inl (cX, 12, .inl tx)), (sv, .inl (cV, 8, .inl va))] := hD
    refine lv_iload_n hx hb d_Sm_fileDigit_35 rfl (lv_at hl 0 rfl) ?_
    refine W.widen (k := 0) (n := 0) (by decide) (by decide) ?_
    exact W.iret (v := (pk tx en at1) - 48) hx hb hr (fun t ht hW => ⟨⟨(pk tx en at1) - 48, (at1 + 1, go), rfl, ⟨by (simp only [fileDigitF, c7, if_true, if_false, not_true_eq_false, not_false_eq_true, ite_not] <;> try simp), by show at1 + 1 ≤ en; have := qk_fdg c7; omega⟩, cB.of (hP.sub [0, 1, 2] rfl) (hD.sub [0, 1, 2] (by decide) rfl) (hK.sub [0, 1] rfl) ht hW⟩, hS.F ht⟩) hS.2.2 d_Sm_fileDigit_36
  · skip
    refine lv_aload_n hx hb d_Sm_fileDigit_10 rfl (lv_at hl 0 rfl) ?_
    refine lv_iconst (v := 0) hx hb d_Sm_fileDigit_11 (by decide) ?_
    refine va_put (D := (dC, dI)) (ci := 4) (v := .int 0) (ty := .boolean) (C := R_Sm) (T := F_Sm) (N := 12) hx hb hts in_Sm t_Sm t_Sm_ok n_Sm hown hK hP hD hS 0 rfl rfl 4 (by decide) (hts _ w_113) (fun _ h9 => h9) rfl (by decide +kernel) (rfl) (rfl) (Nat.le_of_ble_eq_true rfl) d_Sm_fileDigit_12 (fun H locs hP hD hS => ?_)
    have hP : va_P (dC, dI) cls [(h0, .inr (4, [.ref sx, .ref sv, .int (nI en), .int (nI at1), .int 0, .int kd, .int vr, .int fi, .int lf, .int sg, .int rt, .int tg])), (sx, .inl (cX, 12, .inl tx)), (sv, .inl (cV, 8, .inl va))] H := hP
    have hD : va_D A [(h0, .inr (4, [.ref sx, .ref sv, .int (nI en), .int (nI at1), .int 0, .int kd, .int vr, .int fi, .int lf, .int sg, .int rt, .int tg])), (sx, .inl (cX, 12, .inl tx)), (sv, .inl (cV, 8, .inl va))] := hD
    refine lv_iconst (v := 0) hx hb d_Sm_fileDigit_15 (by decide) ?_
    refine W.widen (k := 0) (n := 0) (by decide) (by decide) ?_
    exact W.iret (v := 0) hx hb hr (fun t ht hW => ⟨⟨0, (at1, 0), rfl, ⟨by (simp only [fileDigitF, c7, if_true, if_false, not_true_eq_false, not_false_eq_true, ite_not] <;> try simp), by exact ha⟩, cB.of (hP.sub [0, 1, 2] rfl) (hD.sub [0, 1, 2] (by decide) rfl) (hK.sub [0, 1] rfl) ht hW⟩, hS.F ht⟩) hS.2.2 d_Sm_fileDigit_16
def signF (tx : Nat → Int32) (en a : Nat) (g : Int32) : Int32 × Nat × Int32 := if pk tx en a = 60 then (pk tx en a, a + 1, g) else if pk tx en a = 61 then (pk tx en a, a + 1, g) else if pk tx en a = 62 then (pk tx en a, a + 1, g) else (61, a, 0)
set_option maxHeartbeats 4000000 in
set_option maxRecDepth 100000 in
theorem g_Sm_sign (l : Launch) (dC : Nat → ClassId) (dI : Nat → Nat → Nat) (h0 sx sv : Nat) (cX cV : ClassId) (tx va : Nat → Int32) (en at1 : Nat) (go kd vr fi lf sg rt tg : Int32) (he : en ≤ 12) (ha : at1 ≤ en) (sz : Nat) : Met l y_Sm_sign (Cond.code y_Sm_sign b_Sm_sign 2 (some .int) :: gw) ({ frames := 1, cells := 0, slots := 0, locals := 20 }) (cP (dC, dI) [.ref h0] sz [(h0, .inr (4, [.ref sx, .ref sv, .int (nI en), .int (nI at1), .int go, .int kd, .int vr, .int fi, .int lf, .int sg, .int rt, .int tg])), (sx, .inl (cX, 12, .inl tx)), (sv, .inl (cV, 8, .inl va))] [(cX, .int), (cV, .int)] xT) (va_Qi (fun (r : Int32) (u : Nat × Int32) => (r, u) = signF tx en at1 go ∧ u.1 ≤ en) (fun (u : Nat × Int32) t => cB (dC, dI) (va_A [(h0, .inr (4, [.ref sx, .ref sv, .int (nI en), .int (nI at1), .int go, .int kd, .int vr, .int fi, .int lf, .int sg, .int rt, .int tg])), (sx, .inl (cX, 12, .inl tx)), (sv, .inl (cV, 8, .inl va))] sz) [(h0, .inr (4, [.ref sx, .ref sv, .int (nI en), .int (nI u.1), .int u.2, .int kd, .int vr, .int fi, .int lf, .int sg, .int rt, .int tg])), (sx, .inl (cX, 12, .inl tx)), (sv, .inl (cV, 8, .inl va))] [(cX, .int), (cV, .int)] t) (va_A [(h0, .inr (4, [.ref sx, .ref sv, .int (nI en), .int (nI at1), .int go, .int kd, .int vr, .int fi, .int lf, .int sg, .int rt, .int tg])), (sx, .inl (cX, 12, .inl tx)), (sv, .inl (cV, 8, .inl va))] sz)) 0 0 (va_A [(h0, .inr (4, [.ref sx, .ref sv, .int (nI en), .int (nI at1), .int go, .int kd, .int vr, .int fi, .int lf, .int sg, .int rt, .int tg])), (sx, .inl (cX, 12, .inl tx)), (sv, .inl (cV, 8, .inl va))] sz) := by
  refine Met.ofW (cc := b_Sm_sign) (maxL := 2) (ret := (some .int)) (by decide) rfl ?_
  intro p e s m args below meth c s₁ B hml hv
  obtain ⟨rfl, hsz, hP, hK, hD0, hkw, hX⟩ := hv
  have hx := B.exec
  have hb := B.bytes
  have hr := B.returns
  have hts := fun w hw => atoms_spec (ws := Cond.code y_Sm_sign b_Sm_sign 2 (some .int) :: gw) B.pre w (List.mem_cons_of_mem _ hw)
  have hown : s.vm.findClass "LineDisk$Statement" = some m.cls := findClass_of_methodNamed B.named
  have hlocks := B.notSynchronized
  have hin := (name_of_methodNamed B.named B.method).1
  subst hsz
  have hD := hD0.self (sz := s.heap.size)
  generalize hAe : va_A [(h0, .inr (4, [.ref sx, .ref sv, .int (nI en), .int (nI at1), .int go, .int kd, .int vr, .int fi, .int lf, .int sg, .int rt, .int tg])), (sx, .inl (cX, 12, .inl tx)), (sv, .inl (cV, 8, .inl va))] s.heap.size = A at hD ⊢
  have hA : ∀ q : Nat, s.heap.size ≤ q → A q := fun q h => by rw [← hAe]; exact Or.inr h
  have hS : va_S A s.heap s.heap [] := va_S.rf
  have hl := lv_entry ([.ref h0]) (n := 2) (Nat.le_of_ble_eq_true rfl)
  rw [lg_entry_eq]
  generalize (lg_sl ([.ref h0]) ++ List.replicate (2 - (lg_sl ([.ref h0])).length) Slot.unset).toArray = ls at hl ⊢
  have hl : lv_has ls 2 [(0, .ref h0)] := hl
  have F : CallFix p m c b_Sm_sign 2 s ([.ref h0]).toArray gw "LineDisk$Statement" := ⟨hx, hb, hml, hown, hts⟩
  refine lv_aload_n hx hb d_Sm_sign_0 rfl (lv_at hl 0 rfl) ?_
  refine go_i (wr := []) (tr := []) (rV (C := "LineDisk$Statement") (ci := 4) (q0 := 0) (b := h0) (n := 0) (As := []) (rest := []) F hkw (g_Sm_peek l dC dI h0 sx sv cX cV tx va en at1 go kd vr fi lf sg rt tg he (by omega) s.heap.size) xT_bl (fun _ _ _ => trivial) w_268 w_270 ws_6 w_5 w_271 rfl rfl (by decide +kernel) ⟨Nat.le_of_ble_eq_true rfl, Nat.le_of_ble_eq_true rfl⟩ (hP.sub (ws' := [(h0, .inr (4, [.ref sx, .ref sv, .int (nI en), .int (nI at1), .int go, .int kd, .int vr, .int fi, .int lf, .int sg, .int rt, .int tg])), (sx, .inl (cX, 12, .inl tx)), (sv, .inl (cV, 8, .inl va))]) [0, 1, 2] rfl) (hD.sub (ws' := [(h0, .inr (4, [.ref sx, .ref sv, .int (nI en), .int (nI at1), .int go, .int kd, .int vr, .int fi, .int lf, .int sg, .int rt, .int tg])), (sx, .inl (cX, 12, .inl tx)), (sv, .inl (cV, 8, .inl va))]) [0, 1, 2] (by decide) rfl) (hK.sub (tys' := [(cX, .int), (cV, .int)]) [0, 1] rfl) rfl rfl rfl rfl hl.1 rfl (Nat.le_of_ble_eq_true rfl) d_Sm_sign_1 ⟨by decide, by decide⟩) hP hD hK hS hA [0, 1, 2] [] [] rfl rfl (by decide) (by decide) rfl (fun r u H locs hw hP hD hK hS => ?_)
  have hP : va_P (dC, dI) cls [(h0, .inr (4, [.ref sx, .ref sv, .int (nI en), .int (nI at1), .int go, .int kd, .int vr, .int fi, .int lf, .int sg, .int rt, .int tg])), (sx, .inl (cX, 12, .inl tx)), (sv, .inl (cV, 8, .inl va))] H := hP
  have hD : va_D A [(h0, .inr (4, [.ref sx, .ref sv, .int (nI en), .int (nI at1), .int go, .int kd, .int vr, .int fi, .int lf, .int sg, .int rt, .int tg])), (sx, .inl (cX, 12, .inl tx)), (sv, .inl (cV, 8, .inl va))] := hD
  have hK : va_K (dC, dI) cls [(cX, .int), (cV, .int)] s := hK
  refine W.widen (k := 0) (n := 0) (by omega) (by omega) ?_
  subst hw
  refine lv_istore_n (i := 1) hx hb d_Sm_sign_4 rfl hl (by decide) rfl (fun ls hl => ?_)
  have hl : lv_has ls 2 [(1, .int (pk tx en at1)), (0, .ref h0)] := hl
  refine lv_iload_n hx hb d_Sm_sign_5 rfl (lv_at hl 0 rfl) ?_
  refine lv_bipush (v := 60) hx hb d_Sm_sign_6 (by decide) ?_
  refine lv_icmp_eq (tgt := 31) hx hb d_Sm_sign_8 (by decide) (fun c8 => ?_) (fun c8 => ?_)
  · skip
    refine lv_aload_n hx hb d_Sm_sign_31 rfl (lv_at hl 1 rfl) ?_
    refine lv_dup hx hb d_Sm_sign_32 rfl ?_
    refine va_get (D := (dC, dI)) (ci := 4) (v := .int (nI at1)) (C := R_Sm) (T := F_Sm) (N := 12) hx hb hts in_Sm hown hK hP 0 rfl rfl 3 (by decide) (hts _ w_112) (fun _ h9 => h9) rfl d_Sm_sign_33 ?_
    refine lv_iconst (v := 1) hx hb d_Sm_sign_36 (by decide) ?_
    refine lv_iadd hx hb d_Sm_sign_37 ?_
    refine tv (x2 := nI (at1 + 1)) (by exact (nI_succ at1).symm) ?_
    refine va_put (D := (dC, dI)) (ci := 4) (v := .int (nI (at1 + 1))) (ty := .int) (C := R_Sm) (T := F_Sm) (N := 12) hx hb hts in_Sm t_Sm t_Sm_ok n_Sm hown hK hP hD hS 0 rfl rfl 3 (by decide) (hts _ w_112) (fun _ h9 => h9) rfl (by decide +kernel) (rfl) (rfl) (Nat.le_of_ble_eq_true rfl) d_Sm_sign_38 (fun H locs hP hD hS => ?_)
    have hP : va_P (dC, dI) cls [(h0, .inr (4, [.ref sx, .ref sv, .int (nI en), .int (nI (at1 + 1)), .int go, .int kd, .int vr, .int fi, .int lf, .int sg, .int rt, .int tg])), (sx, .inl (cX, 12, .inl tx)), (sv, .inl (cV, 8, .inl va))] H := hP
    have hD : va_D A [(h0, .inr (4, [.ref sx, .ref sv, .int (nI en), .int (nI (at1 + 1)), .int go, .int kd, .int vr, .int fi, .int lf, .int sg, .int rt, .int tg])), (sx, .inl (cX, 12, .inl tx)), (sv, .inl (cV, 8, .inl va))] := hD
    refine lv_iload_n hx hb d_Sm_sign_41 rfl (lv_at hl 0 rfl) ?_
    refine W.widen (k := 0) (n := 0) (by decide) (by decide) ?_
    exact W.iret (v := pk tx en at1) hx hb hr (fun t ht hW => ⟨⟨pk tx en at1, (at1 + 1, go), rfl, ⟨by (simp only [signF, c8, if_true, if_false, not_true_eq_false, not_false_eq_true, ite_not] <;> try simp), by show at1 + 1 ≤ en; have := qk_lt c8 (by decide); omega⟩, cB.of (hP.sub [0, 1, 2] rfl) (hD.sub [0, 1, 2] (by decide) rfl) (hK.sub [0, 1] rfl) ht hW⟩, hS.F ht⟩) hS.2.2 d_Sm_sign_42
  · skip
    refine lv_iload_n hx hb d_Sm_sign_11 rfl (lv_at hl 0 rfl) ?_
    refine lv_bipush (v := 61) hx hb d_Sm_sign_12 (by decide) ?_
    refine lv_icmp_eq (tgt := 31) hx hb d_Sm_sign_14 (by decide) (fun c14 => ?_) (fun c14 => ?_)
    · skip
      refine lv_aload_n hx hb d_Sm_sign_31 rfl (lv_at hl 1 rfl) ?_
      refine lv_dup hx hb d_Sm_sign_32 rfl ?_
      refine va_get (D := (dC, dI)) (ci := 4) (v := .int (nI at1)) (C := R_Sm) (T := F_Sm) (N := 12) hx hb hts in_Sm hown hK hP 0 rfl rfl 3 (by decide) (hts _ w_112) (fun _ h9 => h9) rfl d_Sm_sign_33 ?_
      refine lv_iconst (v := 1) hx hb d_Sm_sign_36 (by decide) ?_
      refine lv_iadd hx hb d_Sm_sign_37 ?_
      refine tv (x2 := nI (at1 + 1)) (by exact (nI_succ at1).symm) ?_
      refine va_put (D := (dC, dI)) (ci := 4) (v := .int (nI (at1 + 1))) (ty := .int) (C := R_Sm) (T := F_Sm) (N := 12) hx hb hts in_Sm t_Sm t_Sm_ok n_Sm hown hK hP hD hS 0 rfl rfl 3 (by decide) (hts _ w_112) (fun _ h9 => h9) rfl (by decide +kernel) (rfl) (rfl) (Nat.le_of_ble_eq_true rfl) d_Sm_sign_38 (fun H locs hP hD hS => ?_)
      have hP : va_P (dC, dI) cls [(h0, .inr (4, [.ref sx, .ref sv, .int (nI en), .int (nI (at1 + 1)), .int go, .int kd, .int vr, .int fi, .int lf, .int sg, .int rt, .int tg])), (sx, .inl (cX, 12, .inl tx)), (sv, .inl (cV, 8, .inl va))] H := hP
      have hD : va_D A [(h0, .inr (4, [.ref sx, .ref sv, .int (nI en), .int (nI (at1 + 1)), .int go, .int kd, .int vr, .int fi, .int lf, .int sg, .int rt, .int tg])), (sx, .inl (cX, 12, .inl tx)), (sv, .inl (cV, 8, .inl va))] := hD
      refine lv_iload_n hx hb d_Sm_sign_41 rfl (lv_at hl 0 rfl) ?_
      refine W.widen (k := 0) (n := 0) (by decide) (by decide) ?_
      exact W.iret (v := pk tx en at1) hx hb hr (fun t ht hW => ⟨⟨pk tx en at1, (at1 + 1, go), rfl, ⟨by (simp only [signF, c8, c14, if_true, if_false, not_true_eq_false, not_false_eq_true, ite_not] <;> try simp), by show at1 + 1 ≤ en; have := qk_lt c14 (by decide); omega⟩, cB.of (hP.sub [0, 1, 2] rfl) (hD.sub [0, 1, 2] (by decide) rfl) (hK.sub [0, 1] rfl) ht hW⟩, hS.F ht⟩) hS.2.2 d_Sm_sign_42
    · skip
      refine lv_iload_n hx hb d_Sm_sign_17 rfl (lv_at hl 0 rfl) ?_
      refine lv_bipush (v := 62) hx hb d_Sm_sign_18 (by decide) ?_
      refine lv_icmp_eq (tgt := 31) hx hb d_Sm_sign_20 (by decide) (fun c20 => ?_) (fun c20 => ?_)
      · skip
        refine lv_aload_n hx hb d_Sm_sign_31 rfl (lv_at hl 1 rfl) ?_
        refine lv_dup hx hb d_Sm_sign_32 rfl ?_
        refine va_get (D := (dC, dI)) (ci := 4) (v := .int (nI at1)) (C := R_Sm) (T := F_Sm) (N := 12) hx hb hts in_Sm hown hK hP 0 rfl rfl 3 (by decide) (hts _ w_112) (fun _ h9 => h9) rfl d_Sm_sign_33 ?_
        refine lv_iconst (v := 1) hx hb d_Sm_sign_36 (by decide) ?_
        refine lv_iadd hx hb d_Sm_sign_37 ?_
        refine tv (x2 := nI (at1 + 1)) (by exact (nI_succ at1).symm) ?_
        refine va_put (D := (dC, dI)) (ci := 4) (v := .int (nI (at1 + 1))) (ty := .int) (C := R_Sm) (T := F_Sm) (N := 12) hx hb hts in_Sm t_Sm t_Sm_ok n_Sm hown hK hP hD hS 0 rfl rfl 3 (by decide) (hts _ w_112) (fun _ h9 => h9) rfl (by decide +kernel) (rfl) (rfl) (Nat.le_of_ble_eq_true rfl) d_Sm_sign_38 (fun H locs hP hD hS => ?_)
        have hP : va_P (dC, dI) cls [(h0, .inr (4, [.ref sx, .ref sv, .int (nI en), .int (nI (at1 + 1)), .int go, .int kd, .int vr, .int fi, .int lf, .int sg, .int rt, .int tg])), (sx, .inl (cX, 12, .inl tx)), (sv, .inl (cV, 8, .inl va))] H := hP
        have hD : va_D A [(h0, .inr (4, [.ref sx, .ref sv, .int (nI en), .int (nI (at1 + 1)), .int go, .int kd, .int vr, .int fi, .int lf, .int sg, .int rt, .int tg])), (sx, .inl (cX, 12, .inl tx)), (sv, .inl (cV, 8, .inl va))] := hD
        refine lv_iload_n hx hb d_Sm_sign_41 rfl (lv_at hl 0 rfl) ?_
        refine W.widen (k := 0) (n := 0) (by decide) (by decide) ?_
        exact W.iret (v := pk tx en at1) hx hb hr (fun t ht hW => ⟨⟨pk tx en at1, (at1 + 1, go), rfl, ⟨by (simp only [signF, c8, c14, c20, if_true, if_false, not_true_eq_false, not_false_eq_true, ite_not] <;> try simp), by show at1 + 1 ≤ en; have := qk_lt c20 (by decide); omega⟩, cB.of (hP.sub [0, 1, 2] rfl) (hD.sub [0, 1, 2] (by decide) rfl) (hK.sub [0, 1] rfl) ht hW⟩, hS.F ht⟩) hS.2.2 d_Sm_sign_42
      · skip
        refine lv_aload_n hx hb d_Sm_sign_23 rfl (lv_at hl 1 rfl) ?_
        refine lv_iconst (v := 0) hx hb d_Sm_sign_24 (by decide) ?_
        refine va_put (D := (dC, dI)) (ci := 4) (v := .int 0) (ty := .boolean) (C := R_Sm) (T := F_Sm) (N := 12) hx hb hts in_Sm t_Sm t_Sm_ok n_Sm hown hK hP hD hS 0 rfl rfl 4 (by decide) (hts _ w_113) (fun _ h9 => h9) rfl (by decide +kernel) (rfl) (rfl) (Nat.le_of_ble_eq_true rfl) d_Sm_sign_25 (fun H locs hP hD hS => ?_)
        have hP : va_P (dC, dI) cls [(h0, .inr (4, [.ref sx, .ref sv, .int (nI en), .int (nI at1), .int 0, .int kd, .int vr, .int fi, .int lf, .int sg, .int rt, .int tg])), (sx, .inl (cX, 12, .inl tx)), (sv, .inl (cV, 8, .inl va))] H := hP
        have hD : va_D A [(h0, .inr (4, [.ref sx, .ref sv, .int (nI en), .int (nI at1), .int 0, .int kd, .int vr, .int fi, .int lf, .int sg, .int rt, .int tg])), (sx, .inl (cX, 12, .inl tx)), (sv, .inl (cV, 8, .inl va))] := hD
        refine lv_bipush (v := 61) hx hb d_Sm_sign_28 (by decide) ?_
        refine W.widen (k := 0) (n := 0) (by decide) (by decide) ?_
        exact W.iret (v := 61) hx hb hr (fun t ht hW => ⟨⟨61, (at1, 0), rfl, ⟨by (simp only [signF, c8, c14, c20, if_true, if_false, not_true_eq_false, not_false_eq_true, ite_not] <;> try simp), by exact ha⟩, cB.of (hP.sub [0, 1, 2] rfl) (hD.sub [0, 1, 2] (by decide) rfl) (hK.sub [0, 1] rfl) ht hW⟩, hS.F ht⟩) hS.2.2 d_Sm_sign_30
def jmpF (kd lf sg rt : Int32) : Int32 := if kd = 73 then (if ¬ sg = 60 then (if ¬ sg = 62 then (if ¬ lf = rt then 0 else 1) else (if lf ≤ rt then 0 else 1)) else (if rt ≤ lf then 0 else 1)) else (if ¬ kd = 71 then 0 else 1)
set_option maxHeartbeats 4000000 in
set_option maxRecDepth 100000 in
theorem g_Sm_jumps (l : Launch) (dC : Nat → ClassId) (dI : Nat → Nat → Nat) (h0 sx sv : Nat) (cX cV : ClassId) (tx va : Nat → Int32) (en at1 : Nat) (go kd vr fi lf sg rt tg : Int32) (sz : Nat) : Met l y_Sm_jumps (Cond.code y_Sm_jumps b_Sm_jumps 1 (some .boolean) :: gw) ({ frames := 0, cells := 0, slots := 0, locals := 0 }) (cP (dC, dI) [.ref h0] sz [(h0, .inr (4, [.ref sx, .ref sv, .int (nI en), .int (nI at1), .int go, .int kd, .int vr, .int fi, .int lf, .int sg, .int rt, .int tg])), (sx, .inl (cX, 12, .inl tx)), (sv, .inl (cV, 8, .inl va))] [(cX, .int), (cV, .int)] xT) (va_Qi (fun (r : Int32) (u : Unit) => r = jmpF kd lf sg rt) (fun (u : Unit) t => cB (dC, dI) (va_A [(h0, .inr (4, [.ref sx, .ref sv, .int (nI en), .int (nI at1), .int go, .int kd, .int vr, .int fi, .int lf, .int sg, .int rt, .int tg])), (sx, .inl (cX, 12, .inl tx)), (sv, .inl (cV, 8, .inl va))] sz) [(h0, .inr (4, [.ref sx, .ref sv, .int (nI en), .int (nI at1), .int go, .int kd, .int vr, .int fi, .int lf, .int sg, .int rt, .int tg])), (sx, .inl (cX, 12, .inl tx)), (sv, .inl (cV, 8, .inl va))] [(cX, .int), (cV, .int)] t) (va_A [(h0, .inr (4, [.ref sx, .ref sv, .int (nI en), .int (nI at1), .int go, .int kd, .int vr, .int fi, .int lf, .int sg, .int rt, .int tg])), (sx, .inl (cX, 12, .inl tx)), (sv, .inl (cV, 8, .inl va))] sz)) 0 0 (va_A [(h0, .inr (4, [.ref sx, .ref sv, .int (nI en), .int (nI at1), .int go, .int kd, .int vr, .int fi, .int lf, .int sg, .int rt, .int tg])), (sx, .inl (cX, 12, .inl tx)), (sv, .inl (cV, 8, .inl va))] sz) := by
  refine Met.ofW (cc := b_Sm_jumps) (maxL := 1) (ret := (some .boolean)) (by decide) rfl ?_
  intro p e s m args below meth c s₁ B hml hv
  obtain ⟨rfl, hsz, hP, hK, hD0, hkw, hX⟩ := hv
  have hx := B.exec
  have hb := B.bytes
  have hr := B.returns
  have hts := fun w hw => atoms_spec (ws := Cond.code y_Sm_jumps b_Sm_jumps 1 (some .boolean) :: gw) B.pre w (List.mem_cons_of_mem _ hw)
  have hown : s.vm.findClass "LineDisk$Statement" = some m.cls := findClass_of_methodNamed B.named
  have hlocks := B.notSynchronized
  have hin := (name_of_methodNamed B.named B.method).1
  subst hsz
  have hD := hD0.self (sz := s.heap.size)
  generalize hAe : va_A [(h0, .inr (4, [.ref sx, .ref sv, .int (nI en), .int (nI at1), .int go, .int kd, .int vr, .int fi, .int lf, .int sg, .int rt, .int tg])), (sx, .inl (cX, 12, .inl tx)), (sv, .inl (cV, 8, .inl va))] s.heap.size = A at hD ⊢
  have hA : ∀ q : Nat, s.heap.size ≤ q → A q := fun q h => by rw [← hAe]; exact Or.inr h
  have hS : va_S A s.heap s.heap [] := va_S.rf
  have hl := lv_entry ([.ref h0]) (n := 1) (Nat.le_of_ble_eq_true rfl)
  rw [lg_entry_eq]
  generalize (lg_sl ([.ref h0]) ++ List.replicate (1 - (lg_sl ([.ref h0])).length) Slot.unset).toArray = ls at hl ⊢
  have hl : lv_has ls 1 [(0, .ref h0)] := hl
  have F : CallFix p m c b_Sm_jumps 1 s ([.ref h0]).toArray gw "LineDisk$Statement" := ⟨hx, hb, hml, hown, hts⟩
  refine lv_aload_n hx hb d_Sm_jumps_0 rfl (lv_at hl 0 rfl) ?_
  refine va_get (D := (dC, dI)) (ci := 4) (v := .int kd) (C := R_Sm) (T := F_Sm) (N := 12) hx hb hts in_Sm hown hK hP 0 rfl rfl 5 (by decide) (hts _ w_114) (fun _ h9 => h9) rfl d_Sm_jumps_1 ?_
  refine lv_bipush (v := 73) hx hb d_Sm_jumps_4 (by decide) ?_
  refine lv_icmp_eq (tgt := 24) hx hb d_Sm_jumps_6 (by decide) (fun c6 => ?_) (fun c6 => ?_)
  · skip
    refine lv_aload_n hx hb d_Sm_jumps_24 rfl (lv_at hl 0 rfl) ?_
    refine va_get (D := (dC, dI)) (ci := 4) (v := .int sg) (C := R_Sm) (T := F_Sm) (N := 12) hx hb hts in_Sm hown hK hP 0 rfl rfl 9 (by decide) (hts _ w_122) (fun _ h9 => h9) rfl d_Sm_jumps_25 ?_
    refine lv_bipush (v := 60) hx hb d_Sm_jumps_28 (by decide) ?_
    refine lv_icmp_ne (tgt := 52) hx hb d_Sm_jumps_30 (by decide) (fun c30 => ?_) (fun c30 => ?_)
    · skip
      refine lv_aload_n hx hb d_Sm_jumps_52 rfl (lv_at hl 0 rfl) ?_
      refine va_get (D := (dC, dI)) (ci := 4) (v := .int sg) (C := R_Sm) (T := F_Sm) (N := 12) hx hb hts in_Sm hown hK hP 0 rfl rfl 9 (by decide) (hts _ w_122) (fun _ h9 => h9) rfl d_Sm_jumps_53 ?_
      refine lv_bipush (v := 62) hx hb d_Sm_jumps_56 (by decide) ?_
      refine lv_icmp_ne (tgt := 80) hx hb d_Sm_jumps_58 (by decide) (fun c58 => ?_) (fun c58 => ?_)
      · skip
        refine lv_aload_n hx hb d_Sm_jumps_80 rfl (lv_at hl 0 rfl) ?_
        refine va_get (D := (dC, dI)) (ci := 4) (v := .int lf) (C := R_Sm) (T := F_Sm) (N := 12) hx hb hts in_Sm hown hK hP 0 rfl rfl 8 (by decide) (hts _ w_120) (fun _ h9 => h9) rfl d_Sm_jumps_81 ?_
        refine lv_aload_n hx hb d_Sm_jumps_84 rfl (lv_at hl 0 rfl) ?_
        refine va_get (D := (dC, dI)) (ci := 4) (v := .int rt) (C := R_Sm) (T := F_Sm) (N := 12) hx hb hts in_Sm hown hK hP 0 rfl rfl 10 (by decide) (hts _ w_123) (fun _ h9 => h9) rfl d_Sm_jumps_85 ?_
        refine lv_icmp_ne (tgt := 95) hx hb d_Sm_jumps_88 (by decide) (fun c88 => ?_) (fun c88 => ?_)
        · skip
          refine lv_iconst (v := 0) hx hb d_Sm_jumps_95 (by decide) ?_
          refine W.widen (k := 0) (n := 0) (by decide) (by decide) ?_
          exact W.zret (v := 0) hx hb hr (rfl) (fun t ht hW => ⟨⟨0, (), rfl, by (simp only [jmpF, c6, c30, c58, c88, if_true, if_false, not_true_eq_false, not_false_eq_true, ite_not] <;> try simp), cB.of (hP.sub [0, 1, 2] rfl) (hD.sub [0, 1, 2] (by decide) rfl) (hK.sub [0, 1] rfl) ht hW⟩, hS.F ht⟩) hS.2.2 d_Sm_jumps_96
        · skip
          refine lv_iconst (v := 1) hx hb d_Sm_jumps_91 (by decide) ?_
          refine lv_goto (tgt := 96) hx hb d_Sm_jumps_92 (by decide) ?_
          refine W.widen (k := 0) (n := 0) (by decide) (by decide) ?_
          exact W.zret (v := 1) hx hb hr (rfl) (fun t ht hW => ⟨⟨1, (), rfl, by (simp only [jmpF, c6, c30, c58, c88, if_true, if_false, not_true_eq_false, not_false_eq_true, ite_not] <;> try simp), cB.of (hP.sub [0, 1, 2] rfl) (hD.sub [0, 1, 2] (by decide) rfl) (hK.sub [0, 1] rfl) ht hW⟩, hS.F ht⟩) hS.2.2 d_Sm_jumps_96
      · skip
        refine lv_aload_n hx hb d_Sm_jumps_61 rfl (lv_at hl 0 rfl) ?_
        refine va_get (D := (dC, dI)) (ci := 4) (v := .int lf) (C := R_Sm) (T := F_Sm) (N := 12) hx hb hts in_Sm hown hK hP 0 rfl rfl 8 (by decide) (hts _ w_120) (fun _ h9 => h9) rfl d_Sm_jumps_62 ?_
        refine lv_aload_n hx hb d_Sm_jumps_65 rfl (lv_at hl 0 rfl) ?_
        refine va_get (D := (dC, dI)) (ci := 4) (v := .int rt) (C := R_Sm) (T := F_Sm) (N := 12) hx hb hts in_Sm hown hK hP 0 rfl rfl 10 (by decide) (hts _ w_123) (fun _ h9 => h9) rfl d_Sm_jumps_66 ?_
        refine lv_icmp_le (tgt := 76) hx hb d_Sm_jumps_69 (by decide) (fun c69 => ?_) (fun c69 => ?_)
        · skip
          refine lv_iconst (v := 0) hx hb d_Sm_jumps_76 (by decide) ?_
          refine lv_goto (tgt := 96) hx hb d_Sm_jumps_77 (by decide) ?_
          refine W.widen (k := 0) (n := 0) (by decide) (by decide) ?_
          exact W.zret (v := 0) hx hb hr (rfl) (fun t ht hW => ⟨⟨0, (), rfl, by (simp only [jmpF, c6, c30, c58, c69, if_true, if_false, not_true_eq_false, not_false_eq_true, ite_not] <;> try simp), cB.of (hP.sub [0, 1, 2] rfl) (hD.sub [0, 1, 2] (by decide) rfl) (hK.sub [0, 1] rfl) ht hW⟩, hS.F ht⟩) hS.2.2 d_Sm_jumps_96
        · skip
          refine lv_iconst (v := 1) hx hb d_Sm_jumps_72 (by decide) ?_
          refine lv_goto (tgt := 96) hx hb d_Sm_jumps_73 (by decide) ?_
          refine W.widen (k := 0) (n := 0) (by decide) (by decide) ?_
          exact W.zret (v := 1) hx hb hr (rfl) (fun t ht hW => ⟨⟨1, (), rfl, by (simp only [jmpF, c6, c30, c58, c69, if_true, if_false, not_true_eq_false, not_false_eq_true, ite_not] <;> try simp), cB.of (hP.sub [0, 1, 2] rfl) (hD.sub [0, 1, 2] (by decide) rfl) (hK.sub [0, 1] rfl) ht hW⟩, hS.F ht⟩) hS.2.2 d_Sm_jumps_96
    · skip
      refine lv_aload_n hx hb d_Sm_jumps_33 rfl (lv_at hl 0 rfl) ?_
      refine va_get (D := (dC, dI)) (ci := 4) (v := .int lf) (C := R_Sm) (T := F_Sm) (N := 12) hx hb hts in_Sm hown hK hP 0 rfl rfl 8 (by decide) (hts _ w_120) (fun _ h9 => h9) rfl d_Sm_jumps_34 ?_
      refine lv_aload_n hx hb d_Sm_jumps_37 rfl (lv_at hl 0 rfl) ?_
      refine va_get (D := (dC, dI)) (ci := 4) (v := .int rt) (C := R_Sm) (T := F_Sm) (N := 12) hx hb hts in_Sm hown hK hP 0 rfl rfl 10 (by decide) (hts _ w_123) (fun _ h9 => h9) rfl d_Sm_jumps_38 ?_
      refine lv_icmp_ge (tgt := 48) hx hb d_Sm_jumps_41 (by decide) (fun c41 => ?_) (fun c41 => ?_)
      · skip
        refine lv_iconst (v := 0) hx hb d_Sm_jumps_48 (by decide) ?_
        refine lv_goto (tgt := 96) hx hb d_Sm_jumps_49 (by decide) ?_
        refine W.widen (k := 0) (n := 0) (by decide) (by decide) ?_
        exact W.zret (v := 0) hx hb hr (rfl) (fun t ht hW => ⟨⟨0, (), rfl, by (simp only [jmpF, c6, c30, c41, if_true, if_false, not_true_eq_false, not_false_eq_true, ite_not] <;> try simp), cB.of (hP.sub [0, 1, 2] rfl) (hD.sub [0, 1, 2] (by decide) rfl) (hK.sub [0, 1] rfl) ht hW⟩, hS.F ht⟩) hS.2.2 d_Sm_jumps_96
      · skip
        refine lv_iconst (v := 1) hx hb d_Sm_jumps_44 (by decide) ?_
        refine lv_goto (tgt := 96) hx hb d_Sm_jumps_45 (by decide) ?_
        refine W.widen (k := 0) (n := 0) (by decide) (by decide) ?_
        exact W.zret (v := 1) hx hb hr (rfl) (fun t ht hW => ⟨⟨1, (), rfl, by (simp only [jmpF, c6, c30, c41, if_true, if_false, not_true_eq_false, not_false_eq_true, ite_not] <;> try simp), cB.of (hP.sub [0, 1, 2] rfl) (hD.sub [0, 1, 2] (by decide) rfl) (hK.sub [0, 1] rfl) ht hW⟩, hS.F ht⟩) hS.2.2 d_Sm_jumps_96
  · skip
    refine lv_aload_n hx hb d_Sm_jumps_9 rfl (lv_at hl 0 rfl) ?_
    refine va_get (D := (dC, dI)) (ci := 4) (v := .int kd) (C := R_Sm) (T := F_Sm) (N := 12) hx hb hts in_Sm hown hK hP 0 rfl rfl 5 (by decide) (hts _ w_114) (fun _ h9 => h9) rfl d_Sm_jumps_10 ?_
    refine lv_bipush (v := 71) hx hb d_Sm_jumps_13 (by decide) ?_
    refine lv_icmp_ne (tgt := 22) hx hb d_Sm_jumps_15 (by decide) (fun c15 => ?_) (fun c15 => ?_)
    · skip
      refine lv_iconst (v := 0) hx hb d_Sm_jumps_22 (by decide) ?_
      refine W.widen (k := 0) (n := 0) (by decide) (by decide) ?_
      exact W.zret (v := 0) hx hb hr (rfl) (fun t ht hW => ⟨⟨0, (), rfl, by (simp only [jmpF, c6, c15, if_true, if_false, not_true_eq_false, not_false_eq_true, ite_not] <;> try simp), cB.of (hP.sub [0, 1, 2] rfl) (hD.sub [0, 1, 2] (by decide) rfl) (hK.sub [0, 1] rfl) ht hW⟩, hS.F ht⟩) hS.2.2 d_Sm_jumps_23
    · skip
      refine lv_iconst (v := 1) hx hb d_Sm_jumps_18 (by decide) ?_
      refine lv_goto (tgt := 23) hx hb d_Sm_jumps_19 (by decide) ?_
      refine W.widen (k := 0) (n := 0) (by decide) (by decide) ?_
      exact W.zret (v := 1) hx hb hr (rfl) (fun t ht hW => ⟨⟨1, (), rfl, by (simp only [jmpF, c6, c15, if_true, if_false, not_true_eq_false, not_false_eq_true, ite_not] <;> try simp), cB.of (hP.sub [0, 1, 2] rfl) (hD.sub [0, 1, 2] (by decide) rfl) (hK.sub [0, 1] rfl) ht hW⟩, hS.F ht⟩) hS.2.2 d_Sm_jumps_23
