/-! which blocks are free -/
def busy (g : Nat → Int32) (n pl en : Int32) (k : Nat) : Prop := ¬ nI k = n ∧ cellv g (16 + 2 * nI k + 1) * 16 / 16 < en ∧ pl < cellv g (16 + 2 * nI k + 1) * 16 / 16 + blkv (cellv g (16 + 2 * nI k))
theorem nI_ne {k j : Nat} (hk : k < 2 ^ 31) (hj : j < 2 ^ 31) (h : ¬ k = j) : ¬ nI k = nI j := fun e => h ((nI_eq hk hj).mp e)
set_option maxHeartbeats 4000000 in
set_option maxRecDepth 100000 in
theorem g_Ld_blocksFor (l : Launch) (dC : Nat → ClassId) (dI : Nat → Nat → Nat) (x : Int32) (sz : Nat) : Met l y_Ld_blocksFor (Cond.code y_Ld_blocksFor b_Ld_blocksFor 1 (some .int) :: gw) ({ frames := 0, cells := 0, slots := 0, locals := 0 }) (cP (dC, dI) [.int x] sz [] [] xT) (va_Qi (fun (r : Int32) (u : Unit) => r = blkv x) (fun (u : Unit) t => cB (dC, dI) (va_A [] sz) [] [] t) (va_A [] sz)) 0 0 (va_A [] sz) := by
  refine Met.ofW (cc := b_Ld_blocksFor) (maxL := 1) (ret := (some .int)) (by decide) rfl ?_
  intro p e s m args below meth c s₁ B hml hv
  obtain ⟨rfl, hsz, hP, hK, hD0, hkw, hX⟩ := hv
  have hx := B.exec
  have hb := B.bytes
  have hr := B.returns
  have hts := fun w hw => atoms_spec (ws := Cond.code y_Ld_blocksFor b_Ld_blocksFor 1 (some .int) :: gw) B.pre w (List.mem_cons_of_mem _ hw)
  have hown : s.vm.findClass "LineDisk" = some m.cls := findClass_of_methodNamed B.named
  have hlocks := B.notSynchronized
  have hin := (name_of_methodNamed B.named B.method).1
  subst hsz
  have hD := hD0.self (sz := s.heap.size)
  generalize hAe : va_A [] s.heap.size = A at hD ⊢
  have hA : ∀ q : Nat, s.heap.size ≤ q → A q := fun q h => by rw [← hAe]; exact Or.inr h
  have hS : va_S A s.heap s.heap [] := va_S.rf
  have hl := lv_entry ([.int x]) (n := 1) (Nat.le_of_ble_eq_true rfl)
  rw [lg_entry_eq]
  generalize (lg_sl ([.int x]) ++ List.replicate (1 - (lg_sl ([.int x])).length) Slot.unset).toArray = ls at hl ⊢
  have hl : lv_has ls 1 [(0, .int x)] := hl
  have F : CallFix p m c b_Ld_blocksFor 1 s ([.int x]).toArray gw "LineDisk" := ⟨hx, hb, hml, hown, hts⟩
  refine lv_iload_n hx hb d_Ld_blocksFor_0 rfl (lv_at hl 0 rfl) ?_
  refine lv_bipush (v := 16) hx hb d_Ld_blocksFor_1 (by decide) ?_
  refine lv_iadd hx hb d_Ld_blocksFor_3 ?_
  refine lv_iconst (v := 1) hx hb d_Ld_blocksFor_4 (by decide) ?_
  refine lv_isub hx hb d_Ld_blocksFor_5 ?_
  refine lv_bipush (v := 16) hx hb d_Ld_blocksFor_6 (by decide) ?_
  refine lv_idiv hx hb d_Ld_blocksFor_8 (by decide) ?_
  refine W.widen (k := 0) (n := 0) (by decide) (by decide) ?_
  exact W.iret (v := ((x + 16) - 1) / 16) hx hb hr (fun t ht hW => ⟨⟨((x + 16) - 1) / 16, (), rfl, rfl, cB.of (hP.sub [] rfl) (hD.sub [] (by decide) rfl) (hK.sub [] rfl) ht hW⟩, hS.F ht⟩) hS.2.2 d_Ld_blocksFor_9
set_option maxHeartbeats 4000000 in
set_option maxRecDepth 100000 in
theorem lp_St_isFree {p : Program} {l : Launch} {e : Env} {R : Room} {s : State} {m : MethodId} {args : Array Value} {below : List Frame} {meth : Method} {c : Code} {cells slots : Nat} {Q : State → Prop} {A : Nat → Prop} {dC : Nat → ClassId} {dI : Nat → Nat → Nat} (hx : p.tables.exec = Jvm.exec) (hb : c.code = b_St_isFreeFor) (hml : c.maxLocals = 7) (hts : ∀ w ∈ gw, w.before args s = true) (hown : s.vm.findClass "LineDisk$Store" = some m.cls) (hkw : kw s) (hA : ∀ q : Nat, s.heap.size ≤ q → A q) (h0 c0 : Nat) (cA : ClassId) (ar de wr : Int32) (g : Nat → Int32) (n pl en : Int32) (hK0 : va_K (dC, dI) cls [(cA, .int)] s) (hRf : 2 ≤ R.frames) (hRl : 42 ≤ R.locals) (hRc : cells ≤ R.cells) (hRs : slots ≤ R.slots)  (k_61 : ∀ (k : Nat), k ≤ 8 → ∀ (ls : Array Slot) (H : Heap) (locs : List Loc), lv_has ls 7 [(0, .ref h0)] → va_P (dC, dI) cls [(h0, .inr (1, [.ref c0, .int ar, .int de, .int wr])), (c0, .inl (cA, 512, .inl g))] H → va_D A [(h0, .inr (1, [.ref c0, .int ar, .int de, .int wr])), (c0, .inl (cA, 512, .inl g))] → va_S A s.heap H locs → (∀ i, i < 8 → ¬ busy g n pl en i) → W p l e R s m args below meth c H locs cells slots Q (F0 m 61 ls [])) (k_53 : ∀ (k : Nat), k ≤ 8 → ∀ (ls : Array Slot) (H : Heap) (locs : List Loc), lv_has ls 7 [(0, .ref h0)] → va_P (dC, dI) cls [(h0, .inr (1, [.ref c0, .int ar, .int de, .int wr])), (c0, .inl (cA, 512, .inl g))] H → va_D A [(h0, .inr (1, [.ref c0, .int ar, .int de, .int wr])), (c0, .inl (cA, 512, .inl g))] → va_S A s.heap H locs → (k < 8 ∧ busy g n pl en k) → W p l e R s m args below meth c H locs cells slots Q (F0 m 53 ls [])) : ∀ (j k : Nat), k + j = 8 → ∀ (ls : Array Slot) (H : Heap) (locs : List Loc), lv_has ls 7 [(4, .int (nI k)), (0, .ref h0), (1, .int n), (2, .int pl), (3, .int en)] → va_P (dC, dI) cls [(h0, .inr (1, [.ref c0, .int ar, .int de, .int wr])), (c0, .inl (cA, 512, .inl g))] H → va_D A [(h0, .inr (1, [.ref c0, .int ar, .int de, .int wr])), (c0, .inl (cA, 512, .inl g))] → va_S A s.heap H locs → (∀ i, i < k → ¬ busy g n pl en i) → W p l e R s m args below meth c H locs cells slots Q (F0 m 3 ls []) := by
  have F : CallFix p m c b_St_isFreeFor 7 s args gw "LineDisk$Store" := ⟨hx, hb, hml, hown, hts⟩
  intro j
  induction j with
  | zero =>
    intro k hk ls H locs hl hP hD hS hf
    have hK := hK0
    have hkN : k = 8 := by omega
    refine lv_iload hx hb d_St_isFreeFor_3 (lv_at hl 0 rfl) ?_
    refine lv_bipush (v := 8) hx hb d_St_isFreeFor_5 (by decide) ?_
    refine lv_icmp_ge (tgt := 61) hx hb d_St_isFreeFor_7 (by decide) (fun _ => ?_) (fun h => absurd (by rw [hkN]; exact nI_le (a := 8) (b := 8) (Nat.le_refl _) (by decide)) h)
    exact k_61 k (by omega) ls _ _ (lv_sub hl [1] rfl) (hP.sub [0, 1] rfl) (hD.sub [0, 1] (by decide) rfl) hS (by rw [hkN] at hf; exact hf)
  | succ j ih =>
    intro k hk ls H locs hl hP hD hS hf
    have hK := hK0
    have hkN : k < 8 := by omega
    refine lv_iload hx hb d_St_isFreeFor_3 (lv_at hl 0 rfl) ?_
    refine lv_bipush (v := 8) hx hb d_St_isFreeFor_5 (by decide) ?_
    refine lv_icmp_ge (tgt := 61) hx hb d_St_isFreeFor_7 (by decide) (fun h => absurd h (nI_ge (b := 8) hkN (by decide))) (fun _ => ?_)
    refine lv_aload_n hx hb d_St_isFreeFor_10 rfl (lv_at hl 1 rfl) ?_
    refine lv_iload hx hb d_St_isFreeFor_11 (lv_at hl 0 rfl) ?_
    refine go_i (wr := []) (tr := []) (rV (C := "LineDisk$Store") (ci := 1) (q0 := 0) (b := h0) (n := 1) (As := [.int (nI k)]) (rest := []) F hkw (g_St_fileStart l dC dI h0 c0 cA ar de wr g (nI k) H.size) xT_bl (fun _ _ _ => trivial) w_361 w_362 w_363 w_2 w_364 rfl rfl (by decide +kernel) ⟨Nat.le_trans (by decide) hRf, Nat.le_trans (by decide) hRl⟩ (hP.sub (ws' := [(h0, .inr (1, [.ref c0, .int ar, .int de, .int wr])), (c0, .inl (cA, 512, .inl g))]) [0, 1] rfl) (hD.sub (ws' := [(h0, .inr (1, [.ref c0, .int ar, .int de, .int wr])), (c0, .inl (cA, 512, .inl g))]) [0, 1] (by decide) rfl) (hK.sub (tys' := [(cA, .int)]) [0] rfl) rfl rfl rfl rfl hl.1 rfl (Nat.le_of_ble_eq_true rfl) d_St_isFreeFor_13 ⟨hRc, hRs⟩) hP hD hK hS hA [0, 1] [] [] rfl rfl (by decide) (by decide) rfl (fun r u H locs hw hP hD hK hS => ?_)
    have hP : va_P (dC, dI) cls [(h0, .inr (1, [.ref c0, .int ar, .int de, .int wr])), (c0, .inl (cA, 512, .inl g))] H := hP
    have hD : va_D A [(h0, .inr (1, [.ref c0, .int ar, .int de, .int wr])), (c0, .inl (cA, 512, .inl g))] := hD
    have hK : va_K (dC, dI) cls [(cA, .int)] s := hK
    refine W.widen (k := cells) (n := slots) (Nat.le_refl _) (Nat.le_refl _) ?_
    subst hw
    refine lv_bipush (v := 16) hx hb d_St_isFreeFor_16 (by decide) ?_
    refine lv_idiv hx hb d_St_isFreeFor_18 (by decide) ?_
    refine lv_istore hx hb d_St_isFreeFor_19 hl (by decide) rfl (fun ls hl => ?_)
    have hl : lv_has ls 7 [(5, .int ((cellv g (16 + 2 * nI k + 1) * 16) / 16)), (4, .int (nI k)), (0, .ref h0), (1, .int n), (2, .int pl), (3, .int en)] := hl
    refine lv_iload hx hb d_St_isFreeFor_21 (lv_at hl 0 rfl) ?_
    refine lv_aload_n hx hb d_St_isFreeFor_23 rfl (lv_at hl 2 rfl) ?_
    refine lv_iload hx hb d_St_isFreeFor_24 (lv_at hl 1 rfl) ?_
    refine go_i (wr := []) (tr := []) (rV (C := "LineDisk$Store") (ci := 1) (q0 := 0) (b := h0) (n := 1) (As := [.int (nI k)]) (rest := [.int ((cellv g (16 + 2 * nI k + 1) * 16) / 16)]) F hkw (g_St_fileCells l dC dI h0 c0 cA ar de wr g (nI k) H.size) xT_bl (fun _ _ _ => trivial) w_365 w_325 w_326 w_2 w_327 rfl rfl (by decide +kernel) ⟨Nat.le_trans (by decide) hRf, Nat.le_trans (by decide) hRl⟩ (hP.sub (ws' := [(h0, .inr (1, [.ref c0, .int ar, .int de, .int wr])), (c0, .inl (cA, 512, .inl g))]) [0, 1] rfl) (hD.sub (ws' := [(h0, .inr (1, [.ref c0, .int ar, .int de, .int wr])), (c0, .inl (cA, 512, .inl g))]) [0, 1] (by decide) rfl) (hK.sub (tys' := [(cA, .int)]) [0] rfl) rfl rfl rfl rfl hl.1 rfl (Nat.le_of_ble_eq_true rfl) d_St_isFreeFor_26 ⟨hRc, hRs⟩) hP hD hK hS hA [0, 1] [] [] rfl rfl (by decide) (by decide) rfl (fun r u H locs hw hP hD hK hS => ?_)
    have hP : va_P (dC, dI) cls [(h0, .inr (1, [.ref c0, .int ar, .int de, .int wr])), (c0, .inl (cA, 512, .inl g))] H := hP
    have hD : va_D A [(h0, .inr (1, [.ref c0, .int ar, .int de, .int wr])), (c0, .inl (cA, 512, .inl g))] := hD
    have hK : va_K (dC, dI) cls [(cA, .int)] s := hK
    refine W.widen (k := cells) (n := slots) (Nat.le_refl _) (Nat.le_refl _) ?_
    subst hw
    refine go_i (wr := [(h0, .inr (1, [.ref c0, .int ar, .int de, .int wr])), (c0, .inl (cA, 512, .inl g))]) (tr := [(cA, .int)]) (rSN (host := "LineDisk") (n := 1) (As := [.int (cellv g (16 + 2 * nI k))]) (rest := [.int ((cellv g (16 + 2 * nI k + 1) * 16) / 16)]) F hkw (g_Ld_blocksFor l dC dI (cellv g (16 + 2 * nI k)) H.size) xT_bl (fun _ _ _ => trivial) (hkw.at v_366 rfl) w_351 w_1 w_352 rfl rfl (by decide +kernel) ⟨Nat.le_trans (by decide) hRf, Nat.le_trans (by decide) hRl⟩ (hP.sub (ws' := []) [] rfl) (hD.sub (ws' := []) [] (by decide) rfl) (hK.sub (tys' := []) [] rfl) rfl hl.1 rfl (Nat.le_of_ble_eq_true rfl) d_St_isFreeFor_29 ⟨hRc, hRs⟩) hP hD hK hS hA [] [0, 1] [0] rfl rfl (by decide) (by decide) rfl (fun r u H locs hw hP hD hK hS => ?_)
    have hP : va_P (dC, dI) cls [(h0, .inr (1, [.ref c0, .int ar, .int de, .int wr])), (c0, .inl (cA, 512, .inl g))] H := hP
    have hD : va_D A [(h0, .inr (1, [.ref c0, .int ar, .int de, .int wr])), (c0, .inl (cA, 512, .inl g))] := hD
    have hK : va_K (dC, dI) cls [(cA, .int)] s := hK
    refine W.widen (k := cells) (n := slots) (Nat.le_refl _) (Nat.le_refl _) ?_
    subst hw
    refine lv_iadd hx hb d_St_isFreeFor_32 ?_
    refine lv_istore hx hb d_St_isFreeFor_33 hl (by decide) rfl (fun ls hl => ?_)
    have hl : lv_has ls 7 [(6, .int (((cellv g (16 + 2 * nI k + 1) * 16) / 16) + (blkv (cellv g (16 + 2 * nI k))))), (5, .int ((cellv g (16 + 2 * nI k + 1) * 16) / 16)), (4, .int (nI k)), (0, .ref h0), (1, .int n), (2, .int pl), (3, .int en)] := hl
    refine lv_iload hx hb d_St_isFreeFor_35 (lv_at hl 2 rfl) ?_
    refine lv_iload_n hx hb d_St_isFreeFor_37 rfl (lv_at hl 4 rfl) ?_
    refine lv_icmp_eq (tgt := 55) hx hb d_St_isFreeFor_38 (by decide) (fun c38 => ?_) (fun c38 => ?_)
    · skip
      refine lv_iinc (k := 2) (v := nI (k + 1)) hx hb d_St_isFreeFor_55 hl rfl (by rw [lit1]; exact (nI_succ k).symm) (by decide) rfl (fun ls hl => ?_)
      have hl : lv_has ls 7 [(4, .int (nI (k + 1))), (6, .int (((cellv g (16 + 2 * nI k + 1) * 16) / 16) + (blkv (cellv g (16 + 2 * nI k))))), (5, .int ((cellv g (16 + 2 * nI k + 1) * 16) / 16)), (0, .ref h0), (1, .int n), (2, .int pl), (3, .int en)] := hl
      refine lv_goto (tgt := 3) hx hb d_St_isFreeFor_58 (by decide) ?_
      exact ih (k + 1) (by omega) ls _ _ (lv_sub hl [0, 3, 4, 5, 6] rfl) (hP.sub [0, 1] rfl) (hD.sub [0, 1] (by decide) rfl) hS (fun i hi => by
        rcases Nat.lt_succ_iff_lt_or_eq.mp hi with h | h
        · exact hf i h
        · subst h; exact (fun h => h.1 c38 : ¬ busy g n pl en i))
    · skip
      refine lv_iload hx hb d_St_isFreeFor_41 (lv_at hl 1 rfl) ?_
      refine lv_iload_n hx hb d_St_isFreeFor_43 rfl (lv_at hl 6 rfl) ?_
      refine lv_icmp_ge (tgt := 55) hx hb d_St_isFreeFor_44 (by decide) (fun c44 => ?_) (fun c44 => ?_)
      · skip
        refine lv_iinc (k := 2) (v := nI (k + 1)) hx hb d_St_isFreeFor_55 hl rfl (by rw [lit1]; exact (nI_succ k).symm) (by decide) rfl (fun ls hl => ?_)
        have hl : lv_has ls 7 [(4, .int (nI (k + 1))), (6, .int (((cellv g (16 + 2 * nI k + 1) * 16) / 16) + (blkv (cellv g (16 + 2 * nI k))))), (5, .int ((cellv g (16 + 2 * nI k + 1) * 16) / 16)), (0, .ref h0), (1, .int n), (2, .int pl), (3, .int en)] := hl
        refine lv_goto (tgt := 3) hx hb d_St_isFreeFor_58 (by decide) ?_
        exact ih (k + 1) (by omega) ls _ _ (lv_sub hl [0, 3, 4, 5, 6] rfl) (hP.sub [0, 1] rfl) (hD.sub [0, 1] (by decide) rfl) hS (fun i hi => by
        rcases Nat.lt_succ_iff_lt_or_eq.mp hi with h | h
        · exact hf i h
        · subst h; exact (fun h => absurd h.2.1 (Int32.not_lt.mpr c44) : ¬ busy g n pl en i))
      · skip
        refine lv_iload_n hx hb d_St_isFreeFor_47 rfl (lv_at hl 5 rfl) ?_
        refine lv_iload hx hb d_St_isFreeFor_48 (lv_at hl 0 rfl) ?_
        refine lv_icmp_ge (tgt := 55) hx hb d_St_isFreeFor_50 (by decide) (fun c50 => ?_) (fun c50 => ?_)
        · skip
          refine lv_iinc (k := 2) (v := nI (k + 1)) hx hb d_St_isFreeFor_55 hl rfl (by rw [lit1]; exact (nI_succ k).symm) (by decide) rfl (fun ls hl => ?_)
          have hl : lv_has ls 7 [(4, .int (nI (k + 1))), (6, .int (((cellv g (16 + 2 * nI k + 1) * 16) / 16) + (blkv (cellv g (16 + 2 * nI k))))), (5, .int ((cellv g (16 + 2 * nI k + 1) * 16) / 16)), (0, .ref h0), (1, .int n), (2, .int pl), (3, .int en)] := hl
          refine lv_goto (tgt := 3) hx hb d_St_isFreeFor_58 (by decide) ?_
          exact ih (k + 1) (by omega) ls _ _ (lv_sub hl [0, 3, 4, 5, 6] rfl) (hP.sub [0, 1] rfl) (hD.sub [0, 1] (by decide) rfl) hS (fun i hi => by
        rcases Nat.lt_succ_iff_lt_or_eq.mp hi with h | h
        · exact hf i h
        · subst h; exact (fun h => absurd h.2.2 (Int32.not_lt.mpr c50) : ¬ busy g n pl en i))
        · skip
          exact k_53 k (by omega) ls _ _ (lv_sub hl [3] rfl) (hP.sub [0, 1] rfl) (hD.sub [0, 1] (by decide) rfl) hS (⟨hkN, c38, Int32.not_le.mp c44, Int32.not_le.mp c50⟩)
set_option maxHeartbeats 4000000 in
set_option maxRecDepth 100000 in
theorem g_St_isFree (l : Launch) (dC : Nat → ClassId) (dI : Nat → Nat → Nat) (h0 c0 : Nat) (cA : ClassId) (ar de wr : Int32) (g : Nat → Int32) (n pl en : Int32) (sz : Nat) : Met l y_St_isFreeFor (Cond.code y_St_isFreeFor b_St_isFreeFor 7 (some .boolean) :: gw) ({ frames := 2, cells := 0, slots := 0, locals := 42 }) (cP (dC, dI) [.ref h0, .int n, .int pl, .int en] sz [(h0, .inr (1, [.ref c0, .int ar, .int de, .int wr])), (c0, .inl (cA, 512, .inl g))] [(cA, .int)] xT) (va_Qi (fun (r : Int32) (u : Unit) => (r = 1 ∧ ∀ k, k < 8 → ¬ busy g n pl en k) ∨ (r = 0 ∧ ∃ k, k < 8 ∧ busy g n pl en k)) (fun (u : Unit) t => cB (dC, dI) (va_A [(h0, .inr (1, [.ref c0, .int ar, .int de, .int wr])), (c0, .inl (cA, 512, .inl g))] sz) [(h0, .inr (1, [.ref c0, .int ar, .int de, .int wr])), (c0, .inl (cA, 512, .inl g))] [(cA, .int)] t) (va_A [(h0, .inr (1, [.ref c0, .int ar, .int de, .int wr])), (c0, .inl (cA, 512, .inl g))] sz)) 0 0 (va_A [(h0, .inr (1, [.ref c0, .int ar, .int de, .int wr])), (c0, .inl (cA, 512, .inl g))] sz) := by
  refine Met.ofW (cc := b_St_isFreeFor) (maxL := 7) (ret := (some .boolean)) (by decide) rfl ?_
  intro p e s m args below meth c s₁ B hml hv
  obtain ⟨rfl, hsz, hP, hK, hD0, hkw, hX⟩ := hv
  have hx := B.exec
  have hb := B.bytes
  have hr := B.returns
  have hts := fun w hw => atoms_spec (ws := Cond.code y_St_isFreeFor b_St_isFreeFor 7 (some .boolean) :: gw) B.pre w (List.mem_cons_of_mem _ hw)
  have hown : s.vm.findClass "LineDisk$Store" = some m.cls := findClass_of_methodNamed B.named
  have hlocks := B.notSynchronized
  have hin := (name_of_methodNamed B.named B.method).1
  subst hsz
  have hD := hD0.self (sz := s.heap.size)
  generalize hAe : va_A [(h0, .inr (1, [.ref c0, .int ar, .int de, .int wr])), (c0, .inl (cA, 512, .inl g))] s.heap.size = A at hD ⊢
  have hA : ∀ q : Nat, s.heap.size ≤ q → A q := fun q h => by rw [← hAe]; exact Or.inr h
  have hS : va_S A s.heap s.heap [] := va_S.rf
  have hl := lv_entry ([.ref h0, .int n, .int pl, .int en]) (n := 7) (Nat.le_of_ble_eq_true rfl)
  rw [lg_entry_eq]
  generalize (lg_sl ([.ref h0, .int n, .int pl, .int en]) ++ List.replicate (7 - (lg_sl ([.ref h0, .int n, .int pl, .int en])).length) Slot.unset).toArray = ls at hl ⊢
  have hl : lv_has ls 7 [(0, .ref h0), (1, .int n), (2, .int pl), (3, .int en)] := hl
  have F : CallFix p m c b_St_isFreeFor 7 s ([.ref h0, .int n, .int pl, .int en]).toArray gw "LineDisk$Store" := ⟨hx, hb, hml, hown, hts⟩
  refine lv_iconst (v := 0) hx hb d_St_isFreeFor_0 (by decide) ?_
  refine lv_istore hx hb d_St_isFreeFor_1 hl (by decide) rfl (fun ls hl => ?_)
  have hl : lv_has ls 7 [(4, .int 0), (0, .ref h0), (1, .int n), (2, .int pl), (3, .int en)] := hl
  refine lp_St_isFree hx hb hml hts hown hkw hA h0 c0 cA ar de wr g n pl en hK (by decide) (by decide) (by decide) (by decide) (fun k _ ls H locs hl hP hD hS hf => ?_) (fun k _ ls H locs hl hP hD hS hf => ?_) 8 0 (by decide) ls _ _ (lv_sub hl [0, 1, 2, 3, 4] rfl) hP hD hS (fun i hi => absurd hi (by omega))
  · skip
    refine lv_iconst (v := 1) hx hb d_St_isFreeFor_61 (by decide) ?_
    refine W.widen (k := 0) (n := 0) (by decide) (by decide) ?_
    exact W.zret (v := 1) hx hb hr (rfl) (fun t ht hW => ⟨⟨1, (), rfl, Or.inl ⟨rfl, hf⟩, cB.of (hP.sub [0, 1] rfl) (hD.sub [0, 1] (by decide) rfl) (hK.sub [0] rfl) ht hW⟩, hS.F ht⟩) hS.2.2 d_St_isFreeFor_62
  · skip
    refine lv_iconst (v := 0) hx hb d_St_isFreeFor_53 (by decide) ?_
    refine W.widen (k := 0) (n := 0) (by decide) (by decide) ?_
    exact W.zret (v := 0) hx hb hr (rfl) (fun t ht hW => ⟨⟨0, (), rfl, Or.inr ⟨rfl, k, hf⟩, cB.of (hP.sub [0, 1] rfl) (hD.sub [0, 1] (by decide) rfl) (hK.sub [0] rfl) ht hW⟩, hS.F ht⟩) hS.2.2 d_St_isFreeFor_54
