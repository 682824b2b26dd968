def freeAt (g : Nat → Int32) (n : Int32) (m q : Nat) : Prop := ∀ i, i < 8 → ¬ busy g n (nI q) (nI q + nI m) i
def takenAt (g : Nat → Int32) (n : Int32) (m q : Nat) : Prop := ∃ i, i < 8 ∧ busy g n (nI q) (nI q + nI m) i
set_option maxHeartbeats 4000000 in
set_option maxRecDepth 100000 in
theorem lp_St_room {p : Program} {l : Launch} {e : Env} {R : Room} {s : State} {m : MethodId} {args : Array Value} {below : List Frame} {meth : Method} {c : Code} {cells slots : Nat} {Q : State → Prop} {A : Nat → Prop} {dC : Nat → ClassId} {dI : Nat → Nat → Nat} (hx : p.tables.exec = Jvm.exec) (hb : c.code = b_St_room) (hml : c.maxLocals = 4) (hts : ∀ w ∈ gw, w.before args s = true) (hown : s.vm.findClass "LineDisk$Store" = some m.cls) (hkw : kw s) (hA : ∀ q : Nat, s.heap.size ≤ q → A q) (h0 c0 : Nat) (cA : ClassId) (ar de wr : Int32) (g : Nat → Int32) (n : Int32) (m0 : Nat) (hm1 : 1 ≤ m0) (hm2 : m0 ≤ 23) (hK0 : va_K (dC, dI) cls [(cA, .int)] s) (hRf : 3 ≤ R.frames) (hRl : 68 ≤ R.locals) (hRc : cells ≤ R.cells) (hRs : slots ≤ R.slots)  (k_31 : ∀ (k : Nat), k ≤ (33 - m0) → ∀ (ls : Array Slot) (H : Heap) (locs : List Loc), lv_has ls 4 [(0, .ref h0)] → va_P (dC, dI) cls [(h0, .inr (1, [.ref c0, .int ar, .int de, .int wr])), (c0, .inl (cA, 512, .inl g))] H → va_D A [(h0, .inr (1, [.ref c0, .int ar, .int de, .int wr])), (c0, .inl (cA, 512, .inl g))] → va_S A s.heap H locs → (9 ≤ k ∧ (∀ q, 9 ≤ q → q < k → takenAt g n m0 q) ∧ k = 33 - m0) → W p l e R s m args below meth c H locs cells slots Q (F0 m 31 ls [])) (k_23 : ∀ (k : Nat), k ≤ (33 - m0) → ∀ (ls : Array Slot) (H : Heap) (locs : List Loc), lv_has ls 4 [(3, .int (nI k)), (0, .ref h0)] → va_P (dC, dI) cls [(h0, .inr (1, [.ref c0, .int ar, .int de, .int wr])), (c0, .inl (cA, 512, .inl g))] H → va_D A [(h0, .inr (1, [.ref c0, .int ar, .int de, .int wr])), (c0, .inl (cA, 512, .inl g))] → va_S A s.heap H locs → (9 ≤ k ∧ (∀ q, 9 ≤ q → q < k → takenAt g n m0 q) ∧ k < 33 - m0 ∧ freeAt g n m0 k) → W p l e R s m args below meth c H locs cells slots Q (F0 m 23 ls [])) : ∀ (j k : Nat), k + j = (33 - m0) → ∀ (ls : Array Slot) (H : Heap) (locs : List Loc), lv_has ls 4 [(3, .int (nI k)), (0, .ref h0), (1, .int (nI m0)), (2, .int n)] → va_P (dC, dI) cls [(h0, .inr (1, [.ref c0, .int ar, .int de, .int wr])), (c0, .inl (cA, 512, .inl g))] H → va_D A [(h0, .inr (1, [.ref c0, .int ar, .int de, .int wr])), (c0, .inl (cA, 512, .inl g))] → va_S A s.heap H locs → (9 ≤ k ∧ (∀ q, 9 ≤ q → q < k → takenAt g n m0 q)) → W p l e R s m args below meth c H locs cells slots Q (F0 m 3 ls []) := by
  have F : CallFix p m c b_St_room 4 s args gw "LineDisk$Store" := ⟨hx, hb, hml, hown, hts⟩
  intro j
  induction j with
  | zero =>
    intro k hk ls H locs hl hP hD hS hf
    have hK := hK0
    have hkN : k = (33 - m0) := by omega
    refine lv_iload_n hx hb d_St_room_3 rfl (lv_at hl 0 rfl) ?_
    refine lv_iload_n hx hb d_St_room_4 rfl (lv_at hl 2 rfl) ?_
    refine lv_iadd hx hb d_St_room_5 ?_
    refine lv_bipush (v := 32) hx hb d_St_room_6 (by decide) ?_
    refine lv_icmp_gt (tgt := 31) hx hb d_St_room_8 (by decide) (fun _ => ?_) (fun h => absurd (by rw [nI_add]; exact nI_lt (a := 32) (by omega) (by omega)) h)
    exact k_31 k (by omega) ls _ _ (lv_sub hl [1] rfl) (hP.sub [0, 1] rfl) (hD.sub [0, 1] (by decide) rfl) hS (⟨hf.1, hf.2, hkN⟩)
  | succ j ih =>
    intro k hk ls H locs hl hP hD hS hf
    have hK := hK0
    have hkN : k < (33 - m0) := by omega
    refine lv_iload_n hx hb d_St_room_3 rfl (lv_at hl 0 rfl) ?_
    refine lv_iload_n hx hb d_St_room_4 rfl (lv_at hl 2 rfl) ?_
    refine lv_iadd hx hb d_St_room_5 ?_
    refine lv_bipush (v := 32) hx hb d_St_room_6 (by decide) ?_
    refine lv_icmp_gt (tgt := 31) hx hb d_St_room_8 (by decide) (fun h => absurd h (by rw [nI_add]; exact nI_nlt (b := 32) (a := 32) (Nat.le_refl _) (by decide) |> fun _ => fun h => absurd ((nI_ltI (a := 32) (by decide) (by omega)).mp h) (by omega))) (fun _ => ?_)
    refine lv_aload_n hx hb d_St_room_11 rfl (lv_at hl 1 rfl) ?_
    refine lv_iload_n hx hb d_St_room_12 rfl (lv_at hl 3 rfl) ?_
    refine lv_iload_n hx hb d_St_room_13 rfl (lv_at hl 0 rfl) ?_
    refine lv_iload_n hx hb d_St_room_14 rfl (lv_at hl 0 rfl) ?_
    refine lv_iload_n hx hb d_St_room_15 rfl (lv_at hl 2 rfl) ?_
    refine lv_iadd hx hb d_St_room_16 ?_
    refine go_i (wr := []) (tr := []) (rV (C := "LineDisk$Store") (ci := 1) (q0 := 0) (b := h0) (n := 3) (As := [.int n, .int (nI k), .int ((nI k) + (nI m0))]) (rest := []) F hkw (g_St_isFree l dC dI h0 c0 cA ar de wr g n (nI k) (nI k + nI m0) H.size) xT_bl (fun _ _ _ => trivial) w_357 w_359 ws_21 w_2 w_360 rfl rfl (by decide +kernel) ⟨Nat.le_trans (by decide) hRf, Nat.le_trans (by decide) hRl⟩ (hP.sub (ws' := [(h0, .inr (1, [.ref c0, .int ar, .int de, .int wr])), (c0, .inl (cA, 512, .inl g))]) [0, 1] rfl) (hD.sub (ws' := [(h0, .inr (1, [.ref c0, .int ar, .int de, .int wr])), (c0, .inl (cA, 512, .inl g))]) [0, 1] (by decide) rfl) (hK.sub (tys' := [(cA, .int)]) [0] rfl) rfl rfl rfl rfl hl.1 rfl (Nat.le_of_ble_eq_true rfl) d_St_room_17 ⟨hRc, hRs⟩) hP hD hK hS hA [0, 1] [] [] rfl rfl (by decide) (by decide) rfl (fun r u H locs hw hP hD hK hS => ?_)
    have hP : va_P (dC, dI) cls [(h0, .inr (1, [.ref c0, .int ar, .int de, .int wr])), (c0, .inl (cA, 512, .inl g))] H := hP
    have hD : va_D A [(h0, .inr (1, [.ref c0, .int ar, .int de, .int wr])), (c0, .inl (cA, 512, .inl g))] := hD
    have hK : va_K (dC, dI) cls [(cA, .int)] s := hK
    refine W.widen (k := cells) (n := slots) (Nat.le_refl _) (Nat.le_refl _) ?_
    refine lv_if_eq (tgt := 25) hx hb d_St_room_20 (by decide) (fun c20 => ?_) (fun c20 => ?_)
    · skip
      refine lv_iinc (k := 0) (v := nI (k + 1)) hx hb d_St_room_25 hl rfl (by rw [lit1]; exact (nI_succ k).symm) (by decide) rfl (fun ls hl => ?_)
      have hl : lv_has ls 4 [(3, .int (nI (k + 1))), (0, .ref h0), (1, .int (nI m0)), (2, .int n)] := hl
      refine lv_goto (tgt := 3) hx hb d_St_room_28 (by decide) ?_
      exact ih (k + 1) (by omega) ls _ _ (lv_sub hl [0, 1, 2, 3] rfl) (hP.sub [0, 1] rfl) (hD.sub [0, 1] (by decide) rfl) hS (⟨by omega, fun q h9 hq => by
        rcases Nat.lt_succ_iff_lt_or_eq.mp hq with h | h
        · exact hf.2 q h9 h
        · subst h
          exact hw.elim (fun h => absurd (h.1.symm.trans c20) (by decide)) (fun h => h.2)⟩)
    · skip
      exact k_23 k (by omega) ls _ _ (lv_sub hl [0, 1] rfl) (hP.sub [0, 1] rfl) (hD.sub [0, 1] (by decide) rfl) hS (⟨hf.1, hf.2, hkN, hw.elim (fun h => h.2) (fun h => absurd h.1 c20)⟩)
set_option maxHeartbeats 4000000 in
set_option maxRecDepth 100000 in
theorem g_St_room (l : Launch) (dC : Nat → ClassId) (dI : Nat → Nat → Nat) (h0 c0 : Nat) (cA : ClassId) (ar de wr : Int32) (g : Nat → Int32) (n : Int32) (m0 : Nat) (hm1 : 1 ≤ m0) (hm2 : m0 ≤ 23) (sz : Nat) : Met l y_St_room (Cond.code y_St_room b_St_room 4 (some .int) :: gw) ({ frames := 3, cells := 0, slots := 0, locals := 68 }) (cP (dC, dI) [.ref h0, .int (nI m0), .int n] sz [(h0, .inr (1, [.ref c0, .int ar, .int de, .int wr])), (c0, .inl (cA, 512, .inl g))] [(cA, .int)] xT) (va_Qi (fun (r : Int32) (u : Unit) => (∃ k, 9 ≤ k ∧ k + m0 ≤ 32 ∧ r = nI k ∧ freeAt g n m0 k ∧ ∀ q, 9 ≤ q → q < k → takenAt g n m0 q) ∨ (r = -1 ∧ ∀ q, 9 ≤ q → q + m0 ≤ 32 → takenAt g n m0 q)) (fun (u : Unit) t => cB (dC, dI) (va_A [(h0, .inr (1, [.ref c0, .int ar, .int de, .int wr])), (c0, .inl (cA, 512, .inl g))] sz) [(h0, .inr (1, [.ref c0, .int ar, .int de, .int wr])), (c0, .inl (cA, 512, .inl g))] [(cA, .int)] t) (va_A [(h0, .inr (1, [.ref c0, .int ar, .int de, .int wr])), (c0, .inl (cA, 512, .inl g))] sz)) 0 0 (va_A [(h0, .inr (1, [.ref c0, .int ar, .int de, .int wr])), (c0, .inl (cA, 512, .inl g))] sz) := by
  refine Met.ofW (cc := b_St_room) (maxL := 4) (ret := (some .int)) (by decide) rfl ?_
  intro p e s m args below meth c s₁ B hml hv
  obtain ⟨rfl, hsz, hP, hK, hD0, hkw, hX⟩ := hv
  have hx := B.exec
  have hb := B.bytes
  have hr := B.returns
  have hts := fun w hw => atoms_spec (ws := Cond.code y_St_room b_St_room 4 (some .int) :: gw) B.pre w (List.mem_cons_of_mem _ hw)
  have hown : s.vm.findClass "LineDisk$Store" = some m.cls := findClass_of_methodNamed B.named
  have hlocks := B.notSynchronized
  have hin := (name_of_methodNamed B.named B.method).1
  subst hsz
  have hD := hD0.self (sz := s.heap.size)
  generalize hAe : va_A [(h0, .inr (1, [.ref c0, .int ar, .int de, .int wr])), (c0, .inl (cA, 512, .inl g))] s.heap.size = A at hD ⊢
  have hA : ∀ q : Nat, s.heap.size ≤ q → A q := fun q h => by rw [← hAe]; exact Or.inr h
  have hS : va_S A s.heap s.heap [] := va_S.rf
  have hl := lv_entry ([.ref h0, .int (nI m0), .int n]) (n := 4) (Nat.le_of_ble_eq_true rfl)
  rw [lg_entry_eq]
  generalize (lg_sl ([.ref h0, .int (nI m0), .int n]) ++ List.replicate (4 - (lg_sl ([.ref h0, .int (nI m0), .int n])).length) Slot.unset).toArray = ls at hl ⊢
  have hl : lv_has ls 4 [(0, .ref h0), (1, .int (nI m0)), (2, .int n)] := hl
  have F : CallFix p m c b_St_room 4 s ([.ref h0, .int (nI m0), .int n]).toArray gw "LineDisk$Store" := ⟨hx, hb, hml, hown, hts⟩
  refine lv_bipush (v := 9) hx hb d_St_room_0 (by decide) ?_
  refine lv_istore_n (i := 3) hx hb d_St_room_2 rfl hl (by decide) rfl (fun ls hl => ?_)
  have hl : lv_has ls 4 [(3, .int 9), (0, .ref h0), (1, .int (nI m0)), (2, .int n)] := hl
  refine lp_St_room hx hb hml hts hown hkw hA h0 c0 cA ar de wr g n m0 hm1 hm2 hK (by decide) (by decide) (by decide) (by decide) (fun k _ ls H locs hl hP hD hS hf => ?_) (fun k _ ls H locs hl hP hD hS hf => ?_) (24 - m0) 9 (by omega) ls _ _ (lv_sub hl [0, 1, 2, 3] rfl) hP hD hS ⟨by omega, fun q h1 h2 => absurd h2 (by omega)⟩
  · skip
    refine lv_iconst (v := (-1)) hx hb d_St_room_31 (by decide) ?_
    refine W.widen (k := 0) (n := 0) (by decide) (by decide) ?_
    exact W.iret (v := (-1)) hx hb hr (fun t ht hW => ⟨⟨(-1), (), rfl, Or.inr ⟨rfl, fun q h1 h2 => hf.2.1 q h1 (by omega)⟩, cB.of (hP.sub [0, 1] rfl) (hD.sub [0, 1] (by decide) rfl) (hK.sub [0] rfl) ht hW⟩, hS.F ht⟩) hS.2.2 d_St_room_32
  · skip
    refine lv_iload_n hx hb d_St_room_23 rfl (lv_at hl 0 rfl) ?_
    refine W.widen (k := 0) (n := 0) (by decide) (by decide) ?_
    exact W.iret (v := nI k) hx hb hr (fun t ht hW => ⟨⟨nI k, (), rfl, Or.inl ⟨k, hf.1, by omega, rfl, hf.2.2.2, hf.2.1⟩, cB.of (hP.sub [0, 1] rfl) (hD.sub [0, 1] (by decide) rfl) (hK.sub [0] rfl) ht hW⟩, hS.F ht⟩) hS.2.2 d_St_room_24
set_option maxHeartbeats 4000000 in
set_option maxRecDepth 100000 in
theorem lp_Ar_fillG {p : Program} {l : Launch} {e : Env} {R : Room} {s : State} {m : MethodId} {args : Array Value} {below : List Frame} {meth : Method} {c : Code} {cells slots : Nat} {Q : State → Prop} {A : Nat → Prop} {dC : Nat → ClassId} {dI : Nat → Nat → Nat} (hx : p.tables.exec = Jvm.exec) (hb : c.code = b_Ar_fill) (hml : c.maxLocals = 4) (hts : ∀ w ∈ gw, w.before args s = true) (hown : s.vm.findClass "java/util/Arrays" = some m.cls) (hkw : kw s) (hA : ∀ q : Nat, s.heap.size ≤ q → A q) (a0 : Nat) (cA : ClassId) (n : Nat) (hn : n < 2 ^ 31) (x : Int32) (hK0 : va_K (dC, dI) cls [(cA, .int)] s) (hRf : 0 ≤ R.frames) (hRl : 0 ≤ R.locals) (hRc : cells ≤ R.cells) (hRs : slots ≤ R.slots)  (k_20 : ∀ (k : Nat), k ≤ n → ∀ (ls : Array Slot) (H : Heap) (locs : List Loc) (f : Nat → Int32), lv_has ls 4 [(0, .ref a0)] → va_P (dC, dI) cls [(a0, .inl (cA, n, .inl f))] H → va_D A [(a0, .inl (cA, n, .inl f))] → va_S A s.heap H locs → (∀ i, i < n → f i = x) → W p l e R s m args below meth c H locs cells slots Q (F0 m 20 ls [])) : ∀ (j k : Nat), k + j = n → ∀ (ls : Array Slot) (H : Heap) (locs : List Loc) (f : Nat → Int32), lv_has ls 4 [(2, .int (nI k)), (3, .int (nI n)), (0, .ref a0), (1, .int x)] → va_P (dC, dI) cls [(a0, .inl (cA, n, .inl f))] H → va_D A [(a0, .inl (cA, n, .inl f))] → va_S A s.heap H locs → (∀ i, i < k → f i = x) → W p l e R s m args below meth c H locs cells slots Q (F0 m 5 ls []) := by
  have F : CallFix p m c b_Ar_fill 4 s args gw "java/util/Arrays" := ⟨hx, hb, hml, hown, hts⟩
  intro j
  induction j with
  | zero =>
    intro k hk ls H locs f hl hP hD hS hf
    have hK := hK0
    have hkN : k = n := by omega
    refine lv_iload_n hx hb d_Ar_fill_5 rfl (lv_at hl 0 rfl) ?_
    refine lv_iload_n hx hb d_Ar_fill_6 rfl (lv_at hl 1 rfl) ?_
    refine lv_icmp_ge (tgt := 20) hx hb d_Ar_fill_7 (by decide) (fun _ => ?_) (fun h => absurd (by rw [hkN]; exact nI_le (Nat.le_refl _) hn) h)
    exact k_20 k (by omega) ls _ _ f (lv_sub hl [2] rfl) (hP.sub [0] rfl) (hD.sub [0] (by decide) rfl) hS (by rw [hkN] at hf; exact hf)
  | succ j ih =>
    intro k hk ls H locs f hl hP hD hS hf
    have hK := hK0
    have hkN : k < n := by omega
    refine lv_iload_n hx hb d_Ar_fill_5 rfl (lv_at hl 0 rfl) ?_
    refine lv_iload_n hx hb d_Ar_fill_6 rfl (lv_at hl 1 rfl) ?_
    refine lv_icmp_ge (tgt := 20) hx hb d_Ar_fill_7 (by decide) (fun h => absurd h (nI_ge hkN hn)) (fun _ => ?_)
    refine lv_aload_n hx hb d_Ar_fill_10 rfl (lv_at hl 2 rfl) ?_
    refine lv_iload_n hx hb d_Ar_fill_11 rfl (lv_at hl 0 rfl) ?_
    refine lv_iload_n hx hb d_Ar_fill_12 rfl (lv_at hl 3 rfl) ?_
    refine va_iast hx hb hK hP hD hS 0 0 rfl rfl (vp_in_nI hkN hn) d_Ar_fill_13 (fun H locs hP hD hS => ?_)
    have hP : va_P (dC, dI) cls [(a0, .inl (cA, n, .inl (upd f (nI k : Int32).toNatClampNeg x)))] H := hP
    have hD : va_D A [(a0, .inl (cA, n, .inl (upd f (nI k : Int32).toNatClampNeg x)))] := hD
    refine lv_iinc (k := 0) (v := nI (k + 1)) hx hb d_Ar_fill_14 hl rfl (by rw [lit1]; exact (nI_succ k).symm) (by decide) rfl (fun ls hl => ?_)
    have hl : lv_has ls 4 [(2, .int (nI (k + 1))), (3, .int (nI n)), (0, .ref a0), (1, .int x)] := hl
    refine lv_goto (tgt := 5) hx hb d_Ar_fill_17 (by decide) ?_
    exact ih (k + 1) (by omega) ls _ _ (upd f (nI k : Int32).toNatClampNeg x) (lv_sub hl [0, 1, 2, 3] rfl) (hP.sub [0] rfl) (hD.sub [0] (by decide) rfl) hS (upd_inv (by omega) hf)
set_option maxHeartbeats 4000000 in
set_option maxRecDepth 100000 in
theorem g_Ar_fill (l : Launch) (dC : Nat → ClassId) (dI : Nat → Nat → Nat) (a0 : Nat) (cA : ClassId) (n : Nat) (hn : n < 2 ^ 31) (f : Nat → Int32) (x : Int32) (sz : Nat) : Met l y_Ar_fill (Cond.code y_Ar_fill b_Ar_fill 4 none :: gw) ({ frames := 0, cells := 0, slots := 0, locals := 0 }) (cP (dC, dI) [.ref a0, .int x] sz [(a0, .inl (cA, n, .inl f))] [(cA, .int)] xT) (va_Qv (fun (u : Nat → Int32) => ∀ i, i < n → u i = x) (fun (u : Nat → Int32) t => cB (dC, dI) (va_A [(a0, .inl (cA, n, .inl f))] sz) [(a0, .inl (cA, n, .inl u))] [(cA, .int)] t) (va_A [(a0, .inl (cA, n, .inl f))] sz)) 0 0 (va_A [(a0, .inl (cA, n, .inl f))] sz) := by
  refine Met.ofW (cc := b_Ar_fill) (maxL := 4) (ret := none) (by decide) rfl ?_
  intro p e s m args below meth c s₁ B hml hv
  obtain ⟨rfl, hsz, hP, hK, hD0, hkw, hX⟩ := hv
  have hx := B.exec
  have hb := B.bytes
  have hr := B.returns
  have hts := fun w hw => atoms_spec (ws := Cond.code y_Ar_fill b_Ar_fill 4 none :: gw) B.pre w (List.mem_cons_of_mem _ hw)
  have hown : s.vm.findClass "java/util/Arrays" = some m.cls := findClass_of_methodNamed B.named
  have hlocks := B.notSynchronized
  have hin := (name_of_methodNamed B.named B.method).1
  subst hsz
  have hD := hD0.self (sz := s.heap.size)
  generalize hAe : va_A [(a0, .inl (cA, n, .inl f))] s.heap.size = A at hD ⊢
  have hA : ∀ q : Nat, s.heap.size ≤ q → A q := fun q h => by rw [← hAe]; exact Or.inr h
  have hS : va_S A s.heap s.heap [] := va_S.rf
  have hl := lv_entry ([.ref a0, .int x]) (n := 4) (Nat.le_of_ble_eq_true rfl)
  rw [lg_entry_eq]
  generalize (lg_sl ([.ref a0, .int x]) ++ List.replicate (4 - (lg_sl ([.ref a0, .int x])).length) Slot.unset).toArray = ls at hl ⊢
  have hl : lv_has ls 4 [(0, .ref a0), (1, .int x)] := hl
  have F : CallFix p m c b_Ar_fill 4 s ([.ref a0, .int x]).toArray gw "java/util/Arrays" := ⟨hx, hb, hml, hown, hts⟩
  refine lv_iconst (v := 0) hx hb d_Ar_fill_0 (by decide) ?_
  refine lv_istore_n (i := 2) hx hb d_Ar_fill_1 rfl hl (by decide) rfl (fun ls hl => ?_)
  have hl : lv_has ls 4 [(2, .int 0), (0, .ref a0), (1, .int x)] := hl
  refine lv_aload_n hx hb d_Ar_fill_2 rfl (lv_at hl 1 rfl) ?_
  refine va_alen (v := nI n) hx hb hK hP 0 0 rfl rfl rfl d_Ar_fill_3 ?_
  refine lv_istore_n (i := 3) hx hb d_Ar_fill_4 rfl hl (by decide) rfl (fun ls hl => ?_)
  have hl : lv_has ls 4 [(3, .int (nI n)), (2, .int 0), (0, .ref a0), (1, .int x)] := hl
  refine lp_Ar_fillG hx hb hml hts hown hkw hA a0 cA n hn x hK (by decide) (by decide) (by decide) (by decide) (fun k _ ls H locs f hl hP hD hS hf => ?_) n 0 (by omega) ls _ _ f (lv_sub hl [1, 0, 2, 3] rfl) hP hD hS (fun i hi => absurd hi (by omega))
  refine W.widen (k := 0) (n := 0) (by decide) (by decide) ?_
  exact W.vret hx hb hr (fun t ht hW => ⟨⟨f, rfl, hf, cB.of (hP.sub [0] rfl) (hD.sub [0] (by decide) rfl) (hK.sub [0] rfl) ht hW⟩, hS.F ht⟩) hS.2.2 d_Ar_fill_20
def putv (ro : Nat → Int32) (x v : Int32) : Nat → Int32 := if x < 0 then ro else if 96 ≤ x then ro else upd ro x.toNatClampNeg v
def tkE (t : Nat) (hd : Nat → Int32) (b : Int32) : Nat × (Nat → Int32) := if t < 6 then (t + 1, upd (upd hd 0 (nI (t + 1))) (t + 1) b) else (t, hd)
def tkR (g ro : Nat → Int32) (t : Nat) (b : Int32) : Nat → (Nat → Int32)
  | 0 => ro
  | k + 1 => putv (tkR g ro t b k) (nI t * 16 + nI k) (cellv g (b * 16 + nI k))
theorem in96g {x : Int32} (h1 : ¬ x < 0) (h2 : ¬ 96 ≤ x) : vp_in x 96 := by
  rcases pk_ix x (n := 96) (by decide) with h | h | ⟨j, hj, rfl⟩
  · exact absurd h h1
  · exact absurd h h2
  · exact vp_in_nI hj (by decide)
set_option maxHeartbeats 4000000 in
set_option maxRecDepth 100000 in
theorem g_Jo_begin (l : Launch) (dC : Nat → ClassId) (dI : Nat → Nat → Nat) (h0 jr jh : Nat) (cR cH : ClassId) (jt : Nat) (ro hd : Nat → Int32) (sz : Nat) : Met l y_Jo_begin (Cond.code y_Jo_begin b_Jo_begin 1 none :: gw) ({ frames := 1, cells := 0, slots := 0, locals := 23 }) (cP (dC, dI) [.ref h0] sz [(h0, .inr (2, [.ref jr, .ref jh, .int (nI jt)])), (jr, .inl (cR, 96, .inl ro)), (jh, .inl (cH, 16, .inl hd))] [(cR, .int), (cH, .int)] xT) (va_Qv (fun (u : (Nat → Int32) × (Nat → Int32)) => (∀ i, i < 96 → u.1 i = 0) ∧ (∀ i, i < 16 → u.2 i = 0)) (fun (u : (Nat → Int32) × (Nat → Int32)) t => cB (dC, dI) (va_A [(h0, .inr (2, [.ref jr, .ref jh, .int (nI jt)])), (jr, .inl (cR, 96, .inl ro)), (jh, .inl (cH, 16, .inl hd))] sz) [(h0, .inr (2, [.ref jr, .ref jh, .int 0])), (jr, .inl (cR, 96, .inl u.1)), (jh, .inl (cH, 16, .inl u.2))] [(cR, .int), (cH, .int)] t) (va_A [(h0, .inr (2, [.ref jr, .ref jh, .int (nI jt)])), (jr, .inl (cR, 96, .inl ro)), (jh, .inl (cH, 16, .inl hd))] sz)) 0 0 (va_A [(h0, .inr (2, [.ref jr, .ref jh, .int (nI jt)])), (jr, .inl (cR, 96, .inl ro)), (jh, .inl (cH, 16, .inl hd))] sz) := by
  refine Met.ofW (cc := b_Jo_begin) (maxL := 1) (ret := none) (by decide) rfl ?_
  intro p e s m args below meth c s₁ B hml hv
  obtain ⟨rfl, hsz, hP, hK, hD0, hkw, hX⟩ := hv
  have hx := B.exec
  have hb := B.bytes
  have hr := B.returns
  have hts := fun w hw => atoms_spec (ws := Cond.code y_Jo_begin b_Jo_begin 1 none :: gw) B.pre w (List.mem_cons_of_mem _ hw)
  have hown : s.vm.findClass "LineDisk$Journal" = some m.cls := findClass_of_methodNamed B.named
  have hlocks := B.notSynchronized
  have hin := (name_of_methodNamed B.named B.method).1
  subst hsz
  have hD := hD0.self (sz := s.heap.size)
  generalize hAe : va_A [(h0, .inr (2, [.ref jr, .ref jh, .int (nI jt)])), (jr, .inl (cR, 96, .inl ro)), (jh, .inl (cH, 16, .inl hd))] s.heap.size = A at hD ⊢
  have hA : ∀ q : Nat, s.heap.size ≤ q → A q := fun q h => by rw [← hAe]; exact Or.inr h
  have hS : va_S A s.heap s.heap [] := va_S.rf
  have hl := lv_entry ([.ref h0]) (n := 1) (Nat.le_of_ble_eq_true rfl)
  rw [lg_entry_eq]
  generalize (lg_sl ([.ref h0]) ++ List.replicate (1 - (lg_sl ([.ref h0])).length) Slot.unset).toArray = ls at hl ⊢
  have hl : lv_has ls 1 [(0, .ref h0)] := hl
  have F : CallFix p m c b_Jo_begin 1 s ([.ref h0]).toArray gw "LineDisk$Journal" := ⟨hx, hb, hml, hown, hts⟩
  refine lv_aload_n hx hb d_Jo_begin_0 rfl (lv_at hl 0 rfl) ?_
  refine va_get (D := (dC, dI)) (ci := 2) (v := .ref jr) (C := R_Jo) (T := F_Jo) (N := 3) hx hb hts in_Jo hown hK hP 0 rfl rfl 0 (by decide) (hts _ w_52) (fun _ h9 => h9) rfl d_Jo_begin_1 ?_
  refine lv_iconst (v := 0) hx hb d_Jo_begin_4 (by decide) ?_
  refine go_v (wr := [(h0, .inr (2, [.ref jr, .ref jh, .int (nI jt)])), (jh, .inl (cH, 16, .inl hd))]) (tr := [(cH, .int)]) (rS (n := 2) (As := [.ref jr, .int 0]) (rest := []) F hkw (g_Ar_fill l dC dI jr cR 96 (by decide) ro 0 s.heap.size) xT_bl (fun _ _ _ => trivial) w_375 w_195 w_8 w_196 rfl rfl (by decide +kernel) ⟨Nat.le_of_ble_eq_true rfl, Nat.le_of_ble_eq_true rfl⟩ (hP.sub (ws' := [(jr, .inl (cR, 96, .inl ro))]) [1] rfl) (hD.sub (ws' := [(jr, .inl (cR, 96, .inl ro))]) [1] (by decide) rfl) (hK.sub (tys' := [(cR, .int)]) [0] rfl) rfl hl.1 rfl (Nat.le_of_ble_eq_true rfl) d_Jo_begin_5 ⟨by decide, by decide⟩) hP hD hK hS hA [1] [0, 2] [1] rfl rfl (by decide) (by decide) rfl (fun u1 H locs p1 hP hD hK hS => ?_)
  have hP : va_P (dC, dI) cls [(h0, .inr (2, [.ref jr, .ref jh, .int (nI jt)])), (jh, .inl (cH, 16, .inl hd)), (jr, .inl (cR, 96, .inl u1))] H := hP
  have hD : va_D A [(h0, .inr (2, [.ref jr, .ref jh, .int (nI jt)])), (jh, .inl (cH, 16, .inl hd)), (jr, .inl (cR, 96, .inl u1))] := hD
  have hK : va_K (dC, dI) cls [(cH, .int), (cR, .int)] s := hK
  refine W.widen (k := 0) (n := 0) (by omega) (by omega) ?_
  refine lv_aload_n hx hb d_Jo_begin_8 rfl (lv_at hl 0 rfl) ?_
  refine va_get (D := (dC, dI)) (ci := 2) (v := .ref jh) (C := R_Jo) (T := F_Jo) (N := 3) hx hb hts in_Jo hown hK hP 0 rfl rfl 1 (by decide) (hts _ w_53) (fun _ h9 => h9) rfl d_Jo_begin_9 ?_
  refine lv_iconst (v := 0) hx hb d_Jo_begin_12 (by decide) ?_
  refine go_v (wr := [(h0, .inr (2, [.ref jr, .ref jh, .int (nI jt)])), (jr, .inl (cR, 96, .inl u1))]) (tr := [(cR, .int)]) (rS (n := 2) (As := [.ref jh, .int 0]) (rest := []) F hkw (g_Ar_fill l dC dI jh cH 16 (by decide) hd 0 H.size) xT_bl (fun _ _ _ => trivial) w_375 w_195 w_8 w_196 rfl rfl (by decide +kernel) ⟨Nat.le_of_ble_eq_true rfl, Nat.le_of_ble_eq_true rfl⟩ (hP.sub (ws' := [(jh, .inl (cH, 16, .inl hd))]) [1] rfl) (hD.sub (ws' := [(jh, .inl (cH, 16, .inl hd))]) [1] (by decide) rfl) (hK.sub (tys' := [(cH, .int)]) [0] rfl) rfl hl.1 rfl (Nat.le_of_ble_eq_true rfl) d_Jo_begin_13 ⟨by decide, by decide⟩) hP hD hK hS hA [1] [0, 2] [1] rfl rfl (by decide) (by decide) rfl (fun u2 H locs p2 hP hD hK hS => ?_)
  have hP : va_P (dC, dI) cls [(h0, .inr (2, [.ref jr, .ref jh, .int (nI jt)])), (jr, .inl (cR, 96, .inl u1)), (jh, .inl (cH, 16, .inl u2))] H := hP
  have hD : va_D A [(h0, .inr (2, [.ref jr, .ref jh, .int (nI jt)])), (jr, .inl (cR, 96, .inl u1)), (jh, .inl (cH, 16, .inl u2))] := hD
  have hK : va_K (dC, dI) cls [(cR, .int), (cH, .int)] s := hK
  refine W.widen (k := 0) (n := 0) (by omega) (by omega) ?_
  refine lv_aload_n hx hb d_Jo_begin_16 rfl (lv_at hl 0 rfl) ?_
  refine lv_iconst (v := 0) hx hb d_Jo_begin_17 (by decide) ?_
  refine va_put (D := (dC, dI)) (ci := 2) (v := .int 0) (ty := .int) (C := R_Jo) (T := F_Jo) (N := 3) hx hb hts in_Jo t_Jo t_Jo_ok n_Jo hown hK hP hD hS 0 rfl rfl 2 (by decide) (hts _ w_54) (fun _ h9 => h9) rfl (by decide +kernel) (rfl) (rfl) (Nat.le_of_ble_eq_true rfl) d_Jo_begin_18 (fun H locs hP hD hS => ?_)
  have hP : va_P (dC, dI) cls [(h0, .inr (2, [.ref jr, .ref jh, .int 0])), (jr, .inl (cR, 96, .inl u1)), (jh, .inl (cH, 16, .inl u2))] H := hP
  have hD : va_D A [(h0, .inr (2, [.ref jr, .ref jh, .int 0])), (jr, .inl (cR, 96, .inl u1)), (jh, .inl (cH, 16, .inl u2))] := hD
  refine W.widen (k := 0) (n := 0) (by decide) (by decide) ?_
  exact W.vret hx hb hr (fun t ht hW => ⟨⟨(u1, u2), rfl, ⟨p1, p2⟩, cB.of (hP.sub [0, 1, 2] rfl) (hD.sub [0, 1, 2] (by decide) rfl) (hK.sub [0, 1] rfl) ht hW⟩, hS.F ht⟩) hS.2.2 d_Jo_begin_21
set_option maxHeartbeats 4000000 in
set_option maxRecDepth 100000 in
theorem g_Jo_put (l : Launch) (dC : Nat → ClassId) (dI : Nat → Nat → Nat) (h0 jr jh : Nat) (cR cH : ClassId) (jt : Nat) (ro hd : Nat → Int32) (x v : Int32) (sz : Nat) : Met l y_Jo_put (Cond.code y_Jo_put b_Jo_put 3 none :: gw) ({ frames := 0, cells := 0, slots := 0, locals := 0 }) (cP (dC, dI) [.ref h0, .int x, .int v] sz [(h0, .inr (2, [.ref jr, .ref jh, .int (nI jt)])), (jr, .inl (cR, 96, .inl ro)), (jh, .inl (cH, 16, .inl hd))] [(cR, .int), (cH, .int)] xT) (va_Qv (fun (u : Nat → Int32) => u = putv ro x v) (fun (u : Nat → Int32) t => cB (dC, dI) (va_A [(h0, .inr (2, [.ref jr, .ref jh, .int (nI jt)])), (jr, .inl (cR, 96, .inl ro)), (jh, .inl (cH, 16, .inl hd))] sz) [(h0, .inr (2, [.ref jr, .ref jh, .int (nI jt)])), (jr, .inl (cR, 96, .inl u)), (jh, .inl (cH, 16, .inl hd))] [(cR, .int), (cH, .int)] t) (va_A [(h0, .inr (2, [.ref jr, .ref jh, .int (nI jt)])), (jr, .inl (cR, 96, .inl ro)), (jh, .inl (cH, 16, .inl hd))] sz)) 0 0 (va_A [(h0, .inr (2, [.ref jr, .ref jh, .int (nI jt)])), (jr, .inl (cR, 96, .inl ro)), (jh, .inl (cH, 16, .inl hd))] sz) := by
  refine Met.ofW (cc := b_Jo_put) (maxL := 3) (ret := none) (by decide) rfl ?_
  intro p e s m args below meth c s₁ B hml hv
  obtain ⟨rfl, hsz, hP, hK, hD0, hkw, hX⟩ := hv
  have hx := B.exec
  have hb := B.bytes
  have hr := B.returns
  have hts := fun w hw => atoms_spec (ws := Cond.code y_Jo_put b_Jo_put 3 none :: gw) B.pre w (List.mem_cons_of_mem _ hw)
  have hown : s.vm.findClass "LineDisk$Journal" = some m.cls := findClass_of_methodNamed B.named
  have hlocks := B.notSynchronized
  have hin := (name_of_methodNamed B.named B.method).1
  subst hsz
  have hD := hD0.self (sz := s.heap.size)
  generalize hAe : va_A [(h0, .inr (2, [.ref jr, .ref jh, .int (nI jt)])), (jr, .inl (cR, 96, .inl ro)), (jh, .inl (cH, 16, .inl hd))] s.heap.size = A at hD ⊢
  have hA : ∀ q : Nat, s.heap.size ≤ q → A q := fun q h => by rw [← hAe]; exact Or.inr h
  have hS : va_S A s.heap s.heap [] := va_S.rf
  have hl := lv_entry ([.ref h0, .int x, .int v]) (n := 3) (Nat.le_of_ble_eq_true rfl)
  rw [lg_entry_eq]
  generalize (lg_sl ([.ref h0, .int x, .int v]) ++ List.replicate (3 - (lg_sl ([.ref h0, .int x, .int v])).length) Slot.unset).toArray = ls at hl ⊢
  have hl : lv_has ls 3 [(0, .ref h0), (1, .int x), (2, .int v)] := hl
  have F : CallFix p m c b_Jo_put 3 s ([.ref h0, .int x, .int v]).toArray gw "LineDisk$Journal" := ⟨hx, hb, hml, hown, hts⟩
  refine lv_iload_n hx hb d_Jo_put_0 rfl (lv_at hl 1 rfl) ?_
  refine lv_if_lt (tgt := 20) hx hb d_Jo_put_1 (by decide) (fun c1 => ?_) (fun c1 => ?_)
  · skip
    refine W.widen (k := 0) (n := 0) (by decide) (by decide) ?_
    exact W.vret hx hb hr (fun t ht hW => ⟨⟨ro, rfl, by (simp only [putv, c1, if_true, if_false, not_true_eq_false, not_false_eq_true, ite_not] <;> try simp), cB.of (hP.sub [0, 1, 2] rfl) (hD.sub [0, 1, 2] (by decide) rfl) (hK.sub [0, 1] rfl) ht hW⟩, hS.F ht⟩) hS.2.2 d_Jo_put_20
  · skip
    refine lv_iload_n hx hb d_Jo_put_4 rfl (lv_at hl 1 rfl) ?_
    refine lv_aload_n hx hb d_Jo_put_5 rfl (lv_at hl 0 rfl) ?_
    refine va_get (D := (dC, dI)) (ci := 2) (v := .ref jr) (C := R_Jo) (T := F_Jo) (N := 3) hx hb hts in_Jo hown hK hP 0 rfl rfl 0 (by decide) (hts _ w_52) (fun _ h9 => h9) rfl d_Jo_put_6 ?_
    refine va_alen (v := 96) hx hb hK hP 1 0 rfl rfl rfl d_Jo_put_9 ?_
    refine lv_icmp_ge (tgt := 20) hx hb d_Jo_put_10 (by decide) (fun c10 => ?_) (fun c10 => ?_)
    · skip
      refine W.widen (k := 0) (n := 0) (by decide) (by decide) ?_
      exact W.vret hx hb hr (fun t ht hW => ⟨⟨ro, rfl, by (simp only [putv, c1, c10, if_true, if_false, not_true_eq_false, not_false_eq_true, ite_not] <;> try simp), cB.of (hP.sub [0, 1, 2] rfl) (hD.sub [0, 1, 2] (by decide) rfl) (hK.sub [0, 1] rfl) ht hW⟩, hS.F ht⟩) hS.2.2 d_Jo_put_20
    · skip
      refine lv_aload_n hx hb d_Jo_put_13 rfl (lv_at hl 0 rfl) ?_
      refine va_get (D := (dC, dI)) (ci := 2) (v := .ref jr) (C := R_Jo) (T := F_Jo) (N := 3) hx hb hts in_Jo hown hK hP 0 rfl rfl 0 (by decide) (hts _ w_52) (fun _ h9 => h9) rfl d_Jo_put_14 ?_
      refine lv_iload_n hx hb d_Jo_put_17 rfl (lv_at hl 1 rfl) ?_
      refine lv_iload_n hx hb d_Jo_put_18 rfl (lv_at hl 2 rfl) ?_
      refine va_iast hx hb hK hP hD hS 1 0 rfl rfl (in96g c1 c10) d_Jo_put_19 (fun H locs hP hD hS => ?_)
      have hP : va_P (dC, dI) cls [(h0, .inr (2, [.ref jr, .ref jh, .int (nI jt)])), (jr, .inl (cR, 96, .inl (upd ro (x : Int32).toNatClampNeg v))), (jh, .inl (cH, 16, .inl hd))] H := hP
      have hD : va_D A [(h0, .inr (2, [.ref jr, .ref jh, .int (nI jt)])), (jr, .inl (cR, 96, .inl (upd ro (x : Int32).toNatClampNeg v))), (jh, .inl (cH, 16, .inl hd))] := hD
      refine W.widen (k := 0) (n := 0) (by decide) (by decide) ?_
      exact W.vret hx hb hr (fun t ht hW => ⟨⟨upd ro (x : Int32).toNatClampNeg v, rfl, by (simp only [putv, c1, c10, if_true, if_false, not_true_eq_false, not_false_eq_true, ite_not] <;> try simp), cB.of (hP.sub [0, 1, 2] rfl) (hD.sub [0, 1, 2] (by decide) rfl) (hK.sub [0, 1] rfl) ht hW⟩, hS.F ht⟩) hS.2.2 d_Jo_put_20
set_option maxHeartbeats 4000000 in
set_option maxRecDepth 100000 in
theorem g_Jo_takeEmpty1 (l : Launch) (dC : Nat → ClassId) (dI : Nat → Nat → Nat) (h0 jr jh : Nat) (cR cH : ClassId) (jt : Nat) (ro hd : Nat → Int32) (b : Int32) (ht : jt < 6) (sz : Nat) : Met l y_Jo_takeEmpty (Cond.code y_Jo_takeEmpty b_Jo_takeEmpty 2 none :: gw) ({ frames := 0, cells := 0, slots := 0, locals := 0 }) (cP (dC, dI) [.ref h0, .int b] sz [(h0, .inr (2, [.ref jr, .ref jh, .int (nI jt)])), (jr, .inl (cR, 96, .inl ro)), (jh, .inl (cH, 16, .inl hd))] [(cR, .int), (cH, .int)] xT) (va_Qv (fun (u : Unit) => True) (fun (u : Unit) t => cB (dC, dI) (va_A [(h0, .inr (2, [.ref jr, .ref jh, .int (nI jt)])), (jr, .inl (cR, 96, .inl ro)), (jh, .inl (cH, 16, .inl hd))] sz) [(h0, .inr (2, [.ref jr, .ref jh, .int (nI (jt + 1))])), (jr, .inl (cR, 96, .inl ro)), (jh, .inl (cH, 16, .inl (upd (upd hd 0 (nI (jt + 1))) (jt + 1) b)))] [(cR, .int), (cH, .int)] t) (va_A [(h0, .inr (2, [.ref jr, .ref jh, .int (nI jt)])), (jr, .inl (cR, 96, .inl ro)), (jh, .inl (cH, 16, .inl hd))] sz)) 0 0 (va_A [(h0, .inr (2, [.ref jr, .ref jh, .int (nI jt)])), (jr, .inl (cR, 96, .inl ro)), (jh, .inl (cH, 16, .inl hd))] sz) := by
  refine Met.ofW (cc := b_Jo_takeEmpty) (maxL := 2) (ret := none) (by decide) rfl ?_
  intro p e s m args below meth c s₁ B hml hv
  obtain ⟨rfl, hsz, hP, hK, hD0, hkw, hX⟩ := hv
  have hx := B.exec
  have hb := B.bytes
  have hr := B.returns
  have hts := fun w hw => atoms_spec (ws := Cond.code y_Jo_takeEmpty b_Jo_takeEmpty 2 none :: gw) B.pre w (List.mem_cons_of_mem _ hw)
  have hown : s.vm.findClass "LineDisk$Journal" = some m.cls := findClass_of_methodNamed B.named
  have hlocks := B.notSynchronized
  have hin := (name_of_methodNamed B.named B.method).1
  subst hsz
  have hD := hD0.self (sz := s.heap.size)
  generalize hAe : va_A [(h0, .inr (2, [.ref jr, .ref jh, .int (nI jt)])), (jr, .inl (cR, 96, .inl ro)), (jh, .inl (cH, 16, .inl hd))] s.heap.size = A at hD ⊢
  have hA : ∀ q : Nat, s.heap.size ≤ q → A q := fun q h => by rw [← hAe]; exact Or.inr h
  have hS : va_S A s.heap s.heap [] := va_S.rf
  have hl := lv_entry ([.ref h0, .int b]) (n := 2) (Nat.le_of_ble_eq_true rfl)
  rw [lg_entry_eq]
  generalize (lg_sl ([.ref h0, .int b]) ++ List.replicate (2 - (lg_sl ([.ref h0, .int b])).length) Slot.unset).toArray = ls at hl ⊢
  have hl : lv_has ls 2 [(0, .ref h0), (1, .int b)] := hl
  have F : CallFix p m c b_Jo_takeEmpty 2 s ([.ref h0, .int b]).toArray gw "LineDisk$Journal" := ⟨hx, hb, hml, hown, hts⟩
  refine lv_aload_n hx hb d_Jo_takeEmpty_0 rfl (lv_at hl 0 rfl) ?_
  refine va_get (D := (dC, dI)) (ci := 2) (v := .int (nI jt)) (C := R_Jo) (T := F_Jo) (N := 3) hx hb hts in_Jo hown hK hP 0 rfl rfl 2 (by decide) (hts _ w_54) (fun _ h9 => h9) rfl d_Jo_takeEmpty_1 ?_
  refine lv_bipush (v := 6) hx hb d_Jo_takeEmpty_4 (by decide) ?_
  refine lv_icmp_ge (tgt := 39) hx hb d_Jo_takeEmpty_6 (by decide) (fun h => absurd h (nI_ge (b := 6) ht (by decide))) (fun _ => ?_)
  refine lv_aload_n hx hb d_Jo_takeEmpty_9 rfl (lv_at hl 0 rfl) ?_
  refine lv_dup hx hb d_Jo_takeEmpty_10 rfl ?_
  refine va_get (D := (dC, dI)) (ci := 2) (v := .int (nI jt)) (C := R_Jo) (T := F_Jo) (N := 3) hx hb hts in_Jo hown hK hP 0 rfl rfl 2 (by decide) (hts _ w_54) (fun _ h9 => h9) rfl d_Jo_takeEmpty_11 ?_
  refine lv_iconst (v := 1) hx hb d_Jo_takeEmpty_14 (by decide) ?_
  refine lv_iadd hx hb d_Jo_takeEmpty_15 ?_
  refine tv (x2 := nI (jt + 1)) (by exact (nI_succ jt).symm) ?_
  refine va_put (D := (dC, dI)) (ci := 2) (v := .int (nI (jt + 1))) (ty := .int) (C := R_Jo) (T := F_Jo) (N := 3) hx hb hts in_Jo t_Jo t_Jo_ok n_Jo hown hK hP hD hS 0 rfl rfl 2 (by decide) (hts _ w_54) (fun _ h9 => h9) rfl (by decide +kernel) (rfl) (rfl) (Nat.le_of_ble_eq_true rfl) d_Jo_takeEmpty_16 (fun H locs hP hD hS => ?_)
  have hP : va_P (dC, dI) cls [(h0, .inr (2, [.ref jr, .ref jh, .int (nI (jt + 1))])), (jr, .inl (cR, 96, .inl ro)), (jh, .inl (cH, 16, .inl hd))] H := hP
  have hD : va_D A [(h0, .inr (2, [.ref jr, .ref jh, .int (nI (jt + 1))])), (jr, .inl (cR, 96, .inl ro)), (jh, .inl (cH, 16, .inl hd))] := hD
  refine lv_aload_n hx hb d_Jo_takeEmpty_19 rfl (lv_at hl 0 rfl) ?_
  refine va_get (D := (dC, dI)) (ci := 2) (v := .ref jh) (C := R_Jo) (T := F_Jo) (N := 3) hx hb hts in_Jo hown hK hP 0 rfl rfl 1 (by decide) (hts _ w_53) (fun _ h9 => h9) rfl d_Jo_takeEmpty_20 ?_
  refine lv_iconst (v := 0) hx hb d_Jo_takeEmpty_23 (by decide) ?_
  refine lv_aload_n hx hb d_Jo_takeEmpty_24 rfl (lv_at hl 0 rfl) ?_
  refine va_get (D := (dC, dI)) (ci := 2) (v := .int (nI (jt + 1))) (C := R_Jo) (T := F_Jo) (N := 3) hx hb hts in_Jo hown hK hP 0 rfl rfl 2 (by decide) (hts _ w_54) (fun _ h9 => h9) rfl d_Jo_takeEmpty_25 ?_
  refine va_iast hx hb hK hP hD hS 2 1 rfl rfl (vp_in_iff.mpr (by decide)) d_Jo_takeEmpty_28 (fun H locs hP hD hS => ?_)
  have hP : va_P (dC, dI) cls [(h0, .inr (2, [.ref jr, .ref jh, .int (nI (jt + 1))])), (jr, .inl (cR, 96, .inl ro)), (jh, .inl (cH, 16, .inl (upd hd (0 : Int32).toNatClampNeg (nI (jt + 1)))))] H := hP
  have hD : va_D A [(h0, .inr (2, [.ref jr, .ref jh, .int (nI (jt + 1))])), (jr, .inl (cR, 96, .inl ro)), (jh, .inl (cH, 16, .inl (upd hd (0 : Int32).toNatClampNeg (nI (jt + 1)))))] := hD
  refine lv_aload_n hx hb d_Jo_takeEmpty_29 rfl (lv_at hl 0 rfl) ?_
  refine va_get (D := (dC, dI)) (ci := 2) (v := .ref jh) (C := R_Jo) (T := F_Jo) (N := 3) hx hb hts in_Jo hown hK hP 0 rfl rfl 1 (by decide) (hts _ w_53) (fun _ h9 => h9) rfl d_Jo_takeEmpty_30 ?_
  refine lv_aload_n hx hb d_Jo_takeEmpty_33 rfl (lv_at hl 0 rfl) ?_
  refine va_get (D := (dC, dI)) (ci := 2) (v := .int (nI (jt + 1))) (C := R_Jo) (T := F_Jo) (N := 3) hx hb hts in_Jo hown hK hP 0 rfl rfl 2 (by decide) (hts _ w_54) (fun _ h9 => h9) rfl d_Jo_takeEmpty_34 ?_
  refine lv_iload_n hx hb d_Jo_takeEmpty_37 rfl (lv_at hl 1 rfl) ?_
  refine va_iast hx hb hK hP hD hS 2 1 rfl rfl (vp_in_nI (by omega) (by decide)) d_Jo_takeEmpty_38 (fun H locs hP hD hS => ?_)
  have hP : va_P (dC, dI) cls [(h0, .inr (2, [.ref jr, .ref jh, .int (nI (jt + 1))])), (jr, .inl (cR, 96, .inl ro)), (jh, .inl (cH, 16, .inl (upd (upd hd (0 : Int32).toNatClampNeg (nI (jt + 1))) (nI (jt + 1) : Int32).toNatClampNeg b)))] H := hP
  have hD : va_D A [(h0, .inr (2, [.ref jr, .ref jh, .int (nI (jt + 1))])), (jr, .inl (cR, 96, .inl ro)), (jh, .inl (cH, 16, .inl (upd (upd hd (0 : Int32).toNatClampNeg (nI (jt + 1))) (nI (jt + 1) : Int32).toNatClampNeg b)))] := hD
  rw [nI_clamp (show jt + 1 < 2 ^ 31 by omega)] at hP hD
  have hP : va_P (dC, dI) cls [(h0, .inr (2, [.ref jr, .ref jh, .int (nI (jt + 1))])), (jr, .inl (cR, 96, .inl ro)), (jh, .inl (cH, 16, .inl (upd (upd hd 0 (nI (jt + 1))) (jt + 1) b)))] H := hP
  have hD : va_D A [(h0, .inr (2, [.ref jr, .ref jh, .int (nI (jt + 1))])), (jr, .inl (cR, 96, .inl ro)), (jh, .inl (cH, 16, .inl (upd (upd hd 0 (nI (jt + 1))) (jt + 1) b)))] := hD
  refine W.widen (k := 0) (n := 0) (by decide) (by decide) ?_
  exact W.vret hx hb hr (fun t ht hW => ⟨⟨(), rfl, trivial, cB.of (hP.sub [0, 1, 2] rfl) (hD.sub [0, 1, 2] (by decide) rfl) (hK.sub [0, 1] rfl) ht hW⟩, hS.F ht⟩) hS.2.2 d_Jo_takeEmpty_39
set_option maxHeartbeats 4000000 in
set_option maxRecDepth 100000 in
theorem g_Jo_takeEmpty2 (l : Launch) (dC : Nat → ClassId) (dI : Nat → Nat → Nat) (h0 jr jh : Nat) (cR cH : ClassId) (jt : Nat) (ro hd : Nat → Int32) (b : Int32) (ht : ¬ jt < 6) (ht2 : jt < 2 ^ 31) (sz : Nat) : Met l y_Jo_takeEmpty (Cond.code y_Jo_takeEmpty b_Jo_takeEmpty 2 none :: gw) ({ frames := 0, cells := 0, slots := 0, locals := 0 }) (cP (dC, dI) [.ref h0, .int b] sz [(h0, .inr (2, [.ref jr, .ref jh, .int (nI jt)])), (jr, .inl (cR, 96, .inl ro)), (jh, .inl (cH, 16, .inl hd))] [(cR, .int), (cH, .int)] xT) (va_Qv (fun (u : Unit) => True) (fun (u : Unit) t => cB (dC, dI) (va_A [(h0, .inr (2, [.ref jr, .ref jh, .int (nI jt)])), (jr, .inl (cR, 96, .inl ro)), (jh, .inl (cH, 16, .inl hd))] sz) [(h0, .inr (2, [.ref jr, .ref jh, .int (nI jt)])), (jr, .inl (cR, 96, .inl ro)), (jh, .inl (cH, 16, .inl hd))] [(cR, .int), (cH, .int)] t) (va_A [(h0, .inr (2, [.ref jr, .ref jh, .int (nI jt)])), (jr, .inl (cR, 96, .inl ro)), (jh, .inl (cH, 16, .inl hd))] sz)) 0 0 (va_A [(h0, .inr (2, [.ref jr, .ref jh, .int (nI jt)])), (jr, .inl (cR, 96, .inl ro)), (jh, .inl (cH, 16, .inl hd))] sz) := by
  refine Met.ofW (cc := b_Jo_takeEmpty) (maxL := 2) (ret := none) (by decide) rfl ?_
  intro p e s m args below meth c s₁ B hml hv
  obtain ⟨rfl, hsz, hP, hK, hD0, hkw, hX⟩ := hv
  have hx := B.exec
  have hb := B.bytes
  have hr := B.returns
  have hts := fun w hw => atoms_spec (ws := Cond.code y_Jo_takeEmpty b_Jo_takeEmpty 2 none :: gw) B.pre w (List.mem_cons_of_mem _ hw)
  have hown : s.vm.findClass "LineDisk$Journal" = some m.cls := findClass_of_methodNamed B.named
  have hlocks := B.notSynchronized
  have hin := (name_of_methodNamed B.named B.method).1
  subst hsz
  have hD := hD0.self (sz := s.heap.size)
  generalize hAe : va_A [(h0, .inr (2, [.ref jr, .ref jh, .int (nI jt)])), (jr, .inl (cR, 96, .inl ro)), (jh, .inl (cH, 16, .inl hd))] s.heap.size = A at hD ⊢
  have hA : ∀ q : Nat, s.heap.size ≤ q → A q := fun q h => by rw [← hAe]; exact Or.inr h
  have hS : va_S A s.heap s.heap [] := va_S.rf
  have hl := lv_entry ([.ref h0, .int b]) (n := 2) (Nat.le_of_ble_eq_true rfl)
  rw [lg_entry_eq]
  generalize (lg_sl ([.ref h0, .int b]) ++ List.replicate (2 - (lg_sl ([.ref h0, .int b])).length) Slot.unset).toArray = ls at hl ⊢
  have hl : lv_has ls 2 [(0, .ref h0), (1, .int b)] := hl
  have F : CallFix p m c b_Jo_takeEmpty 2 s ([.ref h0, .int b]).toArray gw "LineDisk$Journal" := ⟨hx, hb, hml, hown, hts⟩
  refine lv_aload_n hx hb d_Jo_takeEmpty_0 rfl (lv_at hl 0 rfl) ?_
  refine va_get (D := (dC, dI)) (ci := 2) (v := .int (nI jt)) (C := R_Jo) (T := F_Jo) (N := 3) hx hb hts in_Jo hown hK hP 0 rfl rfl 2 (by decide) (hts _ w_54) (fun _ h9 => h9) rfl d_Jo_takeEmpty_1 ?_
  refine lv_bipush (v := 6) hx hb d_Jo_takeEmpty_4 (by decide) ?_
  refine lv_icmp_ge (tgt := 39) hx hb d_Jo_takeEmpty_6 (by decide) (fun _ => ?_) (fun h => absurd (nI_le (a := 6) (by omega) ht2) h)
  refine W.widen (k := 0) (n := 0) (by decide) (by decide) ?_
  exact W.vret hx hb hr (fun t ht hW => ⟨⟨(), rfl, trivial, cB.of (hP.sub [0, 1, 2] rfl) (hD.sub [0, 1, 2] (by decide) rfl) (hK.sub [0, 1] rfl) ht hW⟩, hS.F ht⟩) hS.2.2 d_Jo_takeEmpty_39
