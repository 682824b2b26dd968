/-- what recovery does of the log: block by block, as many as the log says, at most 6 -/
def rpl (q0 : DS) : Nat → Int32 × DS
  | 0 => (1, q0)
  | k + 1 => if (rpl q0 k).1 = 0 then rpl q0 k else wrD (rpl q0 k).2 512 (rpl q0 k).2.2.2.2 (cellv (rpl q0 k).2.2.2.2 (33 + nI k)) ((3 + nI k) * 16)
theorem rpl_stuck {q : DS} {k : Nat} (h : (rpl q k).1 = 0) : ∀ n, rpl q (k + n) = rpl q k
  | 0 => rfl
  | n + 1 => by
    show (if (rpl q (k + n)).1 = 0 then rpl q (k + n) else _) = _
    rw [rpl_stuck h n, if_pos h]
def rpn (lg : Int32) : Nat := if lg.toNatClampNeg < 6 then lg.toNatClampNeg else 6
def rpy (e0 : Nat → Int32) (q : DS) : Int32 × DS :=
  if cellv q.2.2.2 32 = 0 then (1, q) else
  if (rpl q (rpn (cellv q.2.2.2 32))).1 = 0 then (0, (rpl q (rpn (cellv q.2.2.2 32))).2) else
  if (wrD (rpl q (rpn (cellv q.2.2.2 32))).2 16 e0 2 0).1 = 0 then (0, (wrD (rpl q (rpn (cellv q.2.2.2 32))).2 16 e0 2 0).2) else (1, (wrD (rpl q (rpn (cellv q.2.2.2 32))).2 16 e0 2 0).2)
theorem rpn_le (lg : Int32) : rpn lg ≤ 6 := by unfold rpn; split <;> omega
theorem rpn_lt {lg : Int32} {k : Nat} (h : k < rpn lg) : ¬ lg ≤ nI k := by
  have h6 : k < 6 := Nat.lt_of_lt_of_le h (rpn_le lg)
  unfold rpn at h
  intro g
  by_cases h0 : lg < 0
  · have : lg.toNatClampNeg = 0 := by
      rw [Int32.lt_iff_toInt_lt] at h0
      have e : (0 : Int32).toInt = 0 := by decide
      rw [e] at h0
      show lg.toInt.toNat = 0
      omega
    rw [this] at h
    simp at h
  · obtain ⟨j, hj, rfl⟩ := nI_of h0
    rw [nI_clamp hj] at h
    rw [nI_leI hj (by omega)] at g
    split at h <;> omega
theorem rpn_ge {lg : Int32} (h : ¬ lg ≤ nI (rpn lg)) : 6 ≤ rpn lg := by
  unfold rpn at *
  by_cases h0 : lg < 0
  · exfalso
    apply h
    split
    · rename_i h1
      exact Int32.le_of_lt (Int32.lt_of_lt_of_le h0 (nI_pos' (by omega)))
    · exact Int32.le_of_lt (Int32.lt_of_lt_of_le h0 (nI_pos' (by decide)))
  · obtain ⟨j, hj, rfl⟩ := nI_of h0
    rw [nI_clamp hj] at h ⊢
    by_cases hj6 : j < 6
    · rw [if_pos hj6] at h
      exact absurd (nI_le (Nat.le_refl _) hj) h
    · rw [if_neg hj6]; exact Nat.le_refl _
set_option maxHeartbeats 4000000 in
set_option maxRecDepth 100000 in
theorem lp_Jo_replay {p : Program} {l : Launch} {e : Env} {R : Room} {s : State} {m : MethodId} {args : Array Value} {below : List Frame} {meth : Method} {c : Code} {cells slots : Nat} {Q : State → Prop} {A : Nat → Prop} {dC : Nat → ClassId} {dI : Nat → Nat → Nat} (hx : p.tables.exec = Jvm.exec) (hb : c.code = b_Jo_replay) (hml : c.maxLocals = 6) (hts : ∀ w ∈ gw, w.before args s = true) (hown : s.vm.findClass "LineDisk$Journal" = some m.cls) (hkw : kw s) (hA : ∀ q : Nat, s.heap.size ≤ q → A q) (h0 jr jh : Nat) (jt : Nat) (s0 c0 : Nat) (cA : ClassId) (q0 : DS) (lg : Int32) (hK0 : va_K (dC, dI) cls [(cA, .int)] s) (hRf : 3 ≤ R.frames) (hRl : 145 ≤ R.locals) (hRc : cells ≤ R.cells) (hRs : slots ≤ R.slots)  (k_65 : ∀ (k : Nat), k ≤ (rpn lg) → ∀ (ls : Array Slot) (H : Heap) (locs : List Loc) (mv : Int32) (ar : Int32) (de : Int32) (wr : Int32) (g : Nat → Int32), lv_has ls 6 [(4, .int mv), (0, .ref h0), (1, .ref s0)] → va_P (dC, dI) cls [(h0, .inr (2, [.ref jr, .ref jh, .int (nI jt)])), (s0, .inr (1, [.ref c0, .int ar, .int de, .int wr])), (c0, .inl (cA, 512, .inl g))] H → va_D A [(h0, .inr (2, [.ref jr, .ref jh, .int (nI jt)])), (s0, .inr (1, [.ref c0, .int ar, .int de, .int wr])), (c0, .inl (cA, 512, .inl g))] → va_S A s.heap H locs → ((mv, ar, de, wr, g) = rpl q0 (rpn lg)) → W p l e R s m args below meth c H locs cells slots Q (F0 m 65 ls [])) : ∀ (j k : Nat), k + j = (rpn lg) → ∀ (ls : Array Slot) (H : Heap) (locs : List Loc) (mv : Int32) (ar : Int32) (de : Int32) (wr : Int32) (g : Nat → Int32), lv_has ls 6 [(5, .int (nI k)), (4, .int mv), (3, .int lg), (2, .int 32), (0, .ref h0), (1, .ref s0)] → va_P (dC, dI) cls [(h0, .inr (2, [.ref jr, .ref jh, .int (nI jt)])), (s0, .inr (1, [.ref c0, .int ar, .int de, .int wr])), (c0, .inl (cA, 512, .inl g))] H → va_D A [(h0, .inr (2, [.ref jr, .ref jh, .int (nI jt)])), (s0, .inr (1, [.ref c0, .int ar, .int de, .int wr])), (c0, .inl (cA, 512, .inl g))] → va_S A s.heap H locs → ((mv, ar, de, wr, g) = rpl q0 k) → W p l e R s m args below meth c H locs cells slots Q (F0 m 21 ls []) := by
  have F : CallFix p m c b_Jo_replay 6 s args gw "LineDisk$Journal" := ⟨hx, hb, hml, hown, hts⟩
  intro j
  induction j with
  | zero =>
    intro k hk ls H locs mv ar de wr g hl hP hD hS hf
    have hK := hK0
    have hkN : k = (rpn lg) := by omega
    refine lv_iload hx hb d_Jo_replay_21 (lv_at hl 1 rfl) ?_
    refine lv_if_eq (tgt := 65) hx hb d_Jo_replay_23 (by decide) (fun c23 => ?_) (fun c23 => ?_)
    · skip
      exact k_65 k (by omega) ls _ _ mv ar de wr g (lv_sub hl [1, 4, 5] rfl) (hP.sub [0, 1, 2] rfl) (hD.sub [0, 1, 2] (by decide) rfl) hS (by rw [hkN] at hf; exact hf)
    · skip
      refine lv_iload hx hb d_Jo_replay_26 (lv_at hl 0 rfl) ?_
      refine lv_iload_n hx hb d_Jo_replay_28 rfl (lv_at hl 2 rfl) ?_
      refine lv_icmp_ge (tgt := 65) hx hb d_Jo_replay_29 (by decide) (fun c29 => ?_) (fun c29 => ?_)
      · skip
        exact k_65 k (by omega) ls _ _ mv ar de wr g (lv_sub hl [1, 4, 5] rfl) (hP.sub [0, 1, 2] rfl) (hD.sub [0, 1, 2] (by decide) rfl) hS (by rw [hkN] at hf; exact hf)
      · skip
        refine lv_iload hx hb d_Jo_replay_32 (lv_at hl 0 rfl) ?_
        refine lv_bipush (v := 6) hx hb d_Jo_replay_34 (by decide) ?_
        refine lv_icmp_ge (tgt := 65) hx hb d_Jo_replay_36 (by decide) (fun _ => ?_) (fun h => absurd (by have h9 := rpn_le lg; rw [hkN] at c29 ⊢; exact nI_le (a := 6) (rpn_ge c29) (by omega)) h)
        exact k_65 k (by omega) ls _ _ mv ar de wr g (lv_sub hl [1, 4, 5] rfl) (hP.sub [0, 1, 2] rfl) (hD.sub [0, 1, 2] (by decide) rfl) hS (by rw [hkN] at hf; exact hf)
  | succ j ih =>
    intro k hk ls H locs mv ar de wr g hl hP hD hS hf
    have hK := hK0
    have hkN : k < (rpn lg) := by omega
    refine lv_iload hx hb d_Jo_replay_21 (lv_at hl 1 rfl) ?_
    refine lv_if_eq (tgt := 65) hx hb d_Jo_replay_23 (by decide) (fun c23 => ?_) (fun c23 => ?_)
    · skip
      exact k_65 k (by omega) ls _ _ mv ar de wr g (lv_sub hl [1, 4, 5] rfl) (hP.sub [0, 1, 2] rfl) (hD.sub [0, 1, 2] (by decide) rfl) hS (by
        have h0 : (rpl q0 k).1 = 0 := by rw [← hf]; exact c23
        have h1 := rpl_stuck h0 (rpn lg - k)
        rw [Nat.add_sub_cancel' (Nat.le_of_lt hkN)] at h1
        rw [h1]; exact hf)
    · skip
      refine lv_iload hx hb d_Jo_replay_26 (lv_at hl 0 rfl) ?_
      refine lv_iload_n hx hb d_Jo_replay_28 rfl (lv_at hl 2 rfl) ?_
      refine lv_icmp_ge (tgt := 65) hx hb d_Jo_replay_29 (by decide) (fun h => absurd h (rpn_lt hkN)) (fun _ => ?_)
      refine lv_iload hx hb d_Jo_replay_32 (lv_at hl 0 rfl) ?_
      refine lv_bipush (v := 6) hx hb d_Jo_replay_34 (by decide) ?_
      refine lv_icmp_ge (tgt := 65) hx hb d_Jo_replay_36 (by decide) (fun h => absurd h (nI_ge (b := 6) (by have := rpn_le lg; omega) (by decide))) (fun _ => ?_)
      refine lv_aload_n hx hb d_Jo_replay_39 rfl (lv_at hl 5 rfl) ?_
      refine lv_iconst (v := 3) hx hb d_Jo_replay_40 (by decide) ?_
      refine lv_iload hx hb d_Jo_replay_41 (lv_at hl 0 rfl) ?_
      refine lv_iadd hx hb d_Jo_replay_43 ?_
      refine lv_aload_n hx hb d_Jo_replay_44 rfl (lv_at hl 5 rfl) ?_
      refine lv_iload_n hx hb d_Jo_replay_45 rfl (lv_at hl 3 rfl) ?_
      refine lv_iconst (v := 1) hx hb d_Jo_replay_46 (by decide) ?_
      refine lv_iadd hx hb d_Jo_replay_47 ?_
      refine tv (x2 := 33) (by decide) ?_
      refine lv_iload hx hb d_Jo_replay_48 (lv_at hl 0 rfl) ?_
      refine lv_iadd hx hb d_Jo_replay_50 ?_
      refine go_i (wr := [(h0, .inr (2, [.ref jr, .ref jh, .int (nI jt)]))]) (tr := []) (rV (C := "LineDisk$Store") (ci := 1) (q0 := 0) (b := s0) (n := 1) (As := [.int (33 + (nI k))]) (rest := [.int (3 + (nI k)), .ref s0]) F hkw (g_St_cell l dC dI s0 c0 cA ar de wr g (33 + nI k) H.size) xT_bl (fun _ _ _ => trivial) w_209 w_210 w_211 w_2 w_212 rfl rfl (by decide +kernel) ⟨Nat.le_trans (by decide) hRf, Nat.le_trans (by decide) hRl⟩ (hP.sub (ws' := [(s0, .inr (1, [.ref c0, .int ar, .int de, .int wr])), (c0, .inl (cA, 512, .inl g))]) [1, 2] rfl) (hD.sub (ws' := [(s0, .inr (1, [.ref c0, .int ar, .int de, .int wr])), (c0, .inl (cA, 512, .inl g))]) [1, 2] (by decide) rfl) (hK.sub (tys' := [(cA, .int)]) [0] rfl) rfl rfl rfl rfl hl.1 rfl (Nat.le_of_ble_eq_true rfl) d_Jo_replay_51 ⟨hRc, hRs⟩) hP hD hK hS hA [1, 2] [0] [] rfl rfl (by decide) (by decide) rfl (fun r u H locs hw hP hD hK hS => ?_)
      have hP : va_P (dC, dI) cls [(h0, .inr (2, [.ref jr, .ref jh, .int (nI jt)])), (s0, .inr (1, [.ref c0, .int ar, .int de, .int wr])), (c0, .inl (cA, 512, .inl g))] H := hP
      have hD : va_D A [(h0, .inr (2, [.ref jr, .ref jh, .int (nI jt)])), (s0, .inr (1, [.ref c0, .int ar, .int de, .int wr])), (c0, .inl (cA, 512, .inl g))] := hD
      have hK : va_K (dC, dI) cls [(cA, .int)] s := hK
      refine W.widen (k := cells) (n := slots) (Nat.le_refl _) (Nat.le_refl _) ?_
      subst hw
      refine go_i (wr := [(h0, .inr (2, [.ref jr, .ref jh, .int (nI jt)]))]) (tr := []) (rV (C := "LineDisk$Store") (ci := 1) (q0 := 0) (b := s0) (n := 2) (As := [.int (3 + (nI k)), .int (cellv g (33 + nI k))]) (rest := []) F hkw (g_St_copyBlock l dC dI s0 c0 cA ar de wr g (3 + nI k) (cellv g (33 + nI k)) H.size) xT_bl (fun _ _ _ => trivial) w_213 w_214 w_215 w_2 w_216 rfl rfl (by decide +kernel) ⟨Nat.le_trans (by decide) hRf, Nat.le_trans (by decide) hRl⟩ (hP.sub (ws' := [(s0, .inr (1, [.ref c0, .int ar, .int de, .int wr])), (c0, .inl (cA, 512, .inl g))]) [1, 2] rfl) (hD.sub (ws' := [(s0, .inr (1, [.ref c0, .int ar, .int de, .int wr])), (c0, .inl (cA, 512, .inl g))]) [1, 2] (by decide) rfl) (hK.sub (tys' := [(cA, .int)]) [0] rfl) rfl rfl rfl rfl hl.1 rfl (Nat.le_of_ble_eq_true rfl) d_Jo_replay_54 ⟨hRc, hRs⟩) hP hD hK hS hA [1, 2] [0] [] rfl rfl (by decide) (by decide) rfl (fun r uu H locs hw hP hD hK hS => ?_)
      have hP : va_P (dC, dI) cls [(h0, .inr (2, [.ref jr, .ref jh, .int (nI jt)])), (s0, .inr (1, [.ref c0, .int uu.1, .int uu.2.1, .int uu.2.2.1])), (c0, .inl (cA, 512, .inl uu.2.2.2))] H := hP
      have hD : va_D A [(h0, .inr (2, [.ref jr, .ref jh, .int (nI jt)])), (s0, .inr (1, [.ref c0, .int uu.1, .int uu.2.1, .int uu.2.2.1])), (c0, .inl (cA, 512, .inl uu.2.2.2))] := hD
      have hK : va_K (dC, dI) cls [(cA, .int)] s := hK
      refine W.widen (k := cells) (n := slots) (Nat.le_refl _) (Nat.le_refl _) ?_
      refine lv_istore hx hb d_Jo_replay_57 hl (by decide) rfl (fun ls hl => ?_)
      have hl : lv_has ls 6 [(4, .int r), (5, .int (nI k)), (3, .int lg), (2, .int 32), (0, .ref h0), (1, .ref s0)] := hl
      refine lv_iinc (k := 1) (v := nI (k + 1)) hx hb d_Jo_replay_59 hl rfl (by rw [lit1]; exact (nI_succ k).symm) (by decide) rfl (fun ls hl => ?_)
      have hl : lv_has ls 6 [(5, .int (nI (k + 1))), (4, .int r), (3, .int lg), (2, .int 32), (0, .ref h0), (1, .ref s0)] := hl
      refine lv_goto (tgt := 21) hx hb d_Jo_replay_62 (by decide) ?_
      exact ih (k + 1) (by omega) ls _ _ r uu.1 uu.2.1 uu.2.2.1 uu.2.2.2 (lv_sub hl [0, 1, 2, 3, 4, 5] rfl) (hP.sub [0, 1, 2] rfl) (hD.sub [0, 1, 2] (by decide) rfl) hS (by
        show (r, uu) = (if (rpl q0 k).1 = 0 then rpl q0 k else _)
        rw [← hf, if_neg c23]; exact hw)
set_option maxHeartbeats 4000000 in
set_option maxRecDepth 100000 in
theorem g_Jo_replay (l : Launch) (dC : Nat → ClassId) (dI : Nat → Nat → Nat) (h0 jr jh : Nat) (jt : Nat) (s0 c0 : Nat) (cA : ClassId) (ar de wr : Int32) (g : Nat → Int32) (t1 : Nat) (e0 : Nat → Int32) (sz : Nat) : Met l y_Jo_replay (Cond.code y_Jo_replay b_Jo_replay 6 (some .boolean) :: gw) ({ frames := 3, cells := 0, slots := 0, locals := 145 }) (cP (dC, dI) [.ref h0, .ref s0] sz [(h0, .inr (2, [.ref jr, .ref jh, .int (nI jt)])), (s0, .inr (1, [.ref c0, .int ar, .int de, .int wr])), (c0, .inl (cA, 512, .inl g))] [(cA, .int)] (xZ t1 e0 [(h0, .inr (2, [.ref jr, .ref jh, .int (nI jt)])), (s0, .inr (1, [.ref c0, .int ar, .int de, .int wr])), (c0, .inl (cA, 512, .inl g))])) (va_Qi (fun (r : Int32) (u : DS) => (r, u) = rpy e0 (ar, de, wr, g)) (fun (u : DS) t => cB (dC, dI) (va_A [(h0, .inr (2, [.ref jr, .ref jh, .int (nI jt)])), (s0, .inr (1, [.ref c0, .int ar, .int de, .int wr])), (c0, .inl (cA, 512, .inl g))] sz) [(h0, .inr (2, [.ref jr, .ref jh, .int (nI jt)])), (s0, .inr (1, [.ref c0, .int u.1, .int u.2.1, .int u.2.2.1])), (c0, .inl (cA, 512, .inl u.2.2.2))] [(cA, .int)] t) (va_A [(h0, .inr (2, [.ref jr, .ref jh, .int (nI jt)])), (s0, .inr (1, [.ref c0, .int ar, .int de, .int wr])), (c0, .inl (cA, 512, .inl g))] sz)) 0 0 (va_A [(h0, .inr (2, [.ref jr, .ref jh, .int (nI jt)])), (s0, .inr (1, [.ref c0, .int ar, .int de, .int wr])), (c0, .inl (cA, 512, .inl g))] sz) := by
  refine Met.ofW (cc := b_Jo_replay) (maxL := 6) (ret := (some .boolean)) (by decide) rfl ?_
  intro p e s m args below meth c s₁ B hml hv
  obtain ⟨rfl, hsz, hP, hK, hD0, hkw, hX⟩ := hv
  have hx := B.exec
  have hb := B.bytes
  have hr := B.returns
  have hts := fun w hw => atoms_spec (ws := Cond.code y_Jo_replay b_Jo_replay 6 (some .boolean) :: gw) B.pre w (List.mem_cons_of_mem _ hw)
  have hown : s.vm.findClass "LineDisk$Journal" = some m.cls := findClass_of_methodNamed B.named
  have hlocks := B.notSynchronized
  have hin := (name_of_methodNamed B.named B.method).1
  subst hsz
  have hD := hD0.self (sz := s.heap.size)
  generalize hAe : va_A [(h0, .inr (2, [.ref jr, .ref jh, .int (nI jt)])), (s0, .inr (1, [.ref c0, .int ar, .int de, .int wr])), (c0, .inl (cA, 512, .inl g))] s.heap.size = A at hD ⊢
  have hA : ∀ q : Nat, s.heap.size ≤ q → A q := fun q h => by rw [← hAe]; exact Or.inr h
  have hS : va_S A s.heap s.heap [] := va_S.rf
  have hl := lv_entry ([.ref h0, .ref s0]) (n := 6) (Nat.le_of_ble_eq_true rfl)
  rw [lg_entry_eq]
  generalize (lg_sl ([.ref h0, .ref s0]) ++ List.replicate (6 - (lg_sl ([.ref h0, .ref s0])).length) Slot.unset).toArray = ls at hl ⊢
  have hl : lv_has ls 6 [(0, .ref h0), (1, .ref s0)] := hl
  have F : CallFix p m c b_Jo_replay 6 s ([.ref h0, .ref s0]).toArray gw "LineDisk$Journal" := ⟨hx, hb, hml, hown, hts⟩
  obtain ⟨hz1, hx1, hl1, hn1⟩ := hX
  rw [hAe] at hz1 hn1
  refine lv_bipush (v := 32) hx hb d_Jo_replay_0 (by decide) ?_
  refine lv_istore_n (i := 2) hx hb d_Jo_replay_2 rfl hl (by decide) rfl (fun ls hl => ?_)
  have hl : lv_has ls 6 [(2, .int 32), (0, .ref h0), (1, .ref s0)] := hl
  refine lv_aload_n hx hb d_Jo_replay_3 rfl (lv_at hl 2 rfl) ?_
  refine lv_iload_n hx hb d_Jo_replay_4 rfl (lv_at hl 0 rfl) ?_
  refine go_i (wr := [(h0, .inr (2, [.ref jr, .ref jh, .int (nI jt)]))]) (tr := []) (rV (C := "LineDisk$Store") (ci := 1) (q0 := 0) (b := s0) (n := 1) (As := [.int 32]) (rest := []) F hkw (g_St_cell l dC dI s0 c0 cA ar de wr g 32 s.heap.size) xT_bl (fun _ _ _ => trivial) w_209 w_210 w_211 w_2 w_212 rfl rfl (by decide +kernel) ⟨Nat.le_of_ble_eq_true rfl, Nat.le_of_ble_eq_true rfl⟩ (hP.sub (ws' := [(s0, .inr (1, [.ref c0, .int ar, .int de, .int wr])), (c0, .inl (cA, 512, .inl g))]) [1, 2] rfl) (hD.sub (ws' := [(s0, .inr (1, [.ref c0, .int ar, .int de, .int wr])), (c0, .inl (cA, 512, .inl g))]) [1, 2] (by decide) rfl) (hK.sub (tys' := [(cA, .int)]) [0] rfl) rfl rfl rfl rfl hl.1 rfl (Nat.le_of_ble_eq_true rfl) d_Jo_replay_5 ⟨by decide, by decide⟩) hP hD hK hS hA [1, 2] [0] [] rfl rfl (by decide) (by decide) rfl (fun r u H locs hw hP hD hK hS => ?_)
  have hP : va_P (dC, dI) cls [(h0, .inr (2, [.ref jr, .ref jh, .int (nI jt)])), (s0, .inr (1, [.ref c0, .int ar, .int de, .int wr])), (c0, .inl (cA, 512, .inl g))] H := hP
  have hD : va_D A [(h0, .inr (2, [.ref jr, .ref jh, .int (nI jt)])), (s0, .inr (1, [.ref c0, .int ar, .int de, .int wr])), (c0, .inl (cA, 512, .inl g))] := hD
  have hK : va_K (dC, dI) cls [(cA, .int)] s := hK
  refine W.widen (k := 0) (n := 0) (by omega) (by omega) ?_
  subst hw
  refine lv_istore_n (i := 3) hx hb d_Jo_replay_8 rfl hl (by decide) rfl (fun ls hl => ?_)
  have hl : lv_has ls 6 [(3, .int (cellv g 32)), (2, .int 32), (0, .ref h0), (1, .ref s0)] := hl
  refine lv_iload_n hx hb d_Jo_replay_9 rfl (lv_at hl 0 rfl) ?_
  refine lv_if_ne (tgt := 15) hx hb d_Jo_replay_10 (by decide) (fun c10 => ?_) (fun c10 => ?_)
  · skip
    refine lv_iconst (v := 1) hx hb d_Jo_replay_15 (by decide) ?_
    refine lv_istore hx hb d_Jo_replay_16 hl (by decide) rfl (fun ls hl => ?_)
    have hl : lv_has ls 6 [(4, .int 1), (3, .int (cellv g 32)), (2, .int 32), (0, .ref h0), (1, .ref s0)] := hl
    refine lv_iconst (v := 0) hx hb d_Jo_replay_18 (by decide) ?_
    refine lv_istore hx hb d_Jo_replay_19 hl (by decide) rfl (fun ls hl => ?_)
    have hl : lv_has ls 6 [(5, .int 0), (4, .int 1), (3, .int (cellv g 32)), (2, .int 32), (0, .ref h0), (1, .ref s0)] := hl
    refine lp_Jo_replay hx hb hml hts hown hkw hA h0 jr jh jt s0 c0 cA (ar, de, wr, g) (cellv g 32) (hK.sub [0] rfl) (by decide) (by decide) (by decide) (by decide) (fun k _ ls H locs mb ar2 de2 wr2 g2 hl hP hD hS hf2 => ?_) (rpn (cellv g 32)) 0 (by omega) ls _ _ 1 ar de wr g (lv_sub hl [0, 1, 2, 3, 4, 5] rfl) (hP.sub [0, 1, 2] rfl) (hD.sub [0, 1, 2] (by decide) rfl) hS rfl
    refine lv_iload hx hb d_Jo_replay_65 (lv_at hl 0 rfl) ?_
    refine lv_if_eq (tgt := 86) hx hb d_Jo_replay_67 (by decide) (fun c67 => ?_) (fun c67 => ?_)
    · skip
      refine lv_iconst (v := 0) hx hb d_Jo_replay_86 (by decide) ?_
      refine W.widen (k := 0) (n := 0) (by decide) (by decide) ?_
      exact W.zret (v := 0) hx hb hr (rfl) (fun t ht hW => ⟨⟨0, (ar2, de2, wr2, g2), rfl, by
        unfold rpy
        rw [if_neg c10, ← hf2, if_pos c67], cB.of (hP.sub [0, 1, 2] rfl) (hD.sub [0, 1, 2] (by decide) rfl) (hK.sub [0] rfl) ht hW⟩, hS.F ht⟩) hS.2.2 d_Jo_replay_87
    · skip
      refine lv_aload_n hx hb d_Jo_replay_70 rfl (lv_at hl 2 rfl) ?_
      refine lv_iconst (v := 2) hx hb d_Jo_replay_71 (by decide) ?_
      refine va_getsN (C := "LineDisk") (host := "LineDisk") hx hb hz1 hS hown (hkw.use v_218 rfl) (fun _ h9 => h9) d_Jo_replay_72 ?_
      refine lv_iconst (v := 0) hx hb d_Jo_replay_75 (by decide) ?_
      refine go_i (wr := [(h0, .inr (2, [.ref jr, .ref jh, .int (nI jt)]))]) (tr := []) (rV (C := "LineDisk$Store") (ci := 1) (q0 := 0) (b := s0) (n := 3) (As := [.int 2, .ref t1, .int 0]) (rest := []) F hkw (g_St_write l dC dI s0 c0 cA ar2 de2 wr2 g2 t1 16 (e0) 2 0 (by decide) (by decide) H.size) xRn_bl (xRn_out hx1 hl1 hn1 hS hD (i := 1) (j := 2) rfl rfl) w_219 w_178 w_179 w_2 w_180 rfl rfl (by decide +kernel) ⟨Nat.le_of_ble_eq_true rfl, Nat.le_of_ble_eq_true rfl⟩ (hP.sub (ws' := [(s0, .inr (1, [.ref c0, .int ar2, .int de2, .int wr2])), (c0, .inl (cA, 512, .inl g2))]) [1, 2] rfl) (hD.sub (ws' := [(s0, .inr (1, [.ref c0, .int ar2, .int de2, .int wr2])), (c0, .inl (cA, 512, .inl g2))]) [1, 2] (by decide) rfl) (hK.sub (tys' := [(cA, .int)]) [0] rfl) rfl rfl rfl rfl hl.1 rfl (Nat.le_of_ble_eq_true rfl) d_Jo_replay_76 ⟨by decide, by decide⟩) hP hD hK hS hA [1, 2] [0] [] rfl rfl (by decide) (by decide) rfl (fun r3 u3 H locs p3 hP hD hK hS => ?_)
      have hP : va_P (dC, dI) cls [(h0, .inr (2, [.ref jr, .ref jh, .int (nI jt)])), (s0, .inr (1, [.ref c0, .int u3.1, .int u3.2.1, .int u3.2.2.1])), (c0, .inl (cA, 512, .inl u3.2.2.2))] H := hP
      have hD : va_D A [(h0, .inr (2, [.ref jr, .ref jh, .int (nI jt)])), (s0, .inr (1, [.ref c0, .int u3.1, .int u3.2.1, .int u3.2.2.1])), (c0, .inl (cA, 512, .inl u3.2.2.2))] := hD
      have hK : va_K (dC, dI) cls [(cA, .int)] s := hK
      refine W.widen (k := 0) (n := 0) (by omega) (by omega) ?_
      have p3 : (r3, u3) = wrD (ar2, de2, wr2, g2) 16 e0 2 0 := p3
      refine lv_if_eq (tgt := 86) hx hb d_Jo_replay_79 (by decide) (fun c79 => ?_) (fun c79 => ?_)
      · skip
        refine lv_iconst (v := 0) hx hb d_Jo_replay_86 (by decide) ?_
        refine W.widen (k := 0) (n := 0) (by decide) (by decide) ?_
        exact W.zret (v := 0) hx hb hr (rfl) (fun t ht hW => ⟨⟨0, (u3.1, u3.2.1, u3.2.2.1, u3.2.2.2), rfl, by
          unfold rpy
          rw [if_neg c10, ← hf2, if_neg c67, ← p3, if_pos c79], cB.of (hP.sub [0, 1, 2] rfl) (hD.sub [0, 1, 2] (by decide) rfl) (hK.sub [0] rfl) ht hW⟩, hS.F ht⟩) hS.2.2 d_Jo_replay_87
      · skip
        refine lv_iconst (v := 1) hx hb d_Jo_replay_82 (by decide) ?_
        refine lv_goto (tgt := 87) hx hb d_Jo_replay_83 (by decide) ?_
        refine W.widen (k := 0) (n := 0) (by decide) (by decide) ?_
        exact W.zret (v := 1) hx hb hr (rfl) (fun t ht hW => ⟨⟨1, (u3.1, u3.2.1, u3.2.2.1, u3.2.2.2), rfl, by
          unfold rpy
          rw [if_neg c10, ← hf2, if_neg c67, ← p3, if_neg c79], cB.of (hP.sub [0, 1, 2] rfl) (hD.sub [0, 1, 2] (by decide) rfl) (hK.sub [0] rfl) ht hW⟩, hS.F ht⟩) hS.2.2 d_Jo_replay_87
  · skip
    refine lv_iconst (v := 1) hx hb d_Jo_replay_13 (by decide) ?_
    refine W.widen (k := 0) (n := 0) (by decide) (by decide) ?_
    exact W.zret (v := 1) hx hb hr (rfl) (fun t ht hW => ⟨⟨1, (ar, de, wr, g), rfl, by
      unfold rpy
      rw [if_pos c10], cB.of (hP.sub [0, 1, 2] rfl) (hD.sub [0, 1, 2] (by decide) rfl) (hK.sub [0] rfl) ht hW⟩, hS.F ht⟩) hS.2.2 d_Jo_replay_14
