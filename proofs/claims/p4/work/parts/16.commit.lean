theorem pair5 {r r2 : Int32} {a b : DS} (h : (r, a) = (r2, b)) : r = r2 ∧ a = b := by cases h; exact ⟨rfl, rfl⟩
theorem wrD_b {q : DS} {n0 : Nat} {f : Nat → Int32} {bk fr : Int32} : (wrD q n0 f bk fr).1 = 0 ∨ (wrD q n0 f bk fr).1 = 1 := wrS_b rfl
set_option maxHeartbeats 4000000 in
set_option maxRecDepth 100000 in
theorem lp_Jo_commitA {p : Program} {l : Launch} {e : Env} {R : Room} {s : State} {m : MethodId} {args : Array Value} {below : List Frame} {meth : Method} {c : Code} {cells slots : Nat} {Q : State → Prop} {A : Nat → Prop} {dC : Nat → ClassId} {dI : Nat → Nat → Nat} (hx : p.tables.exec = Jvm.exec) (hb : c.code = b_Jo_commit) (hml : c.maxLocals = 4) (hts : ∀ w ∈ gw, w.before args s = true) (hown : s.vm.findClass "LineDisk$Journal" = some m.cls) (hkw : kw s) (hA : ∀ q : Nat, s.heap.size ≤ q → A q) (h0 jr jh : Nat) (cR cH : ClassId) (jt : Nat) (ro hd : Nat → Int32) (s0 c0 : Nat) (cA : ClassId) (q0 : DS) (hjt : jt ≤ 6) (hK0 : va_K (dC, dI) cls [(cR, .int), (cH, .int), (cA, .int)] s) (hRf : 2 ≤ R.frames) (hRl : 123 ≤ R.locals) (hRc : cells ≤ R.cells) (hRs : slots ≤ R.slots)  (k_38 : ∀ (k : Nat), k ≤ jt → ∀ (ls : Array Slot) (H : Heap) (locs : List Loc) (mv : Int32) (ar : Int32) (de : Int32) (wr : Int32) (g : Nat → Int32), lv_has ls 4 [(2, .int mv), (0, .ref h0), (1, .ref s0)] → va_P (dC, dI) cls [(h0, .inr (2, [.ref jr, .ref jh, .int (nI jt)])), (jr, .inl (cR, 96, .inl ro)), (jh, .inl (cH, 16, .inl hd)), (s0, .inr (1, [.ref c0, .int ar, .int de, .int wr])), (c0, .inl (cA, 512, .inl g))] H → va_D A [(h0, .inr (2, [.ref jr, .ref jh, .int (nI jt)])), (jr, .inl (cR, 96, .inl ro)), (jh, .inl (cH, 16, .inl hd)), (s0, .inr (1, [.ref c0, .int ar, .int de, .int wr])), (c0, .inl (cA, 512, .inl g))] → va_S A s.heap H locs → ((mv, ar, de, wr, g) = cmA ro q0 jt) → W p l e R s m args below meth c H locs cells slots Q (F0 m 38 ls [])) : ∀ (j k : Nat), k + j = jt → ∀ (ls : Array Slot) (H : Heap) (locs : List Loc) (mv : Int32) (ar : Int32) (de : Int32) (wr : Int32) (g : Nat → Int32), lv_has ls 4 [(3, .int (nI k)), (2, .int mv), (0, .ref h0), (1, .ref s0)] → va_P (dC, dI) cls [(h0, .inr (2, [.ref jr, .ref jh, .int (nI jt)])), (jr, .inl (cR, 96, .inl ro)), (jh, .inl (cH, 16, .inl hd)), (s0, .inr (1, [.ref c0, .int ar, .int de, .int wr])), (c0, .inl (cA, 512, .inl g))] H → va_D A [(h0, .inr (2, [.ref jr, .ref jh, .int (nI jt)])), (jr, .inl (cR, 96, .inl ro)), (jh, .inl (cH, 16, .inl hd)), (s0, .inr (1, [.ref c0, .int ar, .int de, .int wr])), (c0, .inl (cA, 512, .inl g))] → va_S A s.heap H locs → ((mv, ar, de, wr, g) = cmA ro q0 k) → W p l e R s m args below meth c H locs cells slots Q (F0 m 4 ls []) := by
  have F : CallFix p m c b_Jo_commit 4 s args gw "LineDisk$Journal" := ⟨hx, hb, hml, hown, hts⟩
  intro j
  induction j with
  | zero =>
    intro k hk ls H locs mv ar de wr g hl hP hD hS hf
    have hK := hK0
    have hkN : k = jt := by omega
    refine lv_iload_n hx hb d_Jo_commit_4 rfl (lv_at hl 1 rfl) ?_
    refine lv_if_eq (tgt := 38) hx hb d_Jo_commit_5 (by decide) (fun c5 => ?_) (fun c5 => ?_)
    · skip
      exact k_38 k (by omega) ls _ _ mv ar de wr g (lv_sub hl [1, 2, 3] rfl) (hP.sub [0, 1, 2, 3, 4] rfl) (hD.sub [0, 1, 2, 3, 4] (by decide) rfl) hS (by rw [hkN] at hf; exact hf)
    · skip
      refine lv_iload_n hx hb d_Jo_commit_8 rfl (lv_at hl 0 rfl) ?_
      refine lv_aload_n hx hb d_Jo_commit_9 rfl (lv_at hl 2 rfl) ?_
      refine va_get (D := (dC, dI)) (ci := 2) (v := .int (nI jt)) (C := R_Jo) (T := F_Jo) (N := 3) hx hb hts in_Jo hown hK hP 0 rfl rfl 2 (by decide) (hts _ w_54) (fun _ h9 => h9) rfl d_Jo_commit_10 ?_
      refine lv_icmp_ge (tgt := 38) hx hb d_Jo_commit_13 (by decide) (fun _ => ?_) (fun h => absurd (by rw [hkN]; exact nI_le (Nat.le_refl _) (by omega)) h)
      exact k_38 k (by omega) ls _ _ mv ar de wr g (lv_sub hl [1, 2, 3] rfl) (hP.sub [0, 1, 2, 3, 4] rfl) (hD.sub [0, 1, 2, 3, 4] (by decide) rfl) hS (by rw [hkN] at hf; exact hf)
  | succ j ih =>
    intro k hk ls H locs mv ar de wr g hl hP hD hS hf
    have hK := hK0
    have hkN : k < jt := by omega
    refine lv_iload_n hx hb d_Jo_commit_4 rfl (lv_at hl 1 rfl) ?_
    refine lv_if_eq (tgt := 38) hx hb d_Jo_commit_5 (by decide) (fun c5 => ?_) (fun c5 => ?_)
    · skip
      exact k_38 k (by omega) ls _ _ mv ar de wr g (lv_sub hl [1, 2, 3] rfl) (hP.sub [0, 1, 2, 3, 4] rfl) (hD.sub [0, 1, 2, 3, 4] (by decide) rfl) hS (by
        have h0 : (cmA ro q0 k).1 = 0 := by rw [← hf]; exact c5
        have h1 := cmA_stuck h0 (jt - k)
        rw [Nat.add_sub_cancel' (Nat.le_of_lt hkN)] at h1
        rw [h1]; exact hf)
    · skip
      refine lv_iload_n hx hb d_Jo_commit_8 rfl (lv_at hl 0 rfl) ?_
      refine lv_aload_n hx hb d_Jo_commit_9 rfl (lv_at hl 2 rfl) ?_
      refine va_get (D := (dC, dI)) (ci := 2) (v := .int (nI jt)) (C := R_Jo) (T := F_Jo) (N := 3) hx hb hts in_Jo hown hK hP 0 rfl rfl 2 (by decide) (hts _ w_54) (fun _ h9 => h9) rfl d_Jo_commit_10 ?_
      refine lv_icmp_ge (tgt := 38) hx hb d_Jo_commit_13 (by decide) (fun h => absurd h (nI_ge hkN (by omega))) (fun _ => ?_)
      refine lv_aload_n hx hb d_Jo_commit_16 rfl (lv_at hl 3 rfl) ?_
      refine lv_iconst (v := 3) hx hb d_Jo_commit_17 (by decide) ?_
      refine lv_iload_n hx hb d_Jo_commit_18 rfl (lv_at hl 0 rfl) ?_
      refine lv_iadd hx hb d_Jo_commit_19 ?_
      refine lv_aload_n hx hb d_Jo_commit_20 rfl (lv_at hl 2 rfl) ?_
      refine va_get (D := (dC, dI)) (ci := 2) (v := .ref jr) (C := R_Jo) (T := F_Jo) (N := 3) hx hb hts in_Jo hown hK hP 0 rfl rfl 0 (by decide) (hts _ w_52) (fun _ h9 => h9) rfl d_Jo_commit_21 ?_
      refine lv_iload_n hx hb d_Jo_commit_24 rfl (lv_at hl 0 rfl) ?_
      refine lv_bipush (v := 16) hx hb d_Jo_commit_25 (by decide) ?_
      refine lv_imul hx hb d_Jo_commit_27 ?_
      refine go_i (wr := [(h0, .inr (2, [.ref jr, .ref jh, .int (nI jt)])), (jr, .inl (cR, 96, .inl ro)), (jh, .inl (cH, 16, .inl hd))]) (tr := [(cR, .int), (cH, .int)]) (rV (C := "LineDisk$Store") (ci := 1) (q0 := 0) (b := s0) (n := 3) (As := [.int (3 + (nI k)), .ref jr, .int ((nI k) * 16)]) (rest := []) F hkw (g_St_write l dC dI s0 c0 cA ar de wr g jr 96 (ro) (3 + nI k) (nI k * 16) (by decide) (by decide) H.size) xRn_bl (xRn_in (i := 1) (j1 := 3) (j2 := 4) (t := 0) hP hD hK rfl rfl rfl rfl (by decide) (by decide)) w_219 w_178 w_179 w_2 w_180 rfl rfl (by decide +kernel) ⟨Nat.le_trans (by decide) hRf, Nat.le_trans (by decide) hRl⟩ (hP.sub (ws' := [(s0, .inr (1, [.ref c0, .int ar, .int de, .int wr])), (c0, .inl (cA, 512, .inl g))]) [3, 4] rfl) (hD.sub (ws' := [(s0, .inr (1, [.ref c0, .int ar, .int de, .int wr])), (c0, .inl (cA, 512, .inl g))]) [3, 4] (by decide) rfl) (hK.sub (tys' := [(cA, .int)]) [2] rfl) rfl rfl rfl rfl hl.1 rfl (Nat.le_of_ble_eq_true rfl) d_Jo_commit_28 ⟨hRc, hRs⟩) hP hD hK hS hA [3, 4] [0, 1, 2] [0, 1] rfl rfl (by decide) (by decide) rfl (fun r uu H locs hw hP hD hK hS => ?_)
      have hP : va_P (dC, dI) cls [(h0, .inr (2, [.ref jr, .ref jh, .int (nI jt)])), (jr, .inl (cR, 96, .inl ro)), (jh, .inl (cH, 16, .inl hd)), (s0, .inr (1, [.ref c0, .int uu.1, .int uu.2.1, .int uu.2.2.1])), (c0, .inl (cA, 512, .inl uu.2.2.2))] H := hP
      have hD : va_D A [(h0, .inr (2, [.ref jr, .ref jh, .int (nI jt)])), (jr, .inl (cR, 96, .inl ro)), (jh, .inl (cH, 16, .inl hd)), (s0, .inr (1, [.ref c0, .int uu.1, .int uu.2.1, .int uu.2.2.1])), (c0, .inl (cA, 512, .inl uu.2.2.2))] := hD
      have hK : va_K (dC, dI) cls [(cR, .int), (cH, .int), (cA, .int)] s := hK
      refine W.widen (k := cells) (n := slots) (Nat.le_refl _) (Nat.le_refl _) ?_
      refine lv_istore_n (i := 2) hx hb d_Jo_commit_31 rfl hl (by decide) rfl (fun ls hl => ?_)
      have hl : lv_has ls 4 [(2, .int r), (3, .int (nI k)), (0, .ref h0), (1, .ref s0)] := hl
      refine lv_iinc (k := 1) (v := nI (k + 1)) hx hb d_Jo_commit_32 hl rfl (by rw [lit1]; exact (nI_succ k).symm) (by decide) rfl (fun ls hl => ?_)
      have hl : lv_has ls 4 [(3, .int (nI (k + 1))), (2, .int r), (0, .ref h0), (1, .ref s0)] := hl
      refine lv_goto (tgt := 4) hx hb d_Jo_commit_35 (by decide) ?_
      exact ih (k + 1) (by omega) ls _ _ r uu.1 uu.2.1 uu.2.2.1 uu.2.2.2 (lv_sub hl [0, 1, 2, 3] rfl) (hP.sub [0, 1, 2, 3, 4] rfl) (hD.sub [0, 1, 2, 3, 4] (by decide) rfl) hS (by
        show (r, uu) = (if (cmA ro q0 k).1 = 0 then cmA ro q0 k else _)
        rw [← hf, if_neg c5]; exact hw)
set_option maxHeartbeats 4000000 in
set_option maxRecDepth 100000 in
theorem lp_Jo_commitB {p : Program} {l : Launch} {e : Env} {R : Room} {s : State} {m : MethodId} {args : Array Value} {below : List Frame} {meth : Method} {c : Code} {cells slots : Nat} {Q : State → Prop} {A : Nat → Prop} {dC : Nat → ClassId} {dI : Nat → Nat → Nat} (hx : p.tables.exec = Jvm.exec) (hb : c.code = b_Jo_commit) (hml : c.maxLocals = 4) (hts : ∀ w ∈ gw, w.before args s = true) (hown : s.vm.findClass "LineDisk$Journal" = some m.cls) (hkw : kw s) (hA : ∀ q : Nat, s.heap.size ≤ q → A q) (h0 jr jh : Nat) (cR cH : ClassId) (jt : Nat) (ro hd : Nat → Int32) (s0 c0 : Nat) (cA : ClassId) (q0 : DS) (hjt : jt ≤ 6) (hK0 : va_K (dC, dI) cls [(cR, .int), (cH, .int), (cA, .int)] s) (hRf : 2 ≤ R.frames) (hRl : 123 ≤ R.locals) (hRc : cells ≤ R.cells) (hRs : slots ≤ R.slots)  (k_102 : ∀ (k : Nat), k ≤ jt → ∀ (ls : Array Slot) (H : Heap) (locs : List Loc) (mv : Int32) (ar : Int32) (de : Int32) (wr : Int32) (g : Nat → Int32), lv_has ls 4 [(2, .int mv), (0, .ref h0), (1, .ref s0)] → va_P (dC, dI) cls [(h0, .inr (2, [.ref jr, .ref jh, .int (nI jt)])), (jr, .inl (cR, 96, .inl ro)), (jh, .inl (cH, 16, .inl hd)), (s0, .inr (1, [.ref c0, .int ar, .int de, .int wr])), (c0, .inl (cA, 512, .inl g))] H → va_D A [(h0, .inr (2, [.ref jr, .ref jh, .int (nI jt)])), (jr, .inl (cR, 96, .inl ro)), (jh, .inl (cH, 16, .inl hd)), (s0, .inr (1, [.ref c0, .int ar, .int de, .int wr])), (c0, .inl (cA, 512, .inl g))] → va_S A s.heap H locs → ((mv, ar, de, wr, g) = cmB ro hd q0 jt) → W p l e R s m args below meth c H locs cells slots Q (F0 m 102 ls [])) : ∀ (j k : Nat), k + j = jt → ∀ (ls : Array Slot) (H : Heap) (locs : List Loc) (mv : Int32) (ar : Int32) (de : Int32) (wr : Int32) (g : Nat → Int32), lv_has ls 4 [(3, .int (nI k)), (2, .int mv), (0, .ref h0), (1, .ref s0)] → va_P (dC, dI) cls [(h0, .inr (2, [.ref jr, .ref jh, .int (nI jt)])), (jr, .inl (cR, 96, .inl ro)), (jh, .inl (cH, 16, .inl hd)), (s0, .inr (1, [.ref c0, .int ar, .int de, .int wr])), (c0, .inl (cA, 512, .inl g))] H → va_D A [(h0, .inr (2, [.ref jr, .ref jh, .int (nI jt)])), (jr, .inl (cR, 96, .inl ro)), (jh, .inl (cH, 16, .inl hd)), (s0, .inr (1, [.ref c0, .int ar, .int de, .int wr])), (c0, .inl (cA, 512, .inl g))] → va_S A s.heap H locs → ((mv, ar, de, wr, g) = cmB ro hd q0 k) → W p l e R s m args below meth c H locs cells slots Q (F0 m 63 ls []) := by
  have F : CallFix p m c b_Jo_commit 4 s args gw "LineDisk$Journal" := ⟨hx, hb, hml, hown, hts⟩
  intro j
  induction j with
  | zero =>
    intro k hk ls H locs mv ar de wr g hl hP hD hS hf
    have hK := hK0
    have hkN : k = jt := by omega
    refine lv_iload_n hx hb d_Jo_commit_63 rfl (lv_at hl 1 rfl) ?_
    refine lv_if_eq (tgt := 102) hx hb d_Jo_commit_64 (by decide) (fun c64 => ?_) (fun c64 => ?_)
    · skip
      exact k_102 k (by omega) ls _ _ mv ar de wr g (lv_sub hl [1, 2, 3] rfl) (hP.sub [0, 1, 2, 3, 4] rfl) (hD.sub [0, 1, 2, 3, 4] (by decide) rfl) hS (by rw [hkN] at hf; exact hf)
    · skip
      refine lv_iload_n hx hb d_Jo_commit_67 rfl (lv_at hl 0 rfl) ?_
      refine lv_aload_n hx hb d_Jo_commit_68 rfl (lv_at hl 2 rfl) ?_
      refine va_get (D := (dC, dI)) (ci := 2) (v := .int (nI jt)) (C := R_Jo) (T := F_Jo) (N := 3) hx hb hts in_Jo hown hK hP 0 rfl rfl 2 (by decide) (hts _ w_54) (fun _ h9 => h9) rfl d_Jo_commit_69 ?_
      refine lv_icmp_ge (tgt := 102) hx hb d_Jo_commit_72 (by decide) (fun _ => ?_) (fun h => absurd (by rw [hkN]; exact nI_le (Nat.le_refl _) (by omega)) h)
      exact k_102 k (by omega) ls _ _ mv ar de wr g (lv_sub hl [1, 2, 3] rfl) (hP.sub [0, 1, 2, 3, 4] rfl) (hD.sub [0, 1, 2, 3, 4] (by decide) rfl) hS (by rw [hkN] at hf; exact hf)
  | succ j ih =>
    intro k hk ls H locs mv ar de wr g hl hP hD hS hf
    have hK := hK0
    have hkN : k < jt := by omega
    refine lv_iload_n hx hb d_Jo_commit_63 rfl (lv_at hl 1 rfl) ?_
    refine lv_if_eq (tgt := 102) hx hb d_Jo_commit_64 (by decide) (fun c64 => ?_) (fun c64 => ?_)
    · skip
      exact k_102 k (by omega) ls _ _ mv ar de wr g (lv_sub hl [1, 2, 3] rfl) (hP.sub [0, 1, 2, 3, 4] rfl) (hD.sub [0, 1, 2, 3, 4] (by decide) rfl) hS (by
        have h0 : (cmB ro hd q0 k).1 = 0 := by rw [← hf]; exact c64
        have h1 := cmB_stuck h0 (jt - k)
        rw [Nat.add_sub_cancel' (Nat.le_of_lt hkN)] at h1
        rw [h1]; exact hf)
    · skip
      refine lv_iload_n hx hb d_Jo_commit_67 rfl (lv_at hl 0 rfl) ?_
      refine lv_aload_n hx hb d_Jo_commit_68 rfl (lv_at hl 2 rfl) ?_
      refine va_get (D := (dC, dI)) (ci := 2) (v := .int (nI jt)) (C := R_Jo) (T := F_Jo) (N := 3) hx hb hts in_Jo hown hK hP 0 rfl rfl 2 (by decide) (hts _ w_54) (fun _ h9 => h9) rfl d_Jo_commit_69 ?_
      refine lv_icmp_ge (tgt := 102) hx hb d_Jo_commit_72 (by decide) (fun h => absurd h (nI_ge hkN (by omega))) (fun _ => ?_)
      refine lv_aload_n hx hb d_Jo_commit_75 rfl (lv_at hl 3 rfl) ?_
      refine lv_aload_n hx hb d_Jo_commit_76 rfl (lv_at hl 2 rfl) ?_
      refine va_get (D := (dC, dI)) (ci := 2) (v := .ref jh) (C := R_Jo) (T := F_Jo) (N := 3) hx hb hts in_Jo hown hK hP 0 rfl rfl 1 (by decide) (hts _ w_53) (fun _ h9 => h9) rfl d_Jo_commit_77 ?_
      refine lv_iconst (v := 1) hx hb d_Jo_commit_80 (by decide) ?_
      refine lv_iload_n hx hb d_Jo_commit_81 rfl (lv_at hl 0 rfl) ?_
      refine lv_iadd hx hb d_Jo_commit_82 ?_
      refine tv (x2 := nI (1 + k)) (by exact nI_add 1 k) ?_
      refine va_iald hx hb hK hP 2 1 rfl rfl (vp_in_nI (by omega) (by decide)) d_Jo_commit_83 ?_
      refine tv (x2 := hd (1 + k)) (by exact by rw [nI_clamp (by omega)]) ?_
      refine lv_aload_n hx hb d_Jo_commit_84 rfl (lv_at hl 2 rfl) ?_
      refine va_get (D := (dC, dI)) (ci := 2) (v := .ref jr) (C := R_Jo) (T := F_Jo) (N := 3) hx hb hts in_Jo hown hK hP 0 rfl rfl 0 (by decide) (hts _ w_52) (fun _ h9 => h9) rfl d_Jo_commit_85 ?_
      refine lv_iload_n hx hb d_Jo_commit_88 rfl (lv_at hl 0 rfl) ?_
      refine lv_bipush (v := 16) hx hb d_Jo_commit_89 (by decide) ?_
      refine lv_imul hx hb d_Jo_commit_91 ?_
      refine go_i (wr := [(h0, .inr (2, [.ref jr, .ref jh, .int (nI jt)])), (jr, .inl (cR, 96, .inl ro)), (jh, .inl (cH, 16, .inl hd))]) (tr := [(cR, .int), (cH, .int)]) (rV (C := "LineDisk$Store") (ci := 1) (q0 := 0) (b := s0) (n := 3) (As := [.int (hd (1 + k)), .ref jr, .int ((nI k) * 16)]) (rest := []) F hkw (g_St_write l dC dI s0 c0 cA ar de wr g jr 96 (ro) (hd (1 + k)) (nI k * 16) (by decide) (by decide) H.size) xRn_bl (xRn_in (i := 1) (j1 := 3) (j2 := 4) (t := 0) hP hD hK rfl rfl rfl rfl (by decide) (by decide)) w_219 w_178 w_179 w_2 w_180 rfl rfl (by decide +kernel) ⟨Nat.le_trans (by decide) hRf, Nat.le_trans (by decide) hRl⟩ (hP.sub (ws' := [(s0, .inr (1, [.ref c0, .int ar, .int de, .int wr])), (c0, .inl (cA, 512, .inl g))]) [3, 4] rfl) (hD.sub (ws' := [(s0, .inr (1, [.ref c0, .int ar, .int de, .int wr])), (c0, .inl (cA, 512, .inl g))]) [3, 4] (by decide) rfl) (hK.sub (tys' := [(cA, .int)]) [2] rfl) rfl rfl rfl rfl hl.1 rfl (Nat.le_of_ble_eq_true rfl) d_Jo_commit_92 ⟨hRc, hRs⟩) hP hD hK hS hA [3, 4] [0, 1, 2] [0, 1] rfl rfl (by decide) (by decide) rfl (fun r uu H locs hw hP hD hK hS => ?_)
      have hP : va_P (dC, dI) cls [(h0, .inr (2, [.ref jr, .ref jh, .int (nI jt)])), (jr, .inl (cR, 96, .inl ro)), (jh, .inl (cH, 16, .inl hd)), (s0, .inr (1, [.ref c0, .int uu.1, .int uu.2.1, .int uu.2.2.1])), (c0, .inl (cA, 512, .inl uu.2.2.2))] H := hP
      have hD : va_D A [(h0, .inr (2, [.ref jr, .ref jh, .int (nI jt)])), (jr, .inl (cR, 96, .inl ro)), (jh, .inl (cH, 16, .inl hd)), (s0, .inr (1, [.ref c0, .int uu.1, .int uu.2.1, .int uu.2.2.1])), (c0, .inl (cA, 512, .inl uu.2.2.2))] := hD
      have hK : va_K (dC, dI) cls [(cR, .int), (cH, .int), (cA, .int)] s := hK
      refine W.widen (k := cells) (n := slots) (Nat.le_refl _) (Nat.le_refl _) ?_
      refine lv_istore_n (i := 2) hx hb d_Jo_commit_95 rfl hl (by decide) rfl (fun ls hl => ?_)
      have hl : lv_has ls 4 [(2, .int r), (3, .int (nI k)), (0, .ref h0), (1, .ref s0)] := hl
      refine lv_iinc (k := 1) (v := nI (k + 1)) hx hb d_Jo_commit_96 hl rfl (by rw [lit1]; exact (nI_succ k).symm) (by decide) rfl (fun ls hl => ?_)
      have hl : lv_has ls 4 [(3, .int (nI (k + 1))), (2, .int r), (0, .ref h0), (1, .ref s0)] := hl
      refine lv_goto (tgt := 63) hx hb d_Jo_commit_99 (by decide) ?_
      exact ih (k + 1) (by omega) ls _ _ r uu.1 uu.2.1 uu.2.2.1 uu.2.2.2 (lv_sub hl [0, 1, 2, 3] rfl) (hP.sub [0, 1, 2, 3, 4] rfl) (hD.sub [0, 1, 2, 3, 4] (by decide) rfl) hS (by
        show (r, uu) = (if (cmB ro hd q0 k).1 = 0 then cmB ro hd q0 k else _)
        rw [← hf, if_neg c64]; exact hw)
def xZ (t1 : Nat) (e0 : Nat → Int32) (ws : va_W) : State → Prop := fun U => va_Z "LineDisk" "EMPTY_BLOCK" "[I" (.ref t1) (va_A ws U.heap.size) U U.heap ∧ va_X t1 16 e0 U U.heap ∧ t1 < U.heap.size ∧ ¬ va_A ws U.heap.size t1
theorem xZ_bl {t1 : Nat} {e0 : Nat → Int32} {ws : va_W} : xBl (xZ t1 e0 ws) := fun U g mk a h => ⟨va_Z.moved (u := U) (U := U.calling g mk a) (Vm.Alike.refl U.vm) h.1, va_X.moved (u := U) (U := U.calling g mk a) (Vm.Alike.refl U.vm) h.2.1, h.2.2⟩
theorem xRn_out {row n0 h0 c0 i j : Nat} {f : Nat → Int32} {A : Nat → Prop} {s : State} {H : Heap} {locs : List Loc} {ws : va_W} {e0 e1 : va_E} (h1 : va_X row n0 f s s.heap) (h2 : row < s.heap.size) (h3 : ¬ A row) (hS : va_S A s.heap H locs) (hD : va_D A ws) (hi : ws[i]? = some (h0, e0)) (hj : ws[j]? = some (c0, e1)) : ∀ U : State, U.heap = H → s.WarmedH U.vm → xRn row n0 f h0 c0 U :=
  fun U hU hW => ⟨by rw [hU]; exact va_X.moved hW.alike (h1.kept (hS.2.1 row h2 h3)), by rw [hU]; exact Nat.lt_of_lt_of_le h2 hS.1, fun e => h3 (by rw [e]; exact hD.2 i _ hi), fun e => h3 (by rw [e]; exact hD.2 j _ hj)⟩
set_option maxHeartbeats 4000000 in
set_option maxRecDepth 100000 in
theorem g_Jo_commit (l : Launch) (dC : Nat → ClassId) (dI : Nat → Nat → Nat) (h0 jr jh : Nat) (cR cH : ClassId) (jt : Nat) (ro hd : Nat → Int32) (s0 c0 : Nat) (cA : ClassId) (ar de wr : Int32) (g : Nat → Int32) (t1 : Nat) (e0 : Nat → Int32) (hjt : jt ≤ 6) (sz : Nat) : Met l y_Jo_commit (Cond.code y_Jo_commit b_Jo_commit 4 (some .boolean) :: gw) ({ frames := 2, cells := 0, slots := 0, locals := 123 }) (cP (dC, dI) [.ref h0, .ref s0] sz [(h0, .inr (2, [.ref jr, .ref jh, .int (nI jt)])), (jr, .inl (cR, 96, .inl ro)), (jh, .inl (cH, 16, .inl hd)), (s0, .inr (1, [.ref c0, .int ar, .int de, .int wr])), (c0, .inl (cA, 512, .inl g))] [(cR, .int), (cH, .int), (cA, .int)] (xZ t1 e0 [(h0, .inr (2, [.ref jr, .ref jh, .int (nI jt)])), (jr, .inl (cR, 96, .inl ro)), (jh, .inl (cH, 16, .inl hd)), (s0, .inr (1, [.ref c0, .int ar, .int de, .int wr])), (c0, .inl (cA, 512, .inl g))])) (va_Qi (fun (r : Int32) (u : DS) => (r, u) = cmt ro hd e0 jt (ar, de, wr, g)) (fun (u : DS) t => cB (dC, dI) (va_A [(h0, .inr (2, [.ref jr, .ref jh, .int (nI jt)])), (jr, .inl (cR, 96, .inl ro)), (jh, .inl (cH, 16, .inl hd)), (s0, .inr (1, [.ref c0, .int ar, .int de, .int wr])), (c0, .inl (cA, 512, .inl g))] sz) [(h0, .inr (2, [.ref jr, .ref jh, .int (nI jt)])), (jr, .inl (cR, 96, .inl ro)), (jh, .inl (cH, 16, .inl hd)), (s0, .inr (1, [.ref c0, .int u.1, .int u.2.1, .int u.2.2.1])), (c0, .inl (cA, 512, .inl u.2.2.2))] [(cR, .int), (cH, .int), (cA, .int)] t) (va_A [(h0, .inr (2, [.ref jr, .ref jh, .int (nI jt)])), (jr, .inl (cR, 96, .inl ro)), (jh, .inl (cH, 16, .inl hd)), (s0, .inr (1, [.ref c0, .int ar, .int de, .int wr])), (c0, .inl (cA, 512, .inl g))] sz)) 0 0 (va_A [(h0, .inr (2, [.ref jr, .ref jh, .int (nI jt)])), (jr, .inl (cR, 96, .inl ro)), (jh, .inl (cH, 16, .inl hd)), (s0, .inr (1, [.ref c0, .int ar, .int de, .int wr])), (c0, .inl (cA, 512, .inl g))] sz) := by
  refine Met.ofW (cc := b_Jo_commit) (maxL := 4) (ret := (some .boolean)) (by decide) rfl ?_
  intro p e s m args below meth c s₁ B hml hv
  obtain ⟨rfl, hsz, hP, hK, hD0, hkw, hX⟩ := hv
  have hx := B.exec
  have hb := B.bytes
  have hr := B.returns
  have hts := fun w hw => atoms_spec (ws := Cond.code y_Jo_commit b_Jo_commit 4 (some .boolean) :: gw) B.pre w (List.mem_cons_of_mem _ hw)
  have hown : s.vm.findClass "LineDisk$Journal" = some m.cls := findClass_of_methodNamed B.named
  have hlocks := B.notSynchronized
  have hin := (name_of_methodNamed B.named B.method).1
  subst hsz
  have hD := hD0.self (sz := s.heap.size)
  generalize hAe : va_A [(h0, .inr (2, [.ref jr, .ref jh, .int (nI jt)])), (jr, .inl (cR, 96, .inl ro)), (jh, .inl (cH, 16, .inl hd)), (s0, .inr (1, [.ref c0, .int ar, .int de, .int wr])), (c0, .inl (cA, 512, .inl g))] s.heap.size = A at hD ⊢
  have hA : ∀ q : Nat, s.heap.size ≤ q → A q := fun q h => by rw [← hAe]; exact Or.inr h
  have hS : va_S A s.heap s.heap [] := va_S.rf
  have hl := lv_entry ([.ref h0, .ref s0]) (n := 4) (Nat.le_of_ble_eq_true rfl)
  rw [lg_entry_eq]
  generalize (lg_sl ([.ref h0, .ref s0]) ++ List.replicate (4 - (lg_sl ([.ref h0, .ref s0])).length) Slot.unset).toArray = ls at hl ⊢
  have hl : lv_has ls 4 [(0, .ref h0), (1, .ref s0)] := hl
  have F : CallFix p m c b_Jo_commit 4 s ([.ref h0, .ref s0]).toArray gw "LineDisk$Journal" := ⟨hx, hb, hml, hown, hts⟩
  obtain ⟨hz1, hx1, hl1, hn1⟩ := hX
  rw [hAe] at hz1 hn1
  refine lv_iconst (v := 1) hx hb d_Jo_commit_0 (by decide) ?_
  refine lv_istore_n (i := 2) hx hb d_Jo_commit_1 rfl hl (by decide) rfl (fun ls hl => ?_)
  have hl : lv_has ls 4 [(2, .int 1), (0, .ref h0), (1, .ref s0)] := hl
  refine lv_iconst (v := 0) hx hb d_Jo_commit_2 (by decide) ?_
  refine lv_istore_n (i := 3) hx hb d_Jo_commit_3 rfl hl (by decide) rfl (fun ls hl => ?_)
  have hl : lv_has ls 4 [(3, .int 0), (2, .int 1), (0, .ref h0), (1, .ref s0)] := hl
  refine lp_Jo_commitA hx hb hml hts hown hkw hA h0 jr jh cR cH jt ro hd s0 c0 cA (ar, de, wr, g) hjt hK (by decide) (by decide) (by decide) (by decide) (fun k _ ls H locs ma ar1 de1 wr1 g1 hl hP hD hS hf => ?_) jt 0 (by omega) ls _ _ 1 ar de wr g (lv_sub hl [0, 1, 2, 3] rfl) hP hD hS rfl
  obtain ⟨ea, eq1⟩ := pair5 hf
  refine lv_iload_n hx hb d_Jo_commit_38 rfl (lv_at hl 0 rfl) ?_
  refine lv_if_eq (tgt := 59) hx hb d_Jo_commit_39 (by decide) (fun c39 => ?_) (fun c39 => ?_)
  · skip
    refine lv_iconst (v := 0) hx hb d_Jo_commit_59 (by decide) ?_
    refine lv_istore_n (i := 2) hx hb d_Jo_commit_60 rfl hl (by decide) rfl (fun ls hl => ?_)
    have hl : lv_has ls 4 [(2, .int 0), (0, .ref h0), (1, .ref s0)] := hl
    refine lv_iconst (v := 0) hx hb d_Jo_commit_61 (by decide) ?_
    refine lv_istore_n (i := 3) hx hb d_Jo_commit_62 rfl hl (by decide) rfl (fun ls hl => ?_)
    have hl : lv_has ls 4 [(3, .int 0), (2, .int 0), (0, .ref h0), (1, .ref s0)] := hl
    refine lv_iload_n hx hb d_Jo_commit_63 rfl (lv_at hl 1 rfl) ?_
    refine lv_if_eq (tgt := 102) hx hb d_Jo_commit_64 (by decide) (fun _ => ?_) (fun h => absurd (by decide) h)
    refine lv_iload_n hx hb d_Jo_commit_102 rfl (lv_at hl 1 rfl) ?_
    refine lv_if_eq (tgt := 122) hx hb d_Jo_commit_103 (by decide) (fun _ => ?_) (fun h => absurd (by decide) h)
    refine lv_iconst (v := 0) hx hb d_Jo_commit_122 (by decide) ?_
    refine W.widen (k := 0) (n := 0) (by decide) (by decide) ?_
    exact W.zret (v := 0) hx hb hr (rfl) (fun t ht hW => ⟨⟨0, (ar1, de1, wr1, g1), rfl, by
      unfold cmt
      rw [← hf, if_pos c39], cB.of (hP.sub [0, 1, 2, 3, 4] rfl) (hD.sub [0, 1, 2, 3, 4] (by decide) rfl) (hK.sub [0, 1, 2] rfl) ht hW⟩, hS.F ht⟩) hS.2.2 d_Jo_commit_123
  · skip
    refine lv_aload_n hx hb d_Jo_commit_42 rfl (lv_at hl 2 rfl) ?_
    refine lv_iconst (v := 2) hx hb d_Jo_commit_43 (by decide) ?_
    refine lv_aload_n hx hb d_Jo_commit_44 rfl (lv_at hl 1 rfl) ?_
    refine va_get (D := (dC, dI)) (ci := 2) (v := .ref jh) (C := R_Jo) (T := F_Jo) (N := 3) hx hb hts in_Jo hown hK hP 0 rfl rfl 1 (by decide) (hts _ w_53) (fun _ h9 => h9) rfl d_Jo_commit_45 ?_
    refine lv_iconst (v := 0) hx hb d_Jo_commit_48 (by decide) ?_
    refine go_i (wr := [(h0, .inr (2, [.ref jr, .ref jh, .int (nI jt)])), (jr, .inl (cR, 96, .inl ro)), (jh, .inl (cH, 16, .inl hd))]) (tr := [(cR, .int), (cH, .int)]) (rV (C := "LineDisk$Store") (ci := 1) (q0 := 0) (b := s0) (n := 3) (As := [.int 2, .ref jh, .int 0]) (rest := []) F hkw (g_St_write l dC dI s0 c0 cA ar1 de1 wr1 g1 jh 16 (hd) 2 0 (by decide) (by decide) H.size) xRn_bl (xRn_in (i := 2) (j1 := 3) (j2 := 4) (t := 1) hP hD hK rfl rfl rfl rfl (by decide) (by decide)) w_219 w_178 w_179 w_2 w_180 rfl rfl (by decide +kernel) ⟨Nat.le_of_ble_eq_true rfl, Nat.le_of_ble_eq_true rfl⟩ (hP.sub (ws' := [(s0, .inr (1, [.ref c0, .int ar1, .int de1, .int wr1])), (c0, .inl (cA, 512, .inl g1))]) [3, 4] rfl) (hD.sub (ws' := [(s0, .inr (1, [.ref c0, .int ar1, .int de1, .int wr1])), (c0, .inl (cA, 512, .inl g1))]) [3, 4] (by decide) rfl) (hK.sub (tys' := [(cA, .int)]) [2] rfl) rfl rfl rfl rfl hl.1 rfl (Nat.le_of_ble_eq_true rfl) d_Jo_commit_49 ⟨by decide, by decide⟩) hP hD hK hS hA [3, 4] [0, 1, 2] [0, 1] rfl rfl (by decide) (by decide) rfl (fun r1 u1 H locs p1 hP hD hK hS => ?_)
    have hP : va_P (dC, dI) cls [(h0, .inr (2, [.ref jr, .ref jh, .int (nI jt)])), (jr, .inl (cR, 96, .inl ro)), (jh, .inl (cH, 16, .inl hd)), (s0, .inr (1, [.ref c0, .int u1.1, .int u1.2.1, .int u1.2.2.1])), (c0, .inl (cA, 512, .inl u1.2.2.2))] H := hP
    have hD : va_D A [(h0, .inr (2, [.ref jr, .ref jh, .int (nI jt)])), (jr, .inl (cR, 96, .inl ro)), (jh, .inl (cH, 16, .inl hd)), (s0, .inr (1, [.ref c0, .int u1.1, .int u1.2.1, .int u1.2.2.1])), (c0, .inl (cA, 512, .inl u1.2.2.2))] := hD
    have hK : va_K (dC, dI) cls [(cR, .int), (cH, .int), (cA, .int)] s := hK
    refine W.widen (k := 0) (n := 0) (by omega) (by omega) ?_
    have hP := hP.sub (ws' := [(h0, .inr (2, [.ref jr, .ref jh, .int (nI jt)])), (jr, .inl (cR, 96, .inl ro)), (jh, .inl (cH, 16, .inl hd)), (s0, .inr (1, [.ref c0, .int u1.1, .int u1.2.1, .int u1.2.2.1])), (c0, .inl (cA, 512, .inl u1.2.2.2))]) [0, 1, 2, 3, 4] rfl
    have hD := hD.sub (ws' := [(h0, .inr (2, [.ref jr, .ref jh, .int (nI jt)])), (jr, .inl (cR, 96, .inl ro)), (jh, .inl (cH, 16, .inl hd)), (s0, .inr (1, [.ref c0, .int u1.1, .int u1.2.1, .int u1.2.2.1])), (c0, .inl (cA, 512, .inl u1.2.2.2))]) [0, 1, 2, 3, 4] (by decide) rfl
    have hK := hK.sub (tys' := [(cR, .int), (cH, .int), (cA, .int)]) [0, 1, 2] rfl
    have p1 : (r1, u1) = wrD (ar1, de1, wr1, g1) 16 hd 2 0 := p1
    refine lv_if_eq (tgt := 59) hx hb d_Jo_commit_52 (by decide) (fun c52 => ?_) (fun c52 => ?_)
    · skip
      refine lv_iconst (v := 0) hx hb d_Jo_commit_59 (by decide) ?_
      refine lv_istore_n (i := 2) hx hb d_Jo_commit_60 rfl hl (by decide) rfl (fun ls hl => ?_)
      have hl : lv_has ls 4 [(2, .int 0), (0, .ref h0), (1, .ref s0)] := hl
      refine lv_iconst (v := 0) hx hb d_Jo_commit_61 (by decide) ?_
      refine lv_istore_n (i := 3) hx hb d_Jo_commit_62 rfl hl (by decide) rfl (fun ls hl => ?_)
      have hl : lv_has ls 4 [(3, .int 0), (2, .int 0), (0, .ref h0), (1, .ref s0)] := hl
      refine lv_iload_n hx hb d_Jo_commit_63 rfl (lv_at hl 1 rfl) ?_
      refine lv_if_eq (tgt := 102) hx hb d_Jo_commit_64 (by decide) (fun _ => ?_) (fun h => absurd (by decide) h)
      refine lv_iload_n hx hb d_Jo_commit_102 rfl (lv_at hl 1 rfl) ?_
      refine lv_if_eq (tgt := 122) hx hb d_Jo_commit_103 (by decide) (fun _ => ?_) (fun h => absurd (by decide) h)
      refine lv_iconst (v := 0) hx hb d_Jo_commit_122 (by decide) ?_
      refine W.widen (k := 0) (n := 0) (by decide) (by decide) ?_
      exact W.zret (v := 0) hx hb hr (rfl) (fun t ht hW => ⟨⟨0, (u1.1, u1.2.1, u1.2.2.1, u1.2.2.2), rfl, by
        unfold cmt
        rw [← hf, if_neg c39, ← p1, if_pos c52], cB.of (hP.sub [0, 1, 2, 3, 4] rfl) (hD.sub [0, 1, 2, 3, 4] (by decide) rfl) (hK.sub [0, 1, 2] rfl) ht hW⟩, hS.F ht⟩) hS.2.2 d_Jo_commit_123
    · skip
      refine lv_iconst (v := 1) hx hb d_Jo_commit_55 (by decide) ?_
      refine lv_goto (tgt := 60) hx hb d_Jo_commit_56 (by decide) ?_
      refine lv_istore_n (i := 2) hx hb d_Jo_commit_60 rfl hl (by decide) rfl (fun ls hl => ?_)
      have hl : lv_has ls 4 [(2, .int 1), (0, .ref h0), (1, .ref s0)] := hl
      refine lv_iconst (v := 0) hx hb d_Jo_commit_61 (by decide) ?_
      refine lv_istore_n (i := 3) hx hb d_Jo_commit_62 rfl hl (by decide) rfl (fun ls hl => ?_)
      have hl : lv_has ls 4 [(3, .int 0), (2, .int 1), (0, .ref h0), (1, .ref s0)] := hl
      refine lp_Jo_commitB hx hb hml hts hown hkw hA h0 jr jh cR cH jt ro hd s0 c0 cA u1 hjt hK (by decide) (by decide) (by decide) (by decide) (fun k _ ls H locs mb ar2 de2 wr2 g2 hl hP hD hS hf2 => ?_) jt 0 (by omega) ls _ _ 1 u1.1 u1.2.1 u1.2.2.1 u1.2.2.2 (lv_sub hl [0, 1, 2, 3] rfl) hP hD hS rfl
      refine lv_iload_n hx hb d_Jo_commit_102 rfl (lv_at hl 0 rfl) ?_
      refine lv_if_eq (tgt := 122) hx hb d_Jo_commit_103 (by decide) (fun c103 => ?_) (fun c103 => ?_)
      · skip
        refine lv_iconst (v := 0) hx hb d_Jo_commit_122 (by decide) ?_
        refine W.widen (k := 0) (n := 0) (by decide) (by decide) ?_
        exact W.zret (v := 0) hx hb hr (rfl) (fun t ht hW => ⟨⟨0, (ar2, de2, wr2, g2), rfl, by
          unfold cmt
          rw [← hf, if_neg c39, ← p1, if_neg c52, ← hf2, if_pos c103], cB.of (hP.sub [0, 1, 2, 3, 4] rfl) (hD.sub [0, 1, 2, 3, 4] (by decide) rfl) (hK.sub [0, 1, 2] rfl) ht hW⟩, hS.F ht⟩) hS.2.2 d_Jo_commit_123
      · skip
        refine lv_aload_n hx hb d_Jo_commit_106 rfl (lv_at hl 2 rfl) ?_
        refine lv_iconst (v := 2) hx hb d_Jo_commit_107 (by decide) ?_
        refine va_getsN (C := "LineDisk") (host := "LineDisk") hx hb hz1 hS hown (hkw.use v_218 rfl) (fun _ h9 => h9) d_Jo_commit_108 ?_
        refine lv_iconst (v := 0) hx hb d_Jo_commit_111 (by decide) ?_
        refine go_i (wr := [(h0, .inr (2, [.ref jr, .ref jh, .int (nI jt)])), (jr, .inl (cR, 96, .inl ro)), (jh, .inl (cH, 16, .inl hd))]) (tr := [(cR, .int), (cH, .int)]) (rV (C := "LineDisk$Store") (ci := 1) (q0 := 0) (b := s0) (n := 3) (As := [.int 2, .ref t1, .int 0]) (rest := []) F hkw (g_St_write l dC dI s0 c0 cA ar2 de2 wr2 g2 t1 16 (e0) 2 0 (by decide) (by decide) H.size) xRn_bl (xRn_out hx1 hl1 hn1 hS hD (i := 3) (j := 4) rfl rfl) w_219 w_178 w_179 w_2 w_180 rfl rfl (by decide +kernel) ⟨Nat.le_of_ble_eq_true rfl, Nat.le_of_ble_eq_true rfl⟩ (hP.sub (ws' := [(s0, .inr (1, [.ref c0, .int ar2, .int de2, .int wr2])), (c0, .inl (cA, 512, .inl g2))]) [3, 4] rfl) (hD.sub (ws' := [(s0, .inr (1, [.ref c0, .int ar2, .int de2, .int wr2])), (c0, .inl (cA, 512, .inl g2))]) [3, 4] (by decide) rfl) (hK.sub (tys' := [(cA, .int)]) [2] rfl) rfl rfl rfl rfl hl.1 rfl (Nat.le_of_ble_eq_true rfl) d_Jo_commit_112 ⟨by decide, by decide⟩) hP hD hK hS hA [3, 4] [0, 1, 2] [0, 1] rfl rfl (by decide) (by decide) rfl (fun r3 u3 H locs p3 hP hD hK hS => ?_)
        have hP : va_P (dC, dI) cls [(h0, .inr (2, [.ref jr, .ref jh, .int (nI jt)])), (jr, .inl (cR, 96, .inl ro)), (jh, .inl (cH, 16, .inl hd)), (s0, .inr (1, [.ref c0, .int u3.1, .int u3.2.1, .int u3.2.2.1])), (c0, .inl (cA, 512, .inl u3.2.2.2))] H := hP
        have hD : va_D A [(h0, .inr (2, [.ref jr, .ref jh, .int (nI jt)])), (jr, .inl (cR, 96, .inl ro)), (jh, .inl (cH, 16, .inl hd)), (s0, .inr (1, [.ref c0, .int u3.1, .int u3.2.1, .int u3.2.2.1])), (c0, .inl (cA, 512, .inl u3.2.2.2))] := hD
        have hK : va_K (dC, dI) cls [(cR, .int), (cH, .int), (cA, .int)] s := hK
        refine W.widen (k := 0) (n := 0) (by omega) (by omega) ?_
        have p3 : (r3, u3) = wrD (ar2, de2, wr2, g2) 16 e0 2 0 := p3
        refine lv_if_eq (tgt := 122) hx hb d_Jo_commit_115 (by decide) (fun c115 => ?_) (fun c115 => ?_)
        · skip
          refine lv_iconst (v := 0) hx hb d_Jo_commit_122 (by decide) ?_
          refine W.widen (k := 0) (n := 0) (by decide) (by decide) ?_
          exact W.zret (v := 0) hx hb hr (rfl) (fun t ht hW => ⟨⟨0, (u3.1, u3.2.1, u3.2.2.1, u3.2.2.2), rfl, by
            unfold cmt
            rw [← hf, if_neg c39, ← p1, if_neg c52, ← hf2, if_neg c103, ← p3, if_pos c115], cB.of (hP.sub [0, 1, 2, 3, 4] rfl) (hD.sub [0, 1, 2, 3, 4] (by decide) rfl) (hK.sub [0, 1, 2] rfl) ht hW⟩, hS.F ht⟩) hS.2.2 d_Jo_commit_123
        · skip
          refine lv_iconst (v := 1) hx hb d_Jo_commit_118 (by decide) ?_
          refine lv_goto (tgt := 123) hx hb d_Jo_commit_119 (by decide) ?_
          refine W.widen (k := 0) (n := 0) (by decide) (by decide) ?_
          exact W.zret (v := 1) hx hb hr (rfl) (fun t ht hW => ⟨⟨1, (u3.1, u3.2.1, u3.2.2.1, u3.2.2.2), rfl, by
            unfold cmt
            rw [← hf, if_neg c39, ← p1, if_neg c52, ← hf2, if_neg c103, ← p3, if_neg c115], cB.of (hP.sub [0, 1, 2, 3, 4] rfl) (hD.sub [0, 1, 2, 3, 4] (by decide) rfl) (hK.sub [0, 1, 2] rfl) ht hW⟩, hS.F ht⟩) hS.2.2 d_Jo_commit_123
