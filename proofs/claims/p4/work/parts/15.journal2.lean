theorem xRn_in {row n0 h0 c0 i j1 j2 t : Nat} {cR : ClassId} {f : Nat → Int32} {e1 e2 : va_E} {D : va_G} {A : Nat → Prop} {ws : va_W} {tys : List (ClassId × FieldType)} {s : State} {H : Heap} (hP : va_P D cls ws H) (hD : va_D A ws) (hK : va_K D cls tys s) (hi : ws[i]? = some (row, .inl (cR, n0, .inl f))) (ht : tys[t]? = some (cR, .int)) (h1 : ws[j1]? = some (h0, e1)) (h2 : ws[j2]? = some (c0, e2)) (n1 : i ≠ j1) (n2 : i ≠ j2) : ∀ U : State, U.heap = H → s.WarmedH U.vm → xRn row n0 f h0 c0 U := by
  intro U hU hW
  have hc : H[row]? = some (vp_cell cR (n0, .inl f)) := hP i _ hi
  refine ⟨⟨vp_cell cR (n0, .inl f), by rw [hU]; exact hc, State.isArrayOf_alike hW.alike ((hK.2 t _ ht).1 n0 (fun j => .int (f j))), (fun h => by cases h), by rw [vp_cell_i, arrV_size], fun j hj => by rw [vp_cell_i, arrV_read _ _ hj]⟩, by rw [hU]; exact (Array.getElem?_eq_some_iff.mp hc).1, fun e => n1 (hD.1 i j1 _ _ hi h1 e), fun e => n2 (hD.1 i j2 _ _ hi h2 e)⟩
abbrev DS : Type := Int32 × Int32 × Int32 × (Nat → Int32)
def wrD (q : DS) (n0 : Nat) (f : Nat → Int32) (bk fr : Int32) : Int32 × DS := wrS q.1 q.2.1 q.2.2.1 q.2.2.2 n0 f bk fr
def cmA (ro : Nat → Int32) (q : DS) : Nat → Int32 × DS
  | 0 => (1, q)
  | k + 1 => if (cmA ro q k).1 = 0 then cmA ro q k else wrD (cmA ro q k).2 96 ro (3 + nI k) (nI k * 16)
def cmB (ro hd : Nat → Int32) (q : DS) : Nat → Int32 × DS
  | 0 => (1, q)
  | k + 1 => if (cmB ro hd q k).1 = 0 then cmB ro hd q k else wrD (cmB ro hd q k).2 96 ro (hd (1 + k)) (nI k * 16)
theorem cmA_stuck {ro : Nat → Int32} {q : DS} {k : Nat} (h : (cmA ro q k).1 = 0) : ∀ n, cmA ro q (k + n) = cmA ro q k
  | 0 => rfl
  | n + 1 => by
    show (if (cmA ro q (k + n)).1 = 0 then cmA ro q (k + n) else _) = _
    rw [cmA_stuck h n, if_pos h]
theorem cmB_stuck {ro hd : Nat → Int32} {q : DS} {k : Nat} (h : (cmB ro hd q k).1 = 0) : ∀ n, cmB ro hd q (k + n) = cmB ro hd q k
  | 0 => rfl
  | n + 1 => by
    show (if (cmB ro hd q (k + n)).1 = 0 then cmB ro hd q (k + n) else _) = _
    rw [cmB_stuck h n, if_pos h]
/-- a commit: the log's blocks, its head, the blocks themselves, an empty head; it ends at the first write that is not made -/
def cmt (ro hd e0 : Nat → Int32) (n : Nat) (q : DS) : Int32 × DS :=
  if (cmA ro q n).1 = 0 then (0, (cmA ro q n).2) else
  if (wrD (cmA ro q n).2 16 hd 2 0).1 = 0 then (0, (wrD (cmA ro q n).2 16 hd 2 0).2) else
  if (cmB ro hd (wrD (cmA ro q n).2 16 hd 2 0).2 n).1 = 0 then (0, (cmB ro hd (wrD (cmA ro q n).2 16 hd 2 0).2 n).2) else
  if (wrD (cmB ro hd (wrD (cmA ro q n).2 16 hd 2 0).2 n).2 16 e0 2 0).1 = 0 then (0, (wrD (cmB ro hd (wrD (cmA ro q n).2 16 hd 2 0).2 n).2 16 e0 2 0).2)
  else (1, (wrD (cmB ro hd (wrD (cmA ro q n).2 16 hd 2 0).2 n).2 16 e0 2 0).2)
set_option maxHeartbeats 4000000 in
set_option maxRecDepth 100000 in
theorem lp_Jo_take {p : Program} {l : Launch} {e : Env} {R : Room} {s : State} {m : MethodId} {args : Array Value} {below : List Frame} {meth : Method} {c : Code} {cells slots : Nat} {Q : State → Prop} {A : Nat → Prop} {dC : Nat → ClassId} {dI : Nat → Nat → Nat} (hx : p.tables.exec = Jvm.exec) (hb : c.code = b_Jo_takeAsItIs) (hml : c.maxLocals = 5) (hts : ∀ w ∈ gw, w.before args s = true) (hown : s.vm.findClass "LineDisk$Journal" = some m.cls) (hkw : kw s) (hA : ∀ q : Nat, s.heap.size ≤ q → A q) (h0 jr jh : Nat) (cR cH : ClassId) (jt : Nat) (hd : Nat → Int32) (s0 c0 : Nat) (cA : ClassId) (ar de wr : Int32) (g : Nat → Int32) (b : Int32) (hd2 : Nat → Int32) (ro0 : Nat → Int32) (jt0 : Nat) (hK0 : va_K (dC, dI) cls [(cR, .int), (cH, .int), (cA, .int)] s) (hRf : 1 ≤ R.frames) (hRl : 22 ≤ R.locals) (hRc : cells ≤ R.cells) (hRs : slots ≤ R.slots)  (k_48 : ∀ (k : Nat), k ≤ 16 → ∀ (ls : Array Slot) (H : Heap) (locs : List Loc) (ro : Nat → Int32), lv_has ls 5 [(0, .ref h0)] → va_P (dC, dI) cls [(h0, .inr (2, [.ref jr, .ref jh, .int (nI jt)])), (jr, .inl (cR, 96, .inl ro)), (jh, .inl (cH, 16, .inl hd2)), (s0, .inr (1, [.ref c0, .int ar, .int de, .int wr])), (c0, .inl (cA, 512, .inl g))] H → va_D A [(h0, .inr (2, [.ref jr, .ref jh, .int (nI jt)])), (jr, .inl (cR, 96, .inl ro)), (jh, .inl (cH, 16, .inl hd2)), (s0, .inr (1, [.ref c0, .int ar, .int de, .int wr])), (c0, .inl (cA, 512, .inl g))] → va_S A s.heap H locs → (ro = tkR g ro0 jt0 b 16) → W p l e R s m args below meth c H locs cells slots Q (F0 m 48 ls [])) : ∀ (j k : Nat), k + j = 16 → ∀ (ls : Array Slot) (H : Heap) (locs : List Loc) (ro : Nat → Int32), lv_has ls 5 [(4, .int (nI k)), (0, .ref h0), (1, .ref s0), (2, .int b), (3, .int (nI jt0 * 16))] → va_P (dC, dI) cls [(h0, .inr (2, [.ref jr, .ref jh, .int (nI jt)])), (jr, .inl (cR, 96, .inl ro)), (jh, .inl (cH, 16, .inl hd2)), (s0, .inr (1, [.ref c0, .int ar, .int de, .int wr])), (c0, .inl (cA, 512, .inl g))] H → va_D A [(h0, .inr (2, [.ref jr, .ref jh, .int (nI jt)])), (jr, .inl (cR, 96, .inl ro)), (jh, .inl (cH, 16, .inl hd2)), (s0, .inr (1, [.ref c0, .int ar, .int de, .int wr])), (c0, .inl (cA, 512, .inl g))] → va_S A s.heap H locs → (ro = tkR g ro0 jt0 b k) → W p l e R s m args below meth c H locs cells slots Q (F0 m 16 ls []) := by
  have F : CallFix p m c b_Jo_takeAsItIs 5 s args gw "LineDisk$Journal" := ⟨hx, hb, hml, hown, hts⟩
  intro j
  induction j with
  | zero =>
    intro k hk ls H locs ro hl hP hD hS hf
    have hK := hK0
    have hkN : k = 16 := by omega
    refine lv_iload hx hb d_Jo_takeAsItIs_16 (lv_at hl 0 rfl) ?_
    refine lv_bipush (v := 16) hx hb d_Jo_takeAsItIs_18 (by decide) ?_
    refine lv_icmp_ge (tgt := 48) hx hb d_Jo_takeAsItIs_20 (by decide) (fun _ => ?_) (fun h => absurd (by rw [hkN]; exact nI_le (a := 16) (b := 16) (Nat.le_refl _) (by decide)) h)
    exact k_48 k (by omega) ls _ _ ro (lv_sub hl [1] rfl) (hP.sub [0, 1, 2, 3, 4] rfl) (hD.sub [0, 1, 2, 3, 4] (by decide) rfl) hS (by rw [hkN] at hf; exact hf)
  | succ j ih =>
    intro k hk ls H locs ro hl hP hD hS hf
    have hK := hK0
    have hkN : k < 16 := by omega
    refine lv_iload hx hb d_Jo_takeAsItIs_16 (lv_at hl 0 rfl) ?_
    refine lv_bipush (v := 16) hx hb d_Jo_takeAsItIs_18 (by decide) ?_
    refine lv_icmp_ge (tgt := 48) hx hb d_Jo_takeAsItIs_20 (by decide) (fun h => absurd h (nI_ge (b := 16) hkN (by decide))) (fun _ => ?_)
    refine lv_aload_n hx hb d_Jo_takeAsItIs_23 rfl (lv_at hl 1 rfl) ?_
    refine lv_iload_n hx hb d_Jo_takeAsItIs_24 rfl (lv_at hl 4 rfl) ?_
    refine lv_iload hx hb d_Jo_takeAsItIs_25 (lv_at hl 0 rfl) ?_
    refine lv_iadd hx hb d_Jo_takeAsItIs_27 ?_
    refine lv_aload_n hx hb d_Jo_takeAsItIs_28 rfl (lv_at hl 2 rfl) ?_
    refine lv_iload_n hx hb d_Jo_takeAsItIs_29 rfl (lv_at hl 3 rfl) ?_
    refine lv_bipush (v := 16) hx hb d_Jo_takeAsItIs_30 (by decide) ?_
    refine lv_imul hx hb d_Jo_takeAsItIs_32 ?_
    refine lv_iload hx hb d_Jo_takeAsItIs_33 (lv_at hl 0 rfl) ?_
    refine lv_iadd hx hb d_Jo_takeAsItIs_35 ?_
    refine go_i (wr := [(h0, .inr (2, [.ref jr, .ref jh, .int (nI jt)])), (jr, .inl (cR, 96, .inl ro)), (jh, .inl (cH, 16, .inl hd2))]) (tr := [(cR, .int), (cH, .int)]) (rV (C := "LineDisk$Store") (ci := 1) (q0 := 0) (b := s0) (n := 1) (As := [.int ((b * 16) + (nI k))]) (rest := [.int ((nI jt0 * 16) + (nI k)), .ref h0]) F hkw (g_St_cell l dC dI s0 c0 cA ar de wr g (b * 16 + nI k) H.size) xT_bl (fun _ _ _ => trivial) w_209 w_210 w_211 w_2 w_212 rfl rfl (by decide +kernel) ⟨Nat.le_trans (by decide) hRf, Nat.le_trans (by decide) hRl⟩ (hP.sub (ws' := [(s0, .inr (1, [.ref c0, .int ar, .int de, .int wr])), (c0, .inl (cA, 512, .inl g))]) [3, 4] rfl) (hD.sub (ws' := [(s0, .inr (1, [.ref c0, .int ar, .int de, .int wr])), (c0, .inl (cA, 512, .inl g))]) [3, 4] (by decide) rfl) (hK.sub (tys' := [(cA, .int)]) [2] rfl) rfl rfl rfl rfl hl.1 rfl (Nat.le_of_ble_eq_true rfl) d_Jo_takeAsItIs_36 ⟨hRc, hRs⟩) hP hD hK hS hA [3, 4] [0, 1, 2] [0, 1] rfl rfl (by decide) (by decide) rfl (fun r u H locs hw hP hD hK hS => ?_)
    have hP : va_P (dC, dI) cls [(h0, .inr (2, [.ref jr, .ref jh, .int (nI jt)])), (jr, .inl (cR, 96, .inl ro)), (jh, .inl (cH, 16, .inl hd2)), (s0, .inr (1, [.ref c0, .int ar, .int de, .int wr])), (c0, .inl (cA, 512, .inl g))] H := hP
    have hD : va_D A [(h0, .inr (2, [.ref jr, .ref jh, .int (nI jt)])), (jr, .inl (cR, 96, .inl ro)), (jh, .inl (cH, 16, .inl hd2)), (s0, .inr (1, [.ref c0, .int ar, .int de, .int wr])), (c0, .inl (cA, 512, .inl g))] := hD
    have hK : va_K (dC, dI) cls [(cR, .int), (cH, .int), (cA, .int)] s := hK
    refine W.widen (k := cells) (n := slots) (Nat.le_refl _) (Nat.le_refl _) ?_
    subst hw
    refine go_v (wr := [(s0, .inr (1, [.ref c0, .int ar, .int de, .int wr])), (c0, .inl (cA, 512, .inl g))]) (tr := [(cA, .int)]) (rV (C := "LineDisk$Journal") (ci := 2) (q0 := 0) (b := h0) (n := 2) (As := [.int ((nI jt0 * 16) + (nI k)), .int (cellv g (b * 16 + nI k))]) (rest := []) F hkw (g_Jo_put l dC dI h0 jr jh cR cH jt ro hd2 (nI jt0 * 16 + nI k) (cellv g (b * 16 + nI k)) H.size) xT_bl (fun _ _ _ => trivial) w_384 w_385 w_386 w_3 w_387 rfl rfl (by decide +kernel) ⟨Nat.le_trans (by decide) hRf, Nat.le_trans (by decide) hRl⟩ (hP.sub (ws' := [(h0, .inr (2, [.ref jr, .ref jh, .int (nI jt)])), (jr, .inl (cR, 96, .inl ro)), (jh, .inl (cH, 16, .inl hd2))]) [0, 1, 2] rfl) (hD.sub (ws' := [(h0, .inr (2, [.ref jr, .ref jh, .int (nI jt)])), (jr, .inl (cR, 96, .inl ro)), (jh, .inl (cH, 16, .inl hd2))]) [0, 1, 2] (by decide) rfl) (hK.sub (tys' := [(cR, .int), (cH, .int)]) [0, 1] rfl) rfl rfl rfl rfl hl.1 rfl (Nat.le_of_ble_eq_true rfl) d_Jo_takeAsItIs_39 ⟨hRc, hRs⟩) hP hD hK hS hA [0, 1, 2] [3, 4] [2] rfl rfl (by decide) (by decide) rfl (fun u2 H locs p2 hP hD hK hS => ?_)
    have hP : va_P (dC, dI) cls [(s0, .inr (1, [.ref c0, .int ar, .int de, .int wr])), (c0, .inl (cA, 512, .inl g)), (h0, .inr (2, [.ref jr, .ref jh, .int (nI jt)])), (jr, .inl (cR, 96, .inl u2)), (jh, .inl (cH, 16, .inl hd2))] H := hP
    have hD : va_D A [(s0, .inr (1, [.ref c0, .int ar, .int de, .int wr])), (c0, .inl (cA, 512, .inl g)), (h0, .inr (2, [.ref jr, .ref jh, .int (nI jt)])), (jr, .inl (cR, 96, .inl u2)), (jh, .inl (cH, 16, .inl hd2))] := hD
    have hK : va_K (dC, dI) cls [(cA, .int), (cR, .int), (cH, .int)] s := hK
    refine W.widen (k := cells) (n := slots) (Nat.le_refl _) (Nat.le_refl _) ?_
    refine lv_iinc (k := 0) (v := nI (k + 1)) hx hb d_Jo_takeAsItIs_42 hl rfl (by rw [lit1]; exact (nI_succ k).symm) (by decide) rfl (fun ls hl => ?_)
    have hl : lv_has ls 5 [(4, .int (nI (k + 1))), (0, .ref h0), (1, .ref s0), (2, .int b), (3, .int (nI jt0 * 16))] := hl
    refine lv_goto (tgt := 16) hx hb d_Jo_takeAsItIs_45 (by decide) ?_
    exact ih (k + 1) (by omega) ls _ _ u2 (lv_sub hl [0, 1, 2, 3, 4] rfl) (hP.sub [2, 3, 4, 0, 1] rfl) (hD.sub [2, 3, 4, 0, 1] (by decide) rfl) hS (by rw [p2, hf]; rfl)
set_option maxHeartbeats 4000000 in
set_option maxRecDepth 100000 in
theorem g_Jo_takeAsItIs (l : Launch) (dC : Nat → ClassId) (dI : Nat → Nat → Nat) (h0 jr jh : Nat) (cR cH : ClassId) (jt : Nat) (ro hd : Nat → Int32) (s0 c0 : Nat) (cA : ClassId) (ar de wr : Int32) (g : Nat → Int32) (b : Int32) (ht : jt < 6) (sz : Nat) : Met l y_Jo_takeAsItIs (Cond.code y_Jo_takeAsItIs b_Jo_takeAsItIs 5 none :: gw) ({ frames := 2, cells := 0, slots := 0, locals := 44 }) (cP (dC, dI) [.ref h0, .ref s0, .int b] sz [(h0, .inr (2, [.ref jr, .ref jh, .int (nI jt)])), (jr, .inl (cR, 96, .inl ro)), (jh, .inl (cH, 16, .inl hd)), (s0, .inr (1, [.ref c0, .int ar, .int de, .int wr])), (c0, .inl (cA, 512, .inl g))] [(cR, .int), (cH, .int), (cA, .int)] xT) (va_Qv (fun (u : Unit) => True) (fun (u : Unit) t => cB (dC, dI) (va_A [(h0, .inr (2, [.ref jr, .ref jh, .int (nI jt)])), (jr, .inl (cR, 96, .inl ro)), (jh, .inl (cH, 16, .inl hd)), (s0, .inr (1, [.ref c0, .int ar, .int de, .int wr])), (c0, .inl (cA, 512, .inl g))] sz) [(h0, .inr (2, [.ref jr, .ref jh, .int (nI (jt + 1))])), (jr, .inl (cR, 96, .inl (tkR g ro jt b 16))), (jh, .inl (cH, 16, .inl (upd (upd hd 0 (nI (jt + 1))) (jt + 1) b))), (s0, .inr (1, [.ref c0, .int ar, .int de, .int wr])), (c0, .inl (cA, 512, .inl g))] [(cR, .int), (cH, .int), (cA, .int)] t) (va_A [(h0, .inr (2, [.ref jr, .ref jh, .int (nI jt)])), (jr, .inl (cR, 96, .inl ro)), (jh, .inl (cH, 16, .inl hd)), (s0, .inr (1, [.ref c0, .int ar, .int de, .int wr])), (c0, .inl (cA, 512, .inl g))] sz)) 0 0 (va_A [(h0, .inr (2, [.ref jr, .ref jh, .int (nI jt)])), (jr, .inl (cR, 96, .inl ro)), (jh, .inl (cH, 16, .inl hd)), (s0, .inr (1, [.ref c0, .int ar, .int de, .int wr])), (c0, .inl (cA, 512, .inl g))] sz) := by
  refine Met.ofW (cc := b_Jo_takeAsItIs) (maxL := 5) (ret := none) (by decide) rfl ?_
  intro p e s m args below meth c s₁ B hml hv
  obtain ⟨rfl, hsz, hP, hK, hD0, hkw, hX⟩ := hv
  have hx := B.exec
  have hb := B.bytes
  have hr := B.returns
  have hts := fun w hw => atoms_spec (ws := Cond.code y_Jo_takeAsItIs b_Jo_takeAsItIs 5 none :: gw) B.pre w (List.mem_cons_of_mem _ hw)
  have hown : s.vm.findClass "LineDisk$Journal" = some m.cls := findClass_of_methodNamed B.named
  have hlocks := B.notSynchronized
  have hin := (name_of_methodNamed B.named B.method).1
  subst hsz
  have hD := hD0.self (sz := s.heap.size)
  generalize hAe : va_A [(h0, .inr (2, [.ref jr, .ref jh, .int (nI jt)])), (jr, .inl (cR, 96, .inl ro)), (jh, .inl (cH, 16, .inl hd)), (s0, .inr (1, [.ref c0, .int ar, .int de, .int wr])), (c0, .inl (cA, 512, .inl g))] s.heap.size = A at hD ⊢
  have hA : ∀ q : Nat, s.heap.size ≤ q → A q := fun q h => by rw [← hAe]; exact Or.inr h
  have hS : va_S A s.heap s.heap [] := va_S.rf
  have hl := lv_entry ([.ref h0, .ref s0, .int b]) (n := 5) (Nat.le_of_ble_eq_true rfl)
  rw [lg_entry_eq]
  generalize (lg_sl ([.ref h0, .ref s0, .int b]) ++ List.replicate (5 - (lg_sl ([.ref h0, .ref s0, .int b])).length) Slot.unset).toArray = ls at hl ⊢
  have hl : lv_has ls 5 [(0, .ref h0), (1, .ref s0), (2, .int b)] := hl
  have F : CallFix p m c b_Jo_takeAsItIs 5 s ([.ref h0, .ref s0, .int b]).toArray gw "LineDisk$Journal" := ⟨hx, hb, hml, hown, hts⟩
  refine lv_aload_n hx hb d_Jo_takeAsItIs_0 rfl (lv_at hl 0 rfl) ?_
  refine va_get (D := (dC, dI)) (ci := 2) (v := .int (nI jt)) (C := R_Jo) (T := F_Jo) (N := 3) hx hb hts in_Jo hown hK hP 0 rfl rfl 2 (by decide) (hts _ w_54) (fun _ h9 => h9) rfl d_Jo_takeAsItIs_1 ?_
  refine lv_bipush (v := 16) hx hb d_Jo_takeAsItIs_4 (by decide) ?_
  refine lv_imul hx hb d_Jo_takeAsItIs_6 ?_
  refine lv_istore_n (i := 3) hx hb d_Jo_takeAsItIs_7 rfl hl (by decide) rfl (fun ls hl => ?_)
  have hl : lv_has ls 5 [(3, .int ((nI jt) * 16)), (0, .ref h0), (1, .ref s0), (2, .int b)] := hl
  refine lv_aload_n hx hb d_Jo_takeAsItIs_8 rfl (lv_at hl 1 rfl) ?_
  refine lv_iload_n hx hb d_Jo_takeAsItIs_9 rfl (lv_at hl 3 rfl) ?_
  refine go_v (wr := [(s0, .inr (1, [.ref c0, .int ar, .int de, .int wr])), (c0, .inl (cA, 512, .inl g))]) (tr := [(cA, .int)]) (rV (C := "LineDisk$Journal") (ci := 2) (q0 := 0) (b := h0) (n := 1) (As := [.int b]) (rest := []) F hkw (g_Jo_takeEmpty1 l dC dI h0 jr jh cR cH jt ro hd b ht s.heap.size) xT_bl (fun _ _ _ => trivial) w_380 w_381 w_382 w_3 w_383 rfl rfl (by decide +kernel) ⟨Nat.le_of_ble_eq_true rfl, Nat.le_of_ble_eq_true rfl⟩ (hP.sub (ws' := [(h0, .inr (2, [.ref jr, .ref jh, .int (nI jt)])), (jr, .inl (cR, 96, .inl ro)), (jh, .inl (cH, 16, .inl hd))]) [0, 1, 2] rfl) (hD.sub (ws' := [(h0, .inr (2, [.ref jr, .ref jh, .int (nI jt)])), (jr, .inl (cR, 96, .inl ro)), (jh, .inl (cH, 16, .inl hd))]) [0, 1, 2] (by decide) rfl) (hK.sub (tys' := [(cR, .int), (cH, .int)]) [0, 1] rfl) rfl rfl rfl rfl hl.1 rfl (Nat.le_of_ble_eq_true rfl) d_Jo_takeAsItIs_10 ⟨by decide, by decide⟩) hP hD hK hS hA [0, 1, 2] [3, 4] [2] rfl rfl (by decide) (by decide) rfl (fun u H locs _ hP hD hK hS => ?_)
  have hP : va_P (dC, dI) cls [(s0, .inr (1, [.ref c0, .int ar, .int de, .int wr])), (c0, .inl (cA, 512, .inl g)), (h0, .inr (2, [.ref jr, .ref jh, .int (nI (jt + 1))])), (jr, .inl (cR, 96, .inl ro)), (jh, .inl (cH, 16, .inl (upd (upd hd 0 (nI (jt + 1))) (jt + 1) b)))] H := hP
  have hD : va_D A [(s0, .inr (1, [.ref c0, .int ar, .int de, .int wr])), (c0, .inl (cA, 512, .inl g)), (h0, .inr (2, [.ref jr, .ref jh, .int (nI (jt + 1))])), (jr, .inl (cR, 96, .inl ro)), (jh, .inl (cH, 16, .inl (upd (upd hd 0 (nI (jt + 1))) (jt + 1) b)))] := hD
  have hK : va_K (dC, dI) cls [(cA, .int), (cR, .int), (cH, .int)] s := hK
  refine W.widen (k := 0) (n := 0) (by omega) (by omega) ?_
  refine lv_iconst (v := 0) hx hb d_Jo_takeAsItIs_13 (by decide) ?_
  refine lv_istore hx hb d_Jo_takeAsItIs_14 hl (by decide) rfl (fun ls hl => ?_)
  have hl : lv_has ls 5 [(4, .int 0), (3, .int ((nI jt) * 16)), (0, .ref h0), (1, .ref s0), (2, .int b)] := hl
  refine lp_Jo_take hx hb hml hts hown hkw hA h0 jr jh cR cH (jt + 1) hd s0 c0 cA ar de wr g b (upd (upd hd 0 (nI (jt + 1))) (jt + 1) b) ro jt (hK.sub [1, 2, 0] rfl) (by decide) (by decide) (by decide) (by decide) (fun k _ ls H locs ro2 hl hP hD hS hf => ?_) 16 0 (by decide) ls _ _ ro (lv_sub hl [0, 2, 3, 4, 1] rfl) (hP.sub [2, 3, 4, 0, 1] rfl) (hD.sub [2, 3, 4, 0, 1] (by decide) rfl) hS rfl
  subst hf
  have hK := hK.sub (tys' := [(cR, .int), (cH, .int), (cA, .int)]) [1, 2, 0] rfl
  refine W.widen (k := 0) (n := 0) (by decide) (by decide) ?_
  exact W.vret hx hb hr (fun t ht hW => ⟨⟨(), rfl, trivial, cB.of (hP.sub [0, 1, 2, 3, 4] rfl) (hD.sub [0, 1, 2, 3, 4] (by decide) rfl) (hK.sub [0, 1, 2] rfl) ht hW⟩, hS.F ht⟩) hS.2.2 d_Jo_takeAsItIs_48
