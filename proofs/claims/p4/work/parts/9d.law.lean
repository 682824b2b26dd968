/-! the law -/
theorem vX_of {args : Array Value} {s : State} {tm : Term} {t : Nat} {f : Nat → Int32} {A : Nat → Prop} (hlen : (Term.length tm).eval args s none [] s = some (.int (Int32.ofNat 16))) (ht : tm.eval args s none [] s = some (.ref t)) (hT : va_T .int t 16 (fun j => .int (f j)) A s s.heap) : va_X t 16 f s s.heap := by
  obtain ⟨cell, h1, h2, h3, h4, h5, h6, h7⟩ := hT
  obtain ⟨a, cell2, ht2, harr, hv⟩ := Term.length_spec hlen
  cases ht.symm.trans ht2
  obtain ⟨hc2, -, -, -⟩ := State.arrayAt?_spec harr
  cases h1.symm.trans hc2
  have hsz : cell.slots.size < 2 ^ 31 := by
    have hw := hlen
    simp only [Term.eval, ht, harr, Option.bind_eq_bind, Option.bind_some] at hw
    by_cases hlt : cell.slots.size < 2147483648
    · exact hlt
    · simp [hlt] at hw
  have he : nI cell.slots.size = nI 16 := h5
  exact ⟨cell, h1, h2, h3, (nI_eq hsz (by decide)).mp he, h6⟩
theorem RI_zero : RI 0 (noF zR1) := by
  refine ⟨LI_no _, ⟨⟨fun _ => 0, DV_0 rfl (fun _ _ => rfl), FOK_0 (fun _ _ _ => rfl)⟩, fun _ => rfl, fun _ => rfl⟩, Nat.le_refl _⟩
theorem LOk_zero : LOk zL0 := ⟨Nat.zero_le _, Nat.zero_le _⟩
/-! THE CLAIM OUT OF ONE WALK OF THE LAW'S BODY. Your part is whole_start (and what it stands on); all else here is the same for every law, but numbers. -/
def R_law : String := "LineDiskLaw"
def lw_P (b : Addr) (xs : List Int32) (args : Array Value) (s : State) : Prop := args = #[.ref b] ∧ s.IntsAt b xs ∧ xs.length ≤ 1024 ∧ (Jvm.Cond.and given_1 narrow_1).before args s = true
def lw_Q (_ : Array Value) (s : State) (o : Outcome) (t : State) : Prop := o = .returned (some (.int 1)) ∧ Framed s o t [] 601024 7293034
def lw_Z (below : List Frame) (a : Array Value) (s : State) : State → Prop := fun t => ∃ o, t.status = .running ∧ Ended t below o ∧ lw_Q a s o t
/-- the law's own end, with 1 on the stack, nothing written that was there before, its room as the claim has it -/
theorem lw_ret {p : Program} {l : Launch} {e : Env} {s : State} {m : MethodId} {below : List Frame} {meth : Method} {c : Code} {b : Nat} (hx : p.tables.exec = Jvm.exec) (hb : c.code = code) (hr : meth.sig.returnType = ret) (hlocks : meth.locks = false) {pc : Nat} {H : Heap} {ls : Array Slot} (hdg : decode code pc = .ok (.ireturn, 1)) : W p l e room_1 s m #[Value.ref b] below meth c H [] 601024 7293034 (lw_Z below #[Value.ref b] s) (F0 m pc ls [.int 1]) := by
  intro T hT X
  obtain ⟨fs, hret, hrun, hended, hW, hframe⟩ := X.leave (v := some (.int 1)) (hlocks := hlocks) (fun h => by rw [hr] at h; cases h)
  have hmeth' : T.vm.method? m = some meth := X.method'
  refine ⟨T.setFrames fs, ?_, .returned (some (.int 1)), hrun, hended, rfl, ⟨_, rfl⟩, hW, hframe⟩
  jvm_step X.here [X.here.top, hx, hb, hdg, hmeth', hr, ret, narrow_b1]
  (try refine ⟨rfl, ?_⟩); (try refine ⟨rfl, ?_⟩)
  first | (intro acts; rw [hret _ acts rfl rfl rfl]) | rw [hret _ _ rfl rfl rfl]
  exact Steps.refl _
/-- what holds at the law's entry: the machine, the code, the tables' words (any of lw_tbl by 'hts w (by decide +kernel)'), the script of L ints xs at the cell b, what the Statement gives of the start (any of its parts by flat_of_before) -/
def lw_At (p : Program) (s : State) (m : MethodId) (meth : Method) (c : Code) (b L : Nat) (xs : Nat → Int32) : Prop :=
  p.tables.exec = Jvm.exec ∧ c.code = code ∧ meth.sig.returnType = ret ∧ c.maxLocals = 7 ∧ s.vm.findClass R_law = some m.cls ∧ (∀ w ∈ lw_tbl, w.before #[Value.ref b] s = true) ∧ va_X b L xs s s.heap ∧ b < s.heap.size ∧ meth.locks = false ∧ (Jvm.Cond.and given_1 narrow_1).before #[Value.ref b] s = true
set_option maxHeartbeats 40000000 in
set_option maxRecDepth 100000 in
theorem whole_start {p : Program} {e : Env} {s : State} {m : MethodId} {below : List Frame} {meth : Method} {c : Code} (l : Launch) (hfl : l.flags = flags0) {b L : Nat} {xs : Nat → Int32} (hL : L ≤ 1024) (C0 : lw_At p s m meth c b L xs) : W p l e room_1 s m #[Value.ref b] below meth c s.heap [] 0 0 (lw_Z below #[Value.ref b] s) (entryFrame m ([Value.ref b] : List Value).toArray 7) := by
  obtain ⟨hx, hb, hr, hml, hown, htsL, hXs, hbl, hlocks, hgv⟩ := C0
  have hown : s.vm.findClass "LineDiskLaw" = some m.cls := hown
  have hts := gw_lw htsL
  have hkw := kw.of htsL
  have hs := flat_of_before _ hgv
  obtain ⟨cc0, ii0, kk0⟩ := u_known (C := R_Ld) (T := F_Ld) (N := 6) hts in_Ld (hts _ w_16)
  obtain ⟨cc1, ii1, kk1⟩ := u_known (C := R_St) (T := F_St) (N := 4) hts in_St (hts _ w_24)
  obtain ⟨cc2, ii2, kk2⟩ := u_known (C := R_Jo) (T := F_Jo) (N := 3) hts in_Jo (hts _ w_47)
  obtain ⟨cc3, ii3, kk3⟩ := u_known (C := R_Wo) (T := F_Wo) (N := 9) hts in_Wo (hts _ w_63)
  obtain ⟨cc4, ii4, kk4⟩ := u_known (C := R_Sm) (T := F_Sm) (N := 12) hts in_Sm (hts _ w_104)
  obtain ⟨cc5, ii5, kk5⟩ := u_known (C := R_Mo) (T := F_Mo) (N := 25) hts in_Mo (hts _ w_584)
  obtain ⟨dC, hdC⟩ : ∃ d : Nat → ClassId, d = fun n => match n with | 0 => cc0 | 1 => cc1 | 2 => cc2 | 3 => cc3 | 4 => cc4 | _ => cc5 := ⟨_, rfl⟩
  obtain ⟨dI, hdI⟩ : ∃ d : Nat → Nat → Nat, d = fun n => match n with | 0 => ii0 | 1 => ii1 | 2 => ii2 | 3 => ii3 | 4 => ii4 | _ => ii5 := ⟨_, rfl⟩
  have hK : va_K (dC, dI) cls [] s := by
    subst hdC hdI
    refine ⟨fun c q h => ?_, fun k q h => (by cases h)⟩
    match c, h with
    | 0, h => cases h; exact kk0
    | 1, h => cases h; exact kk1
    | 2, h => cases h; exact kk2
    | 3, h => cases h; exact kk3
    | 4, h => cases h; exact kk4
    | 5, h => cases h; exact kk5
    | n + 6, h => cases h
  clear hdC hdI
  obtain ⟨A, hAe⟩ : ∃ A : Nat → Prop, A = fun q => s.heap.size ≤ q := ⟨_, rfl⟩
  have hA : ∀ q : Nat, s.heap.size ≤ q → A q := fun q h => by rw [hAe]; exact h
  have hA0 : ∀ q : Nat, q < s.heap.size → ¬ A q := fun q h g => by rw [hAe] at g; exact absurd h (Nat.not_lt.mpr g)
  have hA1 : ∀ q : Nat, A q → s.heap.size ≤ q := fun q h => by rw [hAe] at h; exact h
  have hbA : ¬ A b := hA0 b hbl
  clear hAe
  have len1 : (Term.length (.static "LineDisk" "EMPTY_BLOCK" "[I")).eval #[Value.ref b] s none [] s = some (.int (Int32.ofNat 16)) := va_eqt (hs _ (by decide +kernel))
  obtain ⟨t1, et1, hT1⟩ := va_Tof (args := #[Value.ref b]) (s := s) (tm := .static "LineDisk" "EMPTY_BLOCK" "[I") (ty := .int) (N := 16) (f := fun j => .int ((fun _ => 0 : Nat → Int32) j)) (A := A) (by decide) (hs _ (by decide +kernel)) len1 (fun j hj => by
    match j, hj with
    | 0, _ => exact va_eqt (hs _ (by decide +kernel))
    | 1, _ => exact va_eqt (hs _ (by decide +kernel))
    | 2, _ => exact va_eqt (hs _ (by decide +kernel))
    | 3, _ => exact va_eqt (hs _ (by decide +kernel))
    | 4, _ => exact va_eqt (hs _ (by decide +kernel))
    | 5, _ => exact va_eqt (hs _ (by decide +kernel))
    | 6, _ => exact va_eqt (hs _ (by decide +kernel))
    | 7, _ => exact va_eqt (hs _ (by decide +kernel))
    | 8, _ => exact va_eqt (hs _ (by decide +kernel))
    | 9, _ => exact va_eqt (hs _ (by decide +kernel))
    | 10, _ => exact va_eqt (hs _ (by decide +kernel))
    | 11, _ => exact va_eqt (hs _ (by decide +kernel))
    | 12, _ => exact va_eqt (hs _ (by decide +kernel))
    | 13, _ => exact va_eqt (hs _ (by decide +kernel))
    | 14, _ => exact va_eqt (hs _ (by decide +kernel))
    | 15, _ => exact va_eqt (hs _ (by decide +kernel))
    | j + 16, h => exact absurd h (by omega)) hA0
  have hXt1 := vX_of len1 et1 hT1
  have hZt1 := va_Zref (A := A) (htsL _ (List.mem_append_right _ (List.mem_of_getElem? (i := 176) (by decide +kernel)))) (hts _ w_1) et1 hA0
  have hlt1 : t1 < s.heap.size := by
    obtain ⟨cell, h1, -⟩ := hXt1
    exact (Array.getElem?_eq_some_iff.mp h1).1
  have len2 : (Term.length (.static "LineDisk" "FORMATTED_HEAD" "[I")).eval #[Value.ref b] s none [] s = some (.int (Int32.ofNat 16)) := va_eqt (hs _ (by decide +kernel))
  obtain ⟨t2, et2, hT2⟩ := va_Tof (args := #[Value.ref b]) (s := s) (tm := .static "LineDisk" "FORMATTED_HEAD" "[I") (ty := .int) (N := 16) (f := fun j => .int ((fun j => if j = 0 then 7077 else 0 : Nat → Int32) j)) (A := A) (by decide) (hs _ (by decide +kernel)) len2 (fun j hj => by
    match j, hj with
    | 0, _ => exact va_eqt (hs _ (by decide +kernel))
    | 1, _ => exact va_eqt (hs _ (by decide +kernel))
    | 2, _ => exact va_eqt (hs _ (by decide +kernel))
    | 3, _ => exact va_eqt (hs _ (by decide +kernel))
    | 4, _ => exact va_eqt (hs _ (by decide +kernel))
    | 5, _ => exact va_eqt (hs _ (by decide +kernel))
    | 6, _ => exact va_eqt (hs _ (by decide +kernel))
    | 7, _ => exact va_eqt (hs _ (by decide +kernel))
    | 8, _ => exact va_eqt (hs _ (by decide +kernel))
    | 9, _ => exact va_eqt (hs _ (by decide +kernel))
    | 10, _ => exact va_eqt (hs _ (by decide +kernel))
    | 11, _ => exact va_eqt (hs _ (by decide +kernel))
    | 12, _ => exact va_eqt (hs _ (by decide +kernel))
    | 13, _ => exact va_eqt (hs _ (by decide +kernel))
    | 14, _ => exact va_eqt (hs _ (by decide +kernel))
    | 15, _ => exact va_eqt (hs _ (by decide +kernel))
    | j + 16, h => exact absurd h (by omega)) hA0
  have hXt2 := vX_of len2 et2 hT2
  have hZt2 := va_Zref (A := A) (htsL _ (List.mem_append_right _ (List.mem_of_getElem? (i := 185) (by decide +kernel)))) (hts _ w_1) et2 hA0
  have hlt2 : t2 < s.heap.size := by
    obtain ⟨cell, h1, -⟩ := hXt2
    exact (Array.getElem?_eq_some_iff.mp h1).1
  have hzz1 : zS "UNASSIGNED_STACK" "[Ljava/lang/StackTraceElement;" s s.heap := zS.of (args := #[Value.ref b]) (htsL _ (List.mem_append_right _ (List.mem_of_getElem? (i := 511) (by decide +kernel)))) (hs _ (by decide +kernel))
  have hzz2 : zS "SUPPRESSED_SENTINEL" "Ljava/util/List;" s s.heap := zS.of (args := #[Value.ref b]) (htsL _ (List.mem_append_right _ (List.mem_of_getElem? (i := 513) (by decide +kernel)))) (hs _ (by decide +kernel))
  obtain ⟨qs112, _, _, _, es112, -⟩ := Cond.exactly_spec (hs (Cond.exactly (.string "LineDisk" 112) "java/lang/String") (by decide +kernel))
  have hE112 : xE 112 "armed with 0 to 1000 writes" qs112 s := ⟨vk_R.of (htsL _ (List.mem_append_right _ (List.mem_of_getElem? (i := 524) (by decide +kernel)))) es112, hzz1, hzz2⟩
  obtain ⟨qs119, _, _, _, es119, -⟩ := Cond.exactly_spec (hs (Cond.exactly (.string "LineDisk" 119) "java/lang/String") (by decide +kernel))
  have hE119 : xE 119 "no such number is kept" qs119 s := ⟨vk_R.of (htsL _ (List.mem_append_right _ (List.mem_of_getElem? (i := 568) (by decide +kernel)))) es119, hzz1, hzz2⟩
  obtain ⟨qs122, _, _, _, es122, -⟩ := Cond.exactly_spec (hs (Cond.exactly (.string "LineDisk" 122) "java/lang/String") (by decide +kernel))
  have hE122 : xE 122 "no such cell" qs122 s := ⟨vk_R.of (htsL _ (List.mem_append_right _ (List.mem_of_getElem? (i := 582) (by decide +kernel)))) es122, hzz1, hzz2⟩
  have hP : va_P (dC, dI) cls [] s.heap := nilP
  have hD : va_D A [] := nilD
  have hS : va_S A s.heap s.heap [] := va_S.rf
  have hl := lv_entry ([.ref b]) (n := 7) (Nat.le_of_ble_eq_true rfl)
  rw [lg_entry_eq]
  generalize (lg_sl ([.ref b]) ++ List.replicate (7 - (lg_sl ([.ref b])).length) Slot.unset).toArray = ls at hl ⊢
  have hl : lv_has ls 7 [(0, .ref b)] := hl
  have F : CallFix p m c b_La_law 7 s #[Value.ref b] gw "LineDiskLaw" := ⟨hx, hb, hml, hown, hts⟩
  refine va_new (ci := 0) (fs := [.null, .null, .null, .null, .null, .int 0]) (C := R_Ld) (T := F_Ld) (N := 6) hx hb hts in_Ld t_Ld t_Ld_ok hown (hts _ w_15) (hts _ w_16) (hts _ w_1) hK hP hD hS hA rfl (fun j hj => by match j, hj with | 0, _ => rfl | 1, _ => rfl | 2, _ => rfl | 3, _ => rfl | 4, _ => rfl | 5, _ => rfl | j + 6, h => exact absurd h (by omega)) (by decide) (by decide) d_La_law_0 (fun q0 H hP hD hS => ?_)
  have hP : va_P (dC, dI) cls [(q0, .inr (0, [.null, .null, .null, .null, .null, .int 0]))] H := hP
  have hD : va_D A [(q0, .inr (0, [.null, .null, .null, .null, .null, .int 0]))] := hD
  refine W.widen (k := 1) (n := 6) (by omega) (by omega) ?_
  refine lv_dup hx hb d_La_law_3 rfl ?_
  refine go_v (wr := []) (tr := []) (rI (b := q0) (n := 0) (As := []) (rest := [.ref q0]) F hkw (c_Ld_init l dC dI q0 H.size) xT_bl (fun _ _ _ => trivial) w_17 w_18 w_1 w_19 rfl rfl rfl (by decide +kernel) ⟨Nat.le_of_ble_eq_true rfl, Nat.le_of_ble_eq_true rfl⟩ (hP.sub (ws' := [(q0, .inr (0, [.null, .null, .null, .null, .null, .int 0]))]) [0] rfl) (hD.sub (ws' := [(q0, .inr (0, [.null, .null, .null, .null, .null, .int 0]))]) [0] (by decide) rfl) (hK.sub (tys' := []) [] rfl) rfl hl.1 rfl (Nat.le_of_ble_eq_true rfl) d_La_law_4 ⟨by decide, by decide⟩) hP hD hK hS hA [0] [] [] rfl rfl (by decide) (by decide) rfl (fun u H locs _ hP hD hK hS => ?_)
  obtain ⟨a0, ka⟩ := u
  have hP : va_P (dC, dI) cls [(q0, .inr (0, [.ref (a0 0), .ref (a0 2), .ref (a0 5), .ref (a0 12), .ref (a0 15), .int 0])), (a0 0, .inr (1, [.ref (a0 1), .int (-1), .int 0, .int 0])), (a0 1, .inl (ka 0, 512, .inl (fun _ => 0))), (a0 2, .inr (2, [.ref (a0 3), .ref (a0 4), .int 0])), (a0 3, .inl (ka 1, 96, .inl (fun _ => 0))), (a0 4, .inl (ka 2, 16, .inl (fun _ => 0))), (a0 5, .inr (3, [.ref (a0 6), .ref (a0 7), .ref (a0 8), .ref (a0 9), .ref (a0 10), .ref (a0 11), .int 0, .int 0, .int 0])), (a0 6, .inl (ka 3, 10, .inl (fun _ => 0))), (a0 7, .inl (ka 4, 10, .inl (fun _ => 0))), (a0 8, .inl (ka 5, 120, .inl (fun _ => 0))), (a0 9, .inl (ka 6, 12, .inl (fun _ => 0))), (a0 10, .inl (ka 7, 8, .inl (fun _ => 0))), (a0 11, .inl (ka 8, 15, .inl (fun _ => 0))), (a0 12, .inr (4, [.ref (a0 13), .ref (a0 14), .int 0, .int 0, .int 0, .int 0, .int 0, .int 0, .int 0, .int 0, .int 0, .int 0])), (a0 13, .inl (ka 9, 12, .inl (fun _ => 0))), (a0 14, .inl (ka 10, 8, .inl (fun _ => 0))), (a0 15, .inl (ka 11, 60, .inl (fun _ => 0)))] H := hP
  have hD : va_D A [(q0, .inr (0, [.ref (a0 0), .ref (a0 2), .ref (a0 5), .ref (a0 12), .ref (a0 15), .int 0])), (a0 0, .inr (1, [.ref (a0 1), .int (-1), .int 0, .int 0])), (a0 1, .inl (ka 0, 512, .inl (fun _ => 0))), (a0 2, .inr (2, [.ref (a0 3), .ref (a0 4), .int 0])), (a0 3, .inl (ka 1, 96, .inl (fun _ => 0))), (a0 4, .inl (ka 2, 16, .inl (fun _ => 0))), (a0 5, .inr (3, [.ref (a0 6), .ref (a0 7), .ref (a0 8), .ref (a0 9), .ref (a0 10), .ref (a0 11), .int 0, .int 0, .int 0])), (a0 6, .inl (ka 3, 10, .inl (fun _ => 0))), (a0 7, .inl (ka 4, 10, .inl (fun _ => 0))), (a0 8, .inl (ka 5, 120, .inl (fun _ => 0))), (a0 9, .inl (ka 6, 12, .inl (fun _ => 0))), (a0 10, .inl (ka 7, 8, .inl (fun _ => 0))), (a0 11, .inl (ka 8, 15, .inl (fun _ => 0))), (a0 12, .inr (4, [.ref (a0 13), .ref (a0 14), .int 0, .int 0, .int 0, .int 0, .int 0, .int 0, .int 0, .int 0, .int 0, .int 0])), (a0 13, .inl (ka 9, 12, .inl (fun _ => 0))), (a0 14, .inl (ka 10, 8, .inl (fun _ => 0))), (a0 15, .inl (ka 11, 60, .inl (fun _ => 0)))] := hD
  have hK : va_K (dC, dI) cls [(ka 0, .int), (ka 1, .int), (ka 2, .int), (ka 3, .int), (ka 4, .int), (ka 5, .int), (ka 6, .int), (ka 7, .int), (ka 8, .int), (ka 9, .int), (ka 10, .int), (ka 11, .int)] s := hK
  refine W.widen (k := 17) (n := 913) (by omega) (by omega) ?_
  refine lv_astore_n (i := 1) hx hb d_La_law_7 rfl hl (by decide) rfl (fun ls hl => ?_)
  have hl : lv_has ls 7 [(1, .ref q0), (0, .ref b)] := hl
  refine va_new (ci := 5) (fs := [.int 0, .null, .int 0, .int 0, .int 0, .null, .null, .null, .int 0, .int 0, .null, .int 0, .null, .int 0, .int 0, .int 0, .int 0, .int 0, .int 0, .null, .int 0, .null, .int 0, .null, .null]) (C := R_Mo) (T := F_Mo) (N := 25) hx hb hts in_Mo t_Mo t_Mo_ok hown (hts _ w_583) (hts _ w_584) (hts _ w_6) hK hP hD hS hA rfl (fun j hj => by match j, hj with | 0, _ => rfl | 1, _ => rfl | 2, _ => rfl | 3, _ => rfl | 4, _ => rfl | 5, _ => rfl | 6, _ => rfl | 7, _ => rfl | 8, _ => rfl | 9, _ => rfl | 10, _ => rfl | 11, _ => rfl | 12, _ => rfl | 13, _ => rfl | 14, _ => rfl | 15, _ => rfl | 16, _ => rfl | 17, _ => rfl | 18, _ => rfl | 19, _ => rfl | 20, _ => rfl | 21, _ => rfl | 22, _ => rfl | 23, _ => rfl | 24, _ => rfl | j + 25, h => exact absurd h (by omega)) (by decide) (by decide) d_La_law_8 (fun q8 H hP hD hS => ?_)
  have hP : va_P (dC, dI) cls [(q0, .inr (0, [.ref (a0 0), .ref (a0 2), .ref (a0 5), .ref (a0 12), .ref (a0 15), .int 0])), (a0 0, .inr (1, [.ref (a0 1), .int (-1), .int 0, .int 0])), (a0 1, .inl (ka 0, 512, .inl (fun _ => 0))), (a0 2, .inr (2, [.ref (a0 3), .ref (a0 4), .int 0])), (a0 3, .inl (ka 1, 96, .inl (fun _ => 0))), (a0 4, .inl (ka 2, 16, .inl (fun _ => 0))), (a0 5, .inr (3, [.ref (a0 6), .ref (a0 7), .ref (a0 8), .ref (a0 9), .ref (a0 10), .ref (a0 11), .int 0, .int 0, .int 0])), (a0 6, .inl (ka 3, 10, .inl (fun _ => 0))), (a0 7, .inl (ka 4, 10, .inl (fun _ => 0))), (a0 8, .inl (ka 5, 120, .inl (fun _ => 0))), (a0 9, .inl (ka 6, 12, .inl (fun _ => 0))), (a0 10, .inl (ka 7, 8, .inl (fun _ => 0))), (a0 11, .inl (ka 8, 15, .inl (fun _ => 0))), (a0 12, .inr (4, [.ref (a0 13), .ref (a0 14), .int 0, .int 0, .int 0, .int 0, .int 0, .int 0, .int 0, .int 0, .int 0, .int 0])), (a0 13, .inl (ka 9, 12, .inl (fun _ => 0))), (a0 14, .inl (ka 10, 8, .inl (fun _ => 0))), (a0 15, .inl (ka 11, 60, .inl (fun _ => 0))), (q8, .inr (5, [.int 0, .null, .int 0, .int 0, .int 0, .null, .null, .null, .int 0, .int 0, .null, .int 0, .null, .int 0, .int 0, .int 0, .int 0, .int 0, .int 0, .null, .int 0, .null, .int 0, .null, .null]))] H := hP
  have hD : va_D A [(q0, .inr (0, [.ref (a0 0), .ref (a0 2), .ref (a0 5), .ref (a0 12), .ref (a0 15), .int 0])), (a0 0, .inr (1, [.ref (a0 1), .int (-1), .int 0, .int 0])), (a0 1, .inl (ka 0, 512, .inl (fun _ => 0))), (a0 2, .inr (2, [.ref (a0 3), .ref (a0 4), .int 0])), (a0 3, .inl (ka 1, 96, .inl (fun _ => 0))), (a0 4, .inl (ka 2, 16, .inl (fun _ => 0))), (a0 5, .inr (3, [.ref (a0 6), .ref (a0 7), .ref (a0 8), .ref (a0 9), .ref (a0 10), .ref (a0 11), .int 0, .int 0, .int 0])), (a0 6, .inl (ka 3, 10, .inl (fun _ => 0))), (a0 7, .inl (ka 4, 10, .inl (fun _ => 0))), (a0 8, .inl (ka 5, 120, .inl (fun _ => 0))), (a0 9, .inl (ka 6, 12, .inl (fun _ => 0))), (a0 10, .inl (ka 7, 8, .inl (fun _ => 0))), (a0 11, .inl (ka 8, 15, .inl (fun _ => 0))), (a0 12, .inr (4, [.ref (a0 13), .ref (a0 14), .int 0, .int 0, .int 0, .int 0, .int 0, .int 0, .int 0, .int 0, .int 0, .int 0])), (a0 13, .inl (ka 9, 12, .inl (fun _ => 0))), (a0 14, .inl (ka 10, 8, .inl (fun _ => 0))), (a0 15, .inl (ka 11, 60, .inl (fun _ => 0))), (q8, .inr (5, [.int 0, .null, .int 0, .int 0, .int 0, .null, .null, .null, .int 0, .int 0, .null, .int 0, .null, .int 0, .int 0, .int 0, .int 0, .int 0, .int 0, .null, .int 0, .null, .int 0, .null, .null]))] := hD
  refine W.widen (k := 18) (n := 938) (by omega) (by omega) ?_
  refine lv_dup hx hb d_La_law_11 rfl ?_
  refine go_v (wr := [(q0, .inr (0, [.ref (a0 0), .ref (a0 2), .ref (a0 5), .ref (a0 12), .ref (a0 15), .int 0])), (a0 0, .inr (1, [.ref (a0 1), .int (-1), .int 0, .int 0])), (a0 1, .inl (ka 0, 512, .inl (fun _ => 0))), (a0 2, .inr (2, [.ref (a0 3), .ref (a0 4), .int 0])), (a0 3, .inl (ka 1, 96, .inl (fun _ => 0))), (a0 4, .inl (ka 2, 16, .inl (fun _ => 0))), (a0 5, .inr (3, [.ref (a0 6), .ref (a0 7), .ref (a0 8), .ref (a0 9), .ref (a0 10), .ref (a0 11), .int 0, .int 0, .int 0])), (a0 6, .inl (ka 3, 10, .inl (fun _ => 0))), (a0 7, .inl (ka 4, 10, .inl (fun _ => 0))), (a0 8, .inl (ka 5, 120, .inl (fun _ => 0))), (a0 9, .inl (ka 6, 12, .inl (fun _ => 0))), (a0 10, .inl (ka 7, 8, .inl (fun _ => 0))), (a0 11, .inl (ka 8, 15, .inl (fun _ => 0))), (a0 12, .inr (4, [.ref (a0 13), .ref (a0 14), .int 0, .int 0, .int 0, .int 0, .int 0, .int 0, .int 0, .int 0, .int 0, .int 0])), (a0 13, .inl (ka 9, 12, .inl (fun _ => 0))), (a0 14, .inl (ka 10, 8, .inl (fun _ => 0))), (a0 15, .inl (ka 11, 60, .inl (fun _ => 0)))]) (tr := [(ka 0, .int), (ka 1, .int), (ka 2, .int), (ka 3, .int), (ka 4, .int), (ka 5, .int), (ka 6, .int), (ka 7, .int), (ka 8, .int), (ka 9, .int), (ka 10, .int), (ka 11, .int)]) (rI (b := q8) (n := 0) (As := []) (rest := [.ref q8]) F hkw (c_Mo_init l dC dI q8 H.size) xT_bl (fun _ _ _ => trivial) w_585 w_586 w_6 w_587 rfl rfl rfl (by decide +kernel) ⟨Nat.le_of_ble_eq_true rfl, Nat.le_of_ble_eq_true rfl⟩ (hP.sub (ws' := [(q8, .inr (5, [.int 0, .null, .int 0, .int 0, .int 0, .null, .null, .null, .int 0, .int 0, .null, .int 0, .null, .int 0, .int 0, .int 0, .int 0, .int 0, .int 0, .null, .int 0, .null, .int 0, .null, .null]))]) [17] rfl) (hD.sub (ws' := [(q8, .inr (5, [.int 0, .null, .int 0, .int 0, .int 0, .null, .null, .null, .int 0, .int 0, .null, .int 0, .null, .int 0, .int 0, .int 0, .int 0, .int 0, .int 0, .null, .int 0, .null, .int 0, .null, .null]))]) [17] (by decide) rfl) (hK.sub (tys' := []) [] rfl) rfl hl.1 rfl (Nat.le_of_ble_eq_true rfl) d_La_law_12 ⟨by decide, by decide⟩) hP hD hK hS hA [17] [0, 1, 2, 3, 4, 5, 6, 7, 8, 9, 10, 11, 12, 13, 14, 15, 16] [0, 1, 2, 3, 4, 5, 6, 7, 8, 9, 10, 11] rfl rfl (by decide) (by decide) rfl (fun ub H locs _ hP hD hK hS => ?_)
  have hP : va_P (dC, dI) cls [(q0, .inr (0, [.ref (a0 0), .ref (a0 2), .ref (a0 5), .ref (a0 12), .ref (a0 15), .int 0])), (a0 0, .inr (1, [.ref (a0 1), .int (-1), .int 0, .int 0])), (a0 1, .inl (ka 0, 512, .inl (fun _ => 0))), (a0 2, .inr (2, [.ref (a0 3), .ref (a0 4), .int 0])), (a0 3, .inl (ka 1, 96, .inl (fun _ => 0))), (a0 4, .inl (ka 2, 16, .inl (fun _ => 0))), (a0 5, .inr (3, [.ref (a0 6), .ref (a0 7), .ref (a0 8), .ref (a0 9), .ref (a0 10), .ref (a0 11), .int 0, .int 0, .int 0])), (a0 6, .inl (ka 3, 10, .inl (fun _ => 0))), (a0 7, .inl (ka 4, 10, .inl (fun _ => 0))), (a0 8, .inl (ka 5, 120, .inl (fun _ => 0))), (a0 9, .inl (ka 6, 12, .inl (fun _ => 0))), (a0 10, .inl (ka 7, 8, .inl (fun _ => 0))), (a0 11, .inl (ka 8, 15, .inl (fun _ => 0))), (a0 12, .inr (4, [.ref (a0 13), .ref (a0 14), .int 0, .int 0, .int 0, .int 0, .int 0, .int 0, .int 0, .int 0, .int 0, .int 0])), (a0 13, .inl (ka 9, 12, .inl (fun _ => 0))), (a0 14, .inl (ka 10, 8, .inl (fun _ => 0))), (a0 15, .inl (ka 11, 60, .inl (fun _ => 0))), (q8, .inr (5, [.int ((noF zR1).th), .ref ub.pdk, .int ((noF zR1).ar), .int ((noF zR1).de), .int ((noF zR1).wr), .ref ub.pln, .ref ub.pch, .ref ub.pva, .int ((noF zR1).nx), .int (nI ((noF zR1).os)), .ref ub.pou, .int (nI ((noF zR1).tn)), .ref ub.ptx, .int ((noF zR1).ol), .int (nI ((noF zR1).fm)), .int (nI ((noF zR1).at1)), .int (nI ((noF zR1).en)), .int ((noF zR1).go), .int (nI ((noF zR1).nn)), .ref ub.pnb, .int (nI ((noF zR1).sn)), .ref ub.psg, .int (nI ((noF zR1).my)), .ref ub.pwh, .ref ub.pce])), (ub.pdk, .inl (ub.cdk, 512, .inl ((noF zR1).dk))), (ub.pln, .inl (ub.cln, 100, .inl ((noF zR1).ln))), (ub.pch, .inl (ub.cch, 1200, .inl ((noF zR1).ch))), (ub.pva, .inl (ub.cva, 8, .inl ((noF zR1).va))), (ub.pou, .inl (ub.cou, 60, .inl ((noF zR1).ou))), (ub.ptx, .inl (ub.ctx, 15, .inl ((noF zR1).tx))), (ub.pnb, .inl (ub.cnb, 16, .inl ((noF zR1).nb))), (ub.psg, .inl (ub.csg, 16, .inl ((noF zR1).sg))), (ub.pwh, .inl (ub.cwh, 6, .inl ((noF zR1).wh))), (ub.pce, .inl (ub.cce, 96, .inl ((noF zR1).ce)))] H := hP
  have hD : va_D A [(q0, .inr (0, [.ref (a0 0), .ref (a0 2), .ref (a0 5), .ref (a0 12), .ref (a0 15), .int 0])), (a0 0, .inr (1, [.ref (a0 1), .int (-1), .int 0, .int 0])), (a0 1, .inl (ka 0, 512, .inl (fun _ => 0))), (a0 2, .inr (2, [.ref (a0 3), .ref (a0 4), .int 0])), (a0 3, .inl (ka 1, 96, .inl (fun _ => 0))), (a0 4, .inl (ka 2, 16, .inl (fun _ => 0))), (a0 5, .inr (3, [.ref (a0 6), .ref (a0 7), .ref (a0 8), .ref (a0 9), .ref (a0 10), .ref (a0 11), .int 0, .int 0, .int 0])), (a0 6, .inl (ka 3, 10, .inl (fun _ => 0))), (a0 7, .inl (ka 4, 10, .inl (fun _ => 0))), (a0 8, .inl (ka 5, 120, .inl (fun _ => 0))), (a0 9, .inl (ka 6, 12, .inl (fun _ => 0))), (a0 10, .inl (ka 7, 8, .inl (fun _ => 0))), (a0 11, .inl (ka 8, 15, .inl (fun _ => 0))), (a0 12, .inr (4, [.ref (a0 13), .ref (a0 14), .int 0, .int 0, .int 0, .int 0, .int 0, .int 0, .int 0, .int 0, .int 0, .int 0])), (a0 13, .inl (ka 9, 12, .inl (fun _ => 0))), (a0 14, .inl (ka 10, 8, .inl (fun _ => 0))), (a0 15, .inl (ka 11, 60, .inl (fun _ => 0))), (q8, .inr (5, [.int ((noF zR1).th), .ref ub.pdk, .int ((noF zR1).ar), .int ((noF zR1).de), .int ((noF zR1).wr), .ref ub.pln, .ref ub.pch, .ref ub.pva, .int ((noF zR1).nx), .int (nI ((noF zR1).os)), .ref ub.pou, .int (nI ((noF zR1).tn)), .ref ub.ptx, .int ((noF zR1).ol), .int (nI ((noF zR1).fm)), .int (nI ((noF zR1).at1)), .int (nI ((noF zR1).en)), .int ((noF zR1).go), .int (nI ((noF zR1).nn)), .ref ub.pnb, .int (nI ((noF zR1).sn)), .ref ub.psg, .int (nI ((noF zR1).my)), .ref ub.pwh, .ref ub.pce])), (ub.pdk, .inl (ub.cdk, 512, .inl ((noF zR1).dk))), (ub.pln, .inl (ub.cln, 100, .inl ((noF zR1).ln))), (ub.pch, .inl (ub.cch, 1200, .inl ((noF zR1).ch))), (ub.pva, .inl (ub.cva, 8, .inl ((noF zR1).va))), (ub.pou, .inl (ub.cou, 60, .inl ((noF zR1).ou))), (ub.ptx, .inl (ub.ctx, 15, .inl ((noF zR1).tx))), (ub.pnb, .inl (ub.cnb, 16, .inl ((noF zR1).nb))), (ub.psg, .inl (ub.csg, 16, .inl ((noF zR1).sg))), (ub.pwh, .inl (ub.cwh, 6, .inl ((noF zR1).wh))), (ub.pce, .inl (ub.cce, 96, .inl ((noF zR1).ce)))] := hD
  have hK : va_K (dC, dI) cls [(ka 0, .int), (ka 1, .int), (ka 2, .int), (ka 3, .int), (ka 4, .int), (ka 5, .int), (ka 6, .int), (ka 7, .int), (ka 8, .int), (ka 9, .int), (ka 10, .int), (ka 11, .int), (ub.cdk, .int), (ub.cln, .int), (ub.cch, .int), (ub.cva, .int), (ub.cou, .int), (ub.ctx, .int), (ub.cnb, .int), (ub.csg, .int), (ub.cwh, .int), (ub.cce, .int)] s := hK
  refine W.widen (k := 28) (n := 2967) (by omega) (by omega) ?_
  refine lv_astore_n (i := 2) hx hb d_La_law_15 rfl hl (by decide) rfl (fun ls hl => ?_)
  have hl : lv_has ls 7 [(2, .ref q8), (1, .ref q0), (0, .ref b)] := hl
  refine lv_iconst (v := 1) hx hb d_La_law_16 (by decide) ?_
  refine va_newa (atype := .long) (a0 := (1, .inr (.inl (fun _ => 0)))) (N' := 1) hx hb (hts _ w_841) rfl hK hP hD hS hA (fun cA => rfl) (by decide) (by decide) (by decide) (by decide) (by decide) d_La_law_17 (fun q17 cA17 H hK hP hD hS => ?_)
  have hP : va_P (dC, dI) cls [(q0, .inr (0, [.ref (a0 0), .ref (a0 2), .ref (a0 5), .ref (a0 12), .ref (a0 15), .int 0])), (a0 0, .inr (1, [.ref (a0 1), .int (-1), .int 0, .int 0])), (a0 1, .inl (ka 0, 512, .inl (fun _ => 0))), (a0 2, .inr (2, [.ref (a0 3), .ref (a0 4), .int 0])), (a0 3, .inl (ka 1, 96, .inl (fun _ => 0))), (a0 4, .inl (ka 2, 16, .inl (fun _ => 0))), (a0 5, .inr (3, [.ref (a0 6), .ref (a0 7), .ref (a0 8), .ref (a0 9), .ref (a0 10), .ref (a0 11), .int 0, .int 0, .int 0])), (a0 6, .inl (ka 3, 10, .inl (fun _ => 0))), (a0 7, .inl (ka 4, 10, .inl (fun _ => 0))), (a0 8, .inl (ka 5, 120, .inl (fun _ => 0))), (a0 9, .inl (ka 6, 12, .inl (fun _ => 0))), (a0 10, .inl (ka 7, 8, .inl (fun _ => 0))), (a0 11, .inl (ka 8, 15, .inl (fun _ => 0))), (a0 12, .inr (4, [.ref (a0 13), .ref (a0 14), .int 0, .int 0, .int 0, .int 0, .int 0, .int 0, .int 0, .int 0, .int 0, .int 0])), (a0 13, .inl (ka 9, 12, .inl (fun _ => 0))), (a0 14, .inl (ka 10, 8, .inl (fun _ => 0))), (a0 15, .inl (ka 11, 60, .inl (fun _ => 0))), (q8, .inr (5, [.int ((noF zR1).th), .ref ub.pdk, .int ((noF zR1).ar), .int ((noF zR1).de), .int ((noF zR1).wr), .ref ub.pln, .ref ub.pch, .ref ub.pva, .int ((noF zR1).nx), .int (nI ((noF zR1).os)), .ref ub.pou, .int (nI ((noF zR1).tn)), .ref ub.ptx, .int ((noF zR1).ol), .int (nI ((noF zR1).fm)), .int (nI ((noF zR1).at1)), .int (nI ((noF zR1).en)), .int ((noF zR1).go), .int (nI ((noF zR1).nn)), .ref ub.pnb, .int (nI ((noF zR1).sn)), .ref ub.psg, .int (nI ((noF zR1).my)), .ref ub.pwh, .ref ub.pce])), (ub.pdk, .inl (ub.cdk, 512, .inl ((noF zR1).dk))), (ub.pln, .inl (ub.cln, 100, .inl ((noF zR1).ln))), (ub.pch, .inl (ub.cch, 1200, .inl ((noF zR1).ch))), (ub.pva, .inl (ub.cva, 8, .inl ((noF zR1).va))), (ub.pou, .inl (ub.cou, 60, .inl ((noF zR1).ou))), (ub.ptx, .inl (ub.ctx, 15, .inl ((noF zR1).tx))), (ub.pnb, .inl (ub.cnb, 16, .inl ((noF zR1).nb))), (ub.psg, .inl (ub.csg, 16, .inl ((noF zR1).sg))), (ub.pwh, .inl (ub.cwh, 6, .inl ((noF zR1).wh))), (ub.pce, .inl (ub.cce, 96, .inl ((noF zR1).ce))), (q17, .inl (cA17, 1, .inr (.inl (fun _ => 0))))] H := hP
  have hD : va_D A [(q0, .inr (0, [.ref (a0 0), .ref (a0 2), .ref (a0 5), .ref (a0 12), .ref (a0 15), .int 0])), (a0 0, .inr (1, [.ref (a0 1), .int (-1), .int 0, .int 0])), (a0 1, .inl (ka 0, 512, .inl (fun _ => 0))), (a0 2, .inr (2, [.ref (a0 3), .ref (a0 4), .int 0])), (a0 3, .inl (ka 1, 96, .inl (fun _ => 0))), (a0 4, .inl (ka 2, 16, .inl (fun _ => 0))), (a0 5, .inr (3, [.ref (a0 6), .ref (a0 7), .ref (a0 8), .ref (a0 9), .ref (a0 10), .ref (a0 11), .int 0, .int 0, .int 0])), (a0 6, .inl (ka 3, 10, .inl (fun _ => 0))), (a0 7, .inl (ka 4, 10, .inl (fun _ => 0))), (a0 8, .inl (ka 5, 120, .inl (fun _ => 0))), (a0 9, .inl (ka 6, 12, .inl (fun _ => 0))), (a0 10, .inl (ka 7, 8, .inl (fun _ => 0))), (a0 11, .inl (ka 8, 15, .inl (fun _ => 0))), (a0 12, .inr (4, [.ref (a0 13), .ref (a0 14), .int 0, .int 0, .int 0, .int 0, .int 0, .int 0, .int 0, .int 0, .int 0, .int 0])), (a0 13, .inl (ka 9, 12, .inl (fun _ => 0))), (a0 14, .inl (ka 10, 8, .inl (fun _ => 0))), (a0 15, .inl (ka 11, 60, .inl (fun _ => 0))), (q8, .inr (5, [.int ((noF zR1).th), .ref ub.pdk, .int ((noF zR1).ar), .int ((noF zR1).de), .int ((noF zR1).wr), .ref ub.pln, .ref ub.pch, .ref ub.pva, .int ((noF zR1).nx), .int (nI ((noF zR1).os)), .ref ub.pou, .int (nI ((noF zR1).tn)), .ref ub.ptx, .int ((noF zR1).ol), .int (nI ((noF zR1).fm)), .int (nI ((noF zR1).at1)), .int (nI ((noF zR1).en)), .int ((noF zR1).go), .int (nI ((noF zR1).nn)), .ref ub.pnb, .int (nI ((noF zR1).sn)), .ref ub.psg, .int (nI ((noF zR1).my)), .ref ub.pwh, .ref ub.pce])), (ub.pdk, .inl (ub.cdk, 512, .inl ((noF zR1).dk))), (ub.pln, .inl (ub.cln, 100, .inl ((noF zR1).ln))), (ub.pch, .inl (ub.cch, 1200, .inl ((noF zR1).ch))), (ub.pva, .inl (ub.cva, 8, .inl ((noF zR1).va))), (ub.pou, .inl (ub.cou, 60, .inl ((noF zR1).ou))), (ub.ptx, .inl (ub.ctx, 15, .inl ((noF zR1).tx))), (ub.pnb, .inl (ub.cnb, 16, .inl ((noF zR1).nb))), (ub.psg, .inl (ub.csg, 16, .inl ((noF zR1).sg))), (ub.pwh, .inl (ub.cwh, 6, .inl ((noF zR1).wh))), (ub.pce, .inl (ub.cce, 96, .inl ((noF zR1).ce))), (q17, .inl (cA17, 1, .inr (.inl (fun _ => 0))))] := hD
  have hK : va_K (dC, dI) cls [(ka 0, .int), (ka 1, .int), (ka 2, .int), (ka 3, .int), (ka 4, .int), (ka 5, .int), (ka 6, .int), (ka 7, .int), (ka 8, .int), (ka 9, .int), (ka 10, .int), (ka 11, .int), (ub.cdk, .int), (ub.cln, .int), (ub.cch, .int), (ub.cva, .int), (ub.cou, .int), (ub.ctx, .int), (ub.cnb, .int), (ub.csg, .int), (ub.cwh, .int), (ub.cce, .int), (cA17, .long)] s := hK
  refine W.widen (k := 29) (n := 2968) (by omega) (by omega) ?_
  refine lv_astore_n (i := 3) hx hb d_La_law_19 rfl hl (by decide) rfl (fun ls hl => ?_)
  have hl : lv_has ls 7 [(3, .ref q17), (2, .ref q8), (1, .ref q0), (0, .ref b)] := hl
  refine lv_iconst (v := 0) hx hb d_La_law_20 (by decide) ?_
  refine lv_istore hx hb d_La_law_21 hl (by decide) rfl (fun ls hl => ?_)
  have hl : lv_has ls 7 [(4, .int 0), (3, .ref q17), (2, .ref q8), (1, .ref q0), (0, .ref b)] := hl
  obtain ⟨a, hae⟩ : ∃ a : LAd, a = (q0, a0 0, a0 1, a0 2, a0 3, a0 4, a0 5, a0 6, a0 7, a0 8, a0 9, a0 10, a0 11, a0 12, a0 13, a0 14, a0 15, ka 0, ka 1, ka 2, ka 3, ka 4, ka 5, ka 6, ka 7, ka 8, ka 9, ka 10, ka 11) := ⟨_, rfl⟩
  obtain ⟨bm, hbe⟩ : ∃ bm : RAd, bm = (q8, ub.pdk, ub.pln, ub.pch, ub.pva, ub.pou, ub.ptx, ub.pnb, ub.psg, ub.pwh, ub.pce, ub.cdk, ub.cln, ub.cch, ub.cva, ub.cou, ub.ctx, ub.cnb, ub.csg, ub.cwh, ub.cce) := ⟨_, rfl⟩
  have hP : va_P (dC, dI) cls [(a.o0, .inr (0, [.ref a.s0, .ref a.j0, .ref a.h0, .ref a.m0, .ref a.kp, .int zL0.oc])), (a.s0, .inr (1, [.ref a.c0, .int zL0.ar, .int zL0.de, .int zL0.wr])), (a.c0, .inl (a.cA, 512, .inl zL0.g)), (a.j0, .inr (2, [.ref a.jr, .ref a.jh, .int (nI zL0.jt)])), (a.jr, .inl (a.cR, 96, .inl zL0.ro)), (a.jh, .inl (a.cH, 16, .inl zL0.hd)), (a.h0, .inr (3, [.ref a.w0, .ref a.w1, .ref a.w2, .ref a.w3, .ref a.w4, .ref a.w5, .int (nI zL0.wn), .int zL0.nx, .int (nI zL0.wc)])), (a.w0, .inl (a.cN, 10, .inl zL0.nu)), (a.w1, .inl (a.cL, 10, .inl zL0.le)), (a.w2, .inl (a.cX, 120, .inl zL0.te)), (a.w3, .inl (a.cU, 12, .inl zL0.un)), (a.w4, .inl (a.cV, 8, .inl zL0.va)), (a.w5, .inl (a.cT, 15, .inl zL0.ty)), (a.m0, .inr (4, [.ref a.sx, .ref a.sv, .int (nI zL0.en), .int (nI zL0.at1), .int zL0.go, .int zL0.kd, .int zL0.vr, .int zL0.fi, .int zL0.lf, .int zL0.sg, .int zL0.rt, .int zL0.tg])), (a.sx, .inl (a.cS, 12, .inl zL0.tx)), (a.sv, .inl (a.cW, 8, .inl zL0.tv)), (a.kp, .inl (a.cK, 60, .inl zL0.kf)), (bm.r0, .inr (5, [.int ((noF zR1).th), .ref bm.pdk, .int ((noF zR1).ar), .int ((noF zR1).de), .int ((noF zR1).wr), .ref bm.pln, .ref bm.pch, .ref bm.pva, .int ((noF zR1).nx), .int (nI ((noF zR1).os)), .ref bm.pou, .int (nI ((noF zR1).tn)), .ref bm.ptx, .int ((noF zR1).ol), .int (nI ((noF zR1).fm)), .int (nI ((noF zR1).at1)), .int (nI ((noF zR1).en)), .int ((noF zR1).go), .int (nI ((noF zR1).nn)), .ref bm.pnb, .int (nI ((noF zR1).sn)), .ref bm.psg, .int (nI ((noF zR1).my)), .ref bm.pwh, .ref bm.pce])), (bm.pdk, .inl (bm.cdk, 512, .inl ((noF zR1).dk))), (bm.pln, .inl (bm.cln, 100, .inl ((noF zR1).ln))), (bm.pch, .inl (bm.cch, 1200, .inl ((noF zR1).ch))), (bm.pva, .inl (bm.cva, 8, .inl ((noF zR1).va))), (bm.pou, .inl (bm.cou, 60, .inl ((noF zR1).ou))), (bm.ptx, .inl (bm.ctx, 15, .inl ((noF zR1).tx))), (bm.pnb, .inl (bm.cnb, 16, .inl ((noF zR1).nb))), (bm.psg, .inl (bm.csg, 16, .inl ((noF zR1).sg))), (bm.pwh, .inl (bm.cwh, 6, .inl ((noF zR1).wh))), (bm.pce, .inl (bm.cce, 96, .inl ((noF zR1).ce))), (q17, .inl (cA17, 1, .inr (.inl (fun _ => 0))))] H := by rw [hae, hbe]; exact hP.sub [0, 1, 2, 3, 4, 5, 6, 7, 8, 9, 10, 11, 12, 13, 14, 15, 16, 17, 18, 19, 20, 21, 22, 23, 24, 25, 26, 27, 28] rfl
  have hD : va_D A [(a.o0, .inr (0, [.ref a.s0, .ref a.j0, .ref a.h0, .ref a.m0, .ref a.kp, .int zL0.oc])), (a.s0, .inr (1, [.ref a.c0, .int zL0.ar, .int zL0.de, .int zL0.wr])), (a.c0, .inl (a.cA, 512, .inl zL0.g)), (a.j0, .inr (2, [.ref a.jr, .ref a.jh, .int (nI zL0.jt)])), (a.jr, .inl (a.cR, 96, .inl zL0.ro)), (a.jh, .inl (a.cH, 16, .inl zL0.hd)), (a.h0, .inr (3, [.ref a.w0, .ref a.w1, .ref a.w2, .ref a.w3, .ref a.w4, .ref a.w5, .int (nI zL0.wn), .int zL0.nx, .int (nI zL0.wc)])), (a.w0, .inl (a.cN, 10, .inl zL0.nu)), (a.w1, .inl (a.cL, 10, .inl zL0.le)), (a.w2, .inl (a.cX, 120, .inl zL0.te)), (a.w3, .inl (a.cU, 12, .inl zL0.un)), (a.w4, .inl (a.cV, 8, .inl zL0.va)), (a.w5, .inl (a.cT, 15, .inl zL0.ty)), (a.m0, .inr (4, [.ref a.sx, .ref a.sv, .int (nI zL0.en), .int (nI zL0.at1), .int zL0.go, .int zL0.kd, .int zL0.vr, .int zL0.fi, .int zL0.lf, .int zL0.sg, .int zL0.rt, .int zL0.tg])), (a.sx, .inl (a.cS, 12, .inl zL0.tx)), (a.sv, .inl (a.cW, 8, .inl zL0.tv)), (a.kp, .inl (a.cK, 60, .inl zL0.kf)), (bm.r0, .inr (5, [.int ((noF zR1).th), .ref bm.pdk, .int ((noF zR1).ar), .int ((noF zR1).de), .int ((noF zR1).wr), .ref bm.pln, .ref bm.pch, .ref bm.pva, .int ((noF zR1).nx), .int (nI ((noF zR1).os)), .ref bm.pou, .int (nI ((noF zR1).tn)), .ref bm.ptx, .int ((noF zR1).ol), .int (nI ((noF zR1).fm)), .int (nI ((noF zR1).at1)), .int (nI ((noF zR1).en)), .int ((noF zR1).go), .int (nI ((noF zR1).nn)), .ref bm.pnb, .int (nI ((noF zR1).sn)), .ref bm.psg, .int (nI ((noF zR1).my)), .ref bm.pwh, .ref bm.pce])), (bm.pdk, .inl (bm.cdk, 512, .inl ((noF zR1).dk))), (bm.pln, .inl (bm.cln, 100, .inl ((noF zR1).ln))), (bm.pch, .inl (bm.cch, 1200, .inl ((noF zR1).ch))), (bm.pva, .inl (bm.cva, 8, .inl ((noF zR1).va))), (bm.pou, .inl (bm.cou, 60, .inl ((noF zR1).ou))), (bm.ptx, .inl (bm.ctx, 15, .inl ((noF zR1).tx))), (bm.pnb, .inl (bm.cnb, 16, .inl ((noF zR1).nb))), (bm.psg, .inl (bm.csg, 16, .inl ((noF zR1).sg))), (bm.pwh, .inl (bm.cwh, 6, .inl ((noF zR1).wh))), (bm.pce, .inl (bm.cce, 96, .inl ((noF zR1).ce))), (q17, .inl (cA17, 1, .inr (.inl (fun _ => 0))))] := by rw [hae, hbe]; exact hD.sub [0, 1, 2, 3, 4, 5, 6, 7, 8, 9, 10, 11, 12, 13, 14, 15, 16, 17, 18, 19, 20, 21, 22, 23, 24, 25, 26, 27, 28] (by decide) rfl
  have hK : va_K (dC, dI) cls [(a.cA, .int), (a.cR, .int), (a.cH, .int), (a.cN, .int), (a.cL, .int), (a.cX, .int), (a.cU, .int), (a.cV, .int), (a.cT, .int), (a.cS, .int), (a.cW, .int), (a.cK, .int), (bm.cdk, .int), (bm.cln, .int), (bm.cch, .int), (bm.cva, .int), (bm.cou, .int), (bm.ctx, .int), (bm.cnb, .int), (bm.csg, .int), (bm.cwh, .int), (bm.cce, .int), (cA17, .long)] s := by rw [hae, hbe]; exact hK.sub [0, 1, 2, 3, 4, 5, 6, 7, 8, 9, 10, 11, 12, 13, 14, 15, 16, 17, 18, 19, 20, 21, 22] rfl
  have hl : lv_has ls 7 [(4, .int (nI (2 * 0))), (3, .ref q17), (2, .ref bm.r0), (1, .ref a.o0), (0, .ref b)] := by rw [hae, hbe]; exact lv_sub hl [0, 1, 2, 3, 4] rfl
  have hfl2 : l.flags = pinnedFlags ++ [noTraceFlag] := hfl
  refine lp_law hx hb hml hts hown hkw hA hA0 hfl2 b L xs hXs hbl hbA hL t1 t2 hZt1 hXt1 hlt1 (hA0 _ hlt1) hZt2 hXt2 hlt2 (hA0 _ hlt2) qs112 qs119 qs122 hE112 hE119 hE122 a bm q17 cA17 hK (by decide) (by decide) 29 2968 (by decide) (by decide) (fun k hk ls H locs hS => ?_) (L / 2) 0 (by omega) ls _ _ zL0 (noF zR1) (fun _ => 0) hl hP hD hS LOk_zero RI_zero TIE_zero
  refine lv_iconst (v := 1) hx hb d_La_law_309 (by decide) ?_
  refine va_forget (fun q h => hA1 _ (hS.2.2 q h)) ?_
  refine W.widen (k := 601024) (n := 7293034) (by omega) (by omega) ?_
  exact lw_ret hx hb hr hlocks d_La_law_310
set_option maxHeartbeats 4000000 in
theorem lw_walk (l : Launch) (hfl : l.flags = flags0) (b : Addr) (xs : List Int32) : MetFree l x (headSpec (Jvm.Cond.code x code maxLocals ret :: tables_1) room_1) (lw_P b xs) (fun _ _ _ _ _ => True) lw_Q := by
  refine MetFree.of_bodyS (code := code) (maxLocals := maxLocals) (ret := ret) (by decide) ?_ ?_
  · intro args s m h hn
    obtain ⟨meth, c, h1, h2, h3, h4, h5, h6, -, -⟩ := Cond.code_spec hn (atoms_spec (ws := Jvm.Cond.code x code maxLocals ret :: tables_1) h _ List.mem_cons_self)
    exact ⟨meth, c, h1, h2, h3, h4, h5, h6⟩
  · intro p e s m args below meth c s₁ B hml0 hP _
    obtain ⟨rfl, hx, hbd, hgv⟩ := hP
    obtain ⟨scr, harrAt, hlist, hof, hsmall⟩ := hx
    obtain ⟨hcb, hkn, -, -⟩ := State.arrayAt?_spec harrAt
    have hown : s.vm.findClass R_law = some m.cls := findClass_of_methodNamed B.named
    have hts0 : ∀ c ∈ (Jvm.Cond.code x code maxLocals ret :: tables_1), c.before #[Value.ref b] s = true := atoms_spec (ws := Jvm.Cond.code x code maxLocals ret :: tables_1) B.pre
    have hts : ∀ w ∈ lw_tbl, w.before #[Value.ref b] s = true := k2_hts_sels lw_privs (fun w hw => hts0 w (List.mem_cons_of_mem _ hw)) lw_privs_ok
    have hml : c.maxLocals = 7 := B.maxLocals_eq (hts0 _ List.mem_cons_self)
    have X₀ : Stand p l e room_1 s m #[Value.ref b] below meth c s₁ [] 0 0 := Stand.of_body B
    have hh0 : s₁.heap = s.heap := by rw [B.state]; rfl
    have hsz : scr.slots.size = xs.length := by rw [← Array.length_toList, hlist, List.length_map]
    have hval : ∀ j : Nat, j < xs.length → scr.slots[j]? = some (.int (xs.getD j 0)) := fun j hj => by
      rw [← Array.getElem?_toList, hlist]
      simp [hj]
    have hbl : b < s.heap.size := (Array.getElem?_eq_some_iff.mp hcb).1
    have hX : va_X b xs.length (fun j => xs.getD j 0) s s.heap := ⟨scr, hcb, hof, hkn, hsz, hval⟩
    have K : W p l e room_1 s m #[Value.ref b] below meth c s₁.heap [] 0 0 (lw_Z below #[Value.ref b] s) (entryFrame m ([Value.ref b] : List Value).toArray 7) := by
      rw [hh0]
      exact whole_start l hfl hbd ⟨B.exec, B.bytes, B.returns, hml, hown, hts, hX, hbl, B.notSynchronized, hgv⟩
    obtain ⟨t, a1, o, b1, b2, b3⟩ := K s₁ rfl X₀
    exact ⟨t, o, a1, b1, b2, b3⟩
theorem lw_pre_spec {args : Array Value} {s : State} (h : (Jvm.Cond.and given_1 narrow_1).before args s = true) (hr : rest_1_c.before args s = true) : ∃ (b : Addr) (xs : List Int32), lw_P b xs args s := by
  have hs := flat_of_before _ h
  have hq := flat_of_before _ hr
  have hc : (Cond.count 1).before args s = true := hs _ (by decide +kernel)
  have harr : (Cond.arrayOf (.arg 0) .int).before args s = true := hs _ (by decide +kernel)
  have hle : (Cond.le (.length (.arg 0)) (.int 1024)).before args s = true := hs _ (by decide +kernel)
  have hlen : (Cond.isInt (.length (.arg 0))).before args s = true := hq _ (by decide +kernel)
  have hall : (Cond.all (.arg 0) (.isInt (.elem (.arg 0) (.index 0)))).before args s = true := hq _ (by decide +kernel)
  obtain ⟨b, xs, hb, hx⟩ := State.ints_of_pre rfl harr hlen hall
  have hsm : xs.length < 2 ^ 31 := hx.choose_spec.2.2.2
  have hev : (Term.length (.arg 0)).eval args s none [] s = some (.int xs.length.toInt32) := hx.length_eval hb
  have hv := Cond.le_ints hev (show (Term.int 1024).eval args s none [] s = some (.int 1024) from rfl)
  have hd : xs.length.toInt32 ≤ 1024 := by
    simpa [Cond.before, Cond.holds, hv] using hle
  have hN : xs.length ≤ 1024 := (Int32.ofNat_le_ofNat hsm (by decide)).mp (show Int32.ofNat xs.length ≤ Int32.ofNat 1024 from hd)
  exact ⟨b, xs, Cond.one_arg hc (show args[0]? = some (.ref b) from hb), hx, hN, h⟩
theorem lw_comes (l : Launch) (hfl : l.flags = flags0) : Comes l x (Jvm.Cond.code x code maxLocals ret :: tables_1) room_1 (fun tb e args s => Calls_1 tb e args s ∧ rest_1 tb e args s ∧ Pre_1 tb e args s)
    (fun _ _ args s o t => lw_Q args s o t) := by
  intro p e ha hc hk s m args below hf hfit hheap happ hpre
  obtain ⟨b, xs, hP⟩ := lw_pre_spec hpre.2.2 hpre.2.1
  obtain ⟨k, o, h1, h2, h3, hQ⟩ := lw_walk l hfl b xs p e ha hc hk s m args below hf ((Spec.applies_iff_loose hf).mp happ).1 hP trivial
  exact ⟨k, o, h1, h2, h3, hQ⟩
theorem lw_frame {s t : State} {o : Outcome} {args : Array Value} (h : Framed s o t [] 601024 7293034) :
    Framed s o t (fieldLocs frame_1_writes args s ++ arrayLocs frame_1_arrays args s ++ staticLocs frame_1_statics s) 601024 7293034 := h
theorem lw_limb (L : Cond) (hL : ∀ (args : Array Value) (s t : State), L.after args s (.returned (some (.int 1))) t = true) :
    ArmFor flags0 classFile x code maxLocals ret World_1 tables_1 room_1 Calls_1 rest_1 Pre_1
      (fun tb e a s o t => postC L tb e a s o t ∧ Framed s o t (fieldLocs frame_1_writes a s ++ arrayLocs frame_1_arrays a s ++ staticLocs frame_1_statics s) 601024 7293034) := by
  intro l hfl _ _ p e ha hc hk s m args below hf hfit hheap happ hpre
  obtain ⟨k, o, h1, h2, h3, rfl, hF⟩ := lw_comes l hfl p e ha hc hk s m args below hf hfit hheap happ hpre
  exact ⟨k, _, h1, h2, h3, hL args s _, lw_frame hF⟩
theorem i_vc : Claimed_1_1 ∧ Claimed_1_2 := ⟨lw_limb limb_1_1 (fun args s t => by simp [limb_1_1, Cond.after, Cond.holds, Cond.value]), lw_limb limb_1_2 (fun args s t => Cond.after_iff.mpr (by
  first | (rw [show limb_1_2 = Cond.eq .result (.int 1) from rfl, Cond.eq_ints (x := 1) (y := 1) rfl rfl]; simp; done) | (simp [limb_1_2, Cond.value, Term.eval]; done)))⟩
