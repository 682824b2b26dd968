/-! what is left above a base, and how it is taken down -/
def PSb (Z : RSt) (s n : Nat) (p : Int32) : Prop := (Z.sn = s ∧ Z.nn = n + 1 ∧ Z.nb n = p) ∨ (Z.sn = s + 1 ∧ Z.sg s = 42 ∧ Z.nn = n + 2 ∧ Z.nb n * Z.nb (n + 1) = p)
def VSb (Z : RSt) (s n : Nat) (v : Int32) : Prop := PSb Z s n v ∨ ∃ c p, (c = 43 ∨ c = 45) ∧ Z.sg s = c ∧ PSb Z (s + 1) (n + 1) p ∧ opF c (Z.nb n) p = v
def SGb (Z W : RSt) (s n : Nat) (v : Int32) : Prop := KP s n Z W ∧ W.at1 = Z.at1 ∧ W.go = Z.go ∧ W.sn = s ∧ W.nn = n + 1 ∧ W.nb n = v
theorem re_sg {Z : RSt} {s n : Nat} {c : Int32} (h1 : Z.sn = s + 1) (h2 : Z.sg s = c) (h3 : Z.nn = n + 2) : SGb Z (reF Z) s n (opF c (Z.nb n) (Z.nb (n + 1))) := by
  refine ⟨⟨sm_re Z, fun i _ => rfl, fun i hi => ?_⟩, rfl, rfl, ?_, ?_, ?_⟩
  · show upd Z.nb (Z.nn - 1 - 1) (opF (Z.sg (Z.sn - 1)) (Z.nb (Z.nn - 1 - 1)) (Z.nb (Z.nn - 1))) i = Z.nb i
    rw [h3]
    exact pk_un (by omega)
  · show Z.sn - 1 = s
    omega
  · show Z.nn - 1 = n + 1
    omega
  · show upd Z.nb (Z.nn - 1 - 1) (opF (Z.sg (Z.sn - 1)) (Z.nb (Z.nn - 1 - 1)) (Z.nb (Z.nn - 1))) n = _
    rw [h3, h1, show n + 2 - 1 - 1 = n by omega, show n + 2 - 1 = n + 1 by omega, show s + 1 - 1 = s by omega, h2, pk_us]
theorem rdP_st {f : Nat} {Z : RSt} (h : ¬ Z.sg (Z.sn - 1) = 40) : rdP (f + 1) Z = rdP f (reF Z) := if_neg h
theorem rdL_st {f : Nat} {x : Int32} {Z : RSt} (h1 : ¬ Z.sn = 0) (h2 : ¬ lvl (Z.sg (Z.sn - 1)) < lvl x) : rdL (f + 1) x Z = rdL f x (reF Z) := (if_neg h1).trans (if_neg h2)
theorem rdE_st {f : Nat} {Z : RSt} (h1 : ¬ Z.go = 0) (h2 : ¬ Z.sn = 0) : rdE (f + 1) Z = rdE f (reF Z) := (if_neg h1).trans (if_neg h2)
def RED (P : Int32 → Prop) (Z W : RSt) (s : Nat) : Prop := (∀ f, Z.sn ≤ f → ∃ f', s ≤ f' ∧ rdP f Z = rdP f' W) ∧ (¬ Z.go = 0 → ∀ f, Z.sn ≤ f → ∃ f', s ≤ f' ∧ rdE f Z = rdE f' W) ∧ ∀ x, P x → ∀ f, Z.sn ≤ f → ∃ f', s ≤ f' ∧ rdL f x Z = rdL f' x W
theorem red_1 {P : Int32 → Prop} {Z : RSt} {s : Nat} {c : Int32} (h1 : Z.sn = s + 1) (h2 : Z.sg s = c) (h40 : ¬ c = 40) (hx : ∀ x, P x → ¬ lvl c < lvl x) : RED P Z (reF Z) s := by
  have t : Z.sg (Z.sn - 1) = c := by rw [h1, show s + 1 - 1 = s by omega]; exact h2
  refine ⟨fun f hf => ?_, fun hg f hf => ?_, fun x px f hf => ?_⟩
  · obtain ⟨j, rfl⟩ : ∃ j, f = j + 1 := ⟨f - 1, by omega⟩
    exact ⟨j, by omega, rdP_st (by rw [t]; exact h40)⟩
  · obtain ⟨j, rfl⟩ : ∃ j, f = j + 1 := ⟨f - 1, by omega⟩
    exact ⟨j, by omega, rdE_st hg (by omega)⟩
  · obtain ⟨j, rfl⟩ : ∃ j, f = j + 1 := ⟨f - 1, by omega⟩
    exact ⟨j, by omega, rdL_st (by omega) (by rw [t]; exact hx x px)⟩
theorem red_0 {P : Int32 → Prop} {Z : RSt} {s : Nat} (h1 : Z.sn = s) : RED P Z Z s := ⟨fun f hf => ⟨f, by omega, rfl⟩, fun _ f hf => ⟨f, by omega, rfl⟩, fun x _ f hf => ⟨f, by omega, rfl⟩⟩
theorem RED.tr {P : Int32 → Prop} {Z W V : RSt} {s s' : Nat} (h : RED P Z W s) (g : RED P W V s') (e : W.sn = s) (eg : W.go = Z.go) : RED P Z V s' := by
  refine ⟨fun f hf => ?_, fun hg f hf => ?_, fun x px f hf => ?_⟩
  · obtain ⟨f1, a, b⟩ := h.1 f hf
    obtain ⟨f2, c, d⟩ := g.1 f1 (by omega)
    exact ⟨f2, c, b.trans d⟩
  · obtain ⟨f1, a, b⟩ := h.2.1 hg f hf
    obtain ⟨f2, c, d⟩ := g.2.1 (by rw [eg]; exact hg) f1 (by omega)
    exact ⟨f2, c, b.trans d⟩
  · obtain ⟨f1, a, b⟩ := h.2.2 x px f hf
    obtain ⟨f2, c, d⟩ := g.2.2 x px f1 (by omega)
    exact ⟨f2, c, b.trans d⟩
theorem lv42 (x : Int32) : ¬ lvl 42 < lvl x := by
  have e : lvl 42 = 2 := by decide
  rw [e]
  unfold lvl
  repeat' split
  all_goals decide
theorem PS_red {Z : RSt} {s n : Nat} {p : Int32} (h : PSb Z s n p) : ∃ W, SGb Z W s n p ∧ RED (fun _ => True) Z W s := by
  rcases h with ⟨h1, h2, h3⟩ | ⟨h1, h2, h3, h4⟩
  · exact ⟨Z, ⟨KP_rf s n Z, rfl, rfl, h1, h2, h3⟩, red_0 h1⟩
  · have t := re_sg h1 h2 h3
    have e : opF 42 (Z.nb n) (Z.nb (n + 1)) = p := by
      rw [← h4]
      unfold opF
      rw [if_pos (by decide), if_pos (by decide)]
    rw [e] at t
    exact ⟨reF Z, t, red_1 h1 h2 (by decide) (fun x _ => lv42 x)⟩
theorem VS_red {Z : RSt} {s n : Nat} {v : Int32} (h : VSb Z s n v) : ∃ W, SGb Z W s n v ∧ RED (fun x => lvl x = 1) Z W s := by
  rcases h with h | ⟨c, p, hc, h2, h3, h4⟩
  · obtain ⟨W, a, b⟩ := PS_red h
    exact ⟨W, a, b.1, b.2.1, fun x _ => b.2.2 x trivial⟩
  · obtain ⟨W, ⟨k, e1, e2, e3, e4, e5⟩, b⟩ := PS_red h3
    have b' : RED (fun x => lvl x = 1) Z W (s + 1) := ⟨b.1, b.2.1, fun x _ => b.2.2 x trivial⟩
    have sg : W.sg s = c := (k.2.1 s (by omega)).trans h2
    have nb : W.nb n = Z.nb n := k.2.2 n (by omega)
    have t := re_sg e3 sg e4
    rw [nb, e5, h4] at t
    have c40 : ¬ c = 40 := by rcases hc with e | e <;> rw [e] <;> decide
    have lc : lvl c = 1 := by rcases hc with e | e <;> rw [e] <;> decide
    refine ⟨reF W, ⟨(k.lo (by omega) (by omega)).tr t.1, t.2.1.trans e1, t.2.2.1.trans e2, t.2.2.2⟩, b'.tr (red_1 e3 sg c40 (fun x px => ?_)) e3 e2⟩
    rw [lc, show lvl x = 1 from px]
    decide
theorem rdP_b {f : Nat} {W : RSt} (h : W.sg (W.sn - 1) = 40) : rdP f W = W := by
  cases f with
  | zero => rfl
  | succ f => exact if_pos h
theorem rdE_b {f : Nat} {W : RSt} (h : W.sn = 0) : rdE f W = W := by
  cases f with
  | zero => rfl
  | succ f =>
    show (if W.go = 0 then W else if W.sn = 0 then W else rdE f (reF W)) = W
    rw [if_pos h]
    split <;> rfl
theorem rdL_b {f : Nat} {x : Int32} {W : RSt} (h : W.sn = 0 ∨ lvl (W.sg (W.sn - 1)) < lvl x) : rdL f x W = W := by
  cases f with
  | zero => rfl
  | succ f =>
    show (if W.sn = 0 then W else if lvl (W.sg (W.sn - 1)) < lvl x then W else rdL f x (reF W)) = W
    by_cases c : W.sn = 0
    · rw [if_pos c]
    · rw [if_neg c, if_pos (h.resolve_left c)]
theorem op_st {P : Int32 → Prop} {Z W : RSt} {s n o : Nat} {x v : Int32} (hh : hrF Z = x) (hl : ¬ lvl x ≤ 0) (hg : ¬ Z.go = 0) (hs : SGb Z W s n v) (hr : RED P Z W s) (px : P x) (hb : s = 0 ∨ lvl (Z.sg (s - 1)) < lvl x) : YS o 0 Z o 1 (psF W x) ∧ KP s n Z (psF W x) ∧ ¬ (psF W x).go = 0 ∧ (psF W x).at1 = Z.at1 + 1 ∧ (psF W x).sn = s + 1 ∧ (psF W x).sg s = x ∧ (psF W x).nn = n + 1 ∧ (psF W x).nb n = v := by
  obtain ⟨k, e1, e2, e3, e4, e5⟩ := hs
  have hlt : Z.at1 < Z.en := hr_lt (by rw [hh]; exact lv_n1 hl)
  have er : rdL Z.sn x Z = W := by
    obtain ⟨f', a, b⟩ := hr.2.2 x px Z.sn (Nat.le_refl _)
    rw [b]
    refine rdL_b ?_
    rw [e3]
    by_cases c : s = 0
    · exact Or.inl c
    · exact Or.inr (by rw [k.2.1 (s - 1) (by omega)]; exact hb.resolve_left c)
  refine ⟨⟨?_, 1, ?_, fun f => ?_⟩, ?_, ?_, ?_, ?_, ?_, ?_, ?_⟩
  · show W.at1 + 1 ≤ Z.en
    omega
  · show Z.at1 + 1 ≤ W.at1 + 1
    omega
  · rw [vl_op hg (by rw [hh]; exact hl), hh, er]
  · refine ⟨k.1.tr (sm_ps W x), fun i hi => ?_, fun i hi => k.2.2 i hi⟩
    show upd W.sg W.sn x i = Z.sg i
    rw [e3, pk_un (by omega)]
    exact k.2.1 i hi
  · show ¬ W.go = 0
    rw [e2]; exact hg
  · show W.at1 + 1 = Z.at1 + 1
    rw [e1]
  · show W.sn + 1 = s + 1
    rw [e3]
  · show upd W.sg W.sn x s = x
    rw [e3, pk_us]
  · exact e4
  · exact e5
