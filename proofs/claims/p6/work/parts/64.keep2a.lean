/-! what the reference keeps: files written -/
theorem diR_t (Y : RSt) (n : Nat) (x y : Int32) : ∀ k, k < 1 → ∃ t, (diR Y n x y).wh k = nI t ∧ tgt t := fun k hk => by
  rw [show k = 0 by omega]
  refine ⟨1, ?_, Or.inl rfl⟩
  show upd Y.wh 0 1 0 = nI 1
  rw [pk_us]
  rfl
theorem diR_c (Y : RSt) (n : Nat) (x y : Int32) : ∀ i, i < 16 → (diR Y n x y).ce i = if i = 2 * n then x else if i = 2 * n + 1 then y else Y.dk (16 + i) := fun i hi => by
  show fl 0 0 16 (diV Y n x y) Y.ce i = _
  rw [fl_all i hi]
  rfl
theorem dn_mk {q : Nat} {S : RSt} (r : RI q (cm2 S)) : RI q (dnR (cmR S)).2 ∧ ((dnR (cmR S)).1 = 0 → (dnR (cmR S)).2.de = 0) := by
  unfold dnR cmR
  revert r
  generalize cm2 S = M
  intro r
  refine ⟨r, fun e => Decidable.byContradiction (fun g => ?_)⟩
  have g : ¬ M.de = 0 := g
  have e : (if (if ¬ M.de = 0 then (0 : Int32) else 1) = 0 then (7 : Int32) else 0) = 0 := e
  rw [if_pos g, if_pos rfl] at e
  exact absurd e (by decide)
theorem RI_dr {q : Nat} {Y : RSt} {n : Nat} (h : RI q Y) (hn : n < 8) (hf : ¬ fmtv Y.dk = 0) : RI q (drR Y n).2 := by
  unfold drR
  by_cases e : Y.dk (16 + 2 * n) = 0
  · rw [if_neg (fun g => g e)]; exact ri_mk h
  · rw [if_pos e]
    refine (dn_mk ?_).1
    refine RI_cm (S := diR Y n 0 0) h ⟨rfl, rfl, rfl, rfl, rfl⟩ rfl hf (show 1 ≤ 6 by decide) (diR_t Y n 0 0) (fun hd => ?_)
    have ok := (DI_fok h.2.1 hd).2
    refine FOK_dir (q := 9) (m := 0) hn ok (by decide) (by decide) (diR_c Y n 0 0) (fun i _ => ?_) (fun _ _ _ k hk => absurd hk (by omega)) (Or.inl rfl)
    exact apQ (t := fun k => ((diR Y n 0 0).wh k).toNatClampNeg) (by decide) (by show (upd Y.wh 0 1 0).toNatClampNeg = 1; rw [pk_us]; rfl) 0 (fun k hk => absurd hk (by omega)) i
theorem RI_hrec {q : Nat} {Y : RSt} (h : RI q Y) (hd : Y.de = 0) : ∀ n, n < 8 → Y.dk (16 + 2 * n) = 16 → ∃ f, 9 ≤ f ∧ f < 32 ∧ Y.dk (17 + 2 * n) = nI f := by
  intro n hn e
  rcases (DI_fok h.2.1 hd).2.1 n hn with a | ⟨f, a⟩ | ⟨f, c, a⟩
  · rw [e] at a; exact absurd a (by decide)
  · exact ⟨f, a.2.2.1, a.2.2.2, a.2.1⟩
  · have := (nI_eq (a := 16) (by decide) (by have := a.2.2.2.1; omega)).mp (e.symm.trans a.1)
    omega
theorem RI_rld {q : Nat} {Y : RSt} (h : RI q Y) (hd : Y.de = 0) : ∀ n, n < 8 → ¬ Y.dk (16 + 2 * n) = 0 → ¬ Y.dk (16 + 2 * n) = 16 → ∃ f c, FP Y.dk n f c := by
  intro n hn e1 e2
  rcases (DI_fok h.2.1 hd).2.1 n hn with a | ⟨f, a⟩ | a
  · exact absurd a e1
  · exact absurd a.1 e2
  · exact a
theorem FP_RLd {g : Nat → Int32} {n f c : Nat} (p : FP g n f c) : RLd g n := by
  obtain ⟨p1, p2, p3, p4, p5, p6, p7, p8⟩ := p
  have hb : 1 + 4 * c ≤ 16 * bl c := by unfold bl; omega
  refine ⟨f, c, by omega, p2, by omega, p7, fun k hk => ?_⟩
  obtain ⟨l, d, q1, q2, q3, q4, _⟩ := p8 k hk
  exact ⟨l, d, q2, by omega, q4⟩
theorem rmB {g : Nat → Int32} {m : Nat} {n : Nat} (hm : m ≤ 6) (hn : n < 8) (h : ¬ rmR g m (nI n) (24 - m) 9 = -1) : ∃ b, 9 ≤ b ∧ b + m ≤ 32 ∧ rmR g m (nI n) (24 - m) 9 = nI b ∧ ∀ n', n' < 8 → n' ≠ n → ∀ k, k < m → ¬ OC g n' (b + k) := by
  obtain ⟨b, h1, h2, e, r⟩ := (rm_free g m (nI n) (24 - m) 9).resolve_left h
  exact ⟨b, h1, by omega, e, fun n' hn' hne k hk => us_free hn (by omega) (r k hk) n' hn' hne⟩
theorem rwC_t {Y : RSt} {q : Nat} {z i v : Int32} (hq : 9 ≤ q ∧ q < 32) (h : ∀ k, k < Y.my → ∃ t, Y.wh k = nI t ∧ tgt t) : ∀ k, k < (rwC Y q z i v).my → ∃ t, (rwC Y q z i v).wh k = nI t ∧ tgt t := fun k hk => by
  have hk : k < Y.my + 1 := hk
  show ∃ t, upd Y.wh Y.my (nI q) k = nI t ∧ tgt t
  by_cases e : k = Y.my
  · rw [e, pk_us]; exact ⟨q, rfl, Or.inr hq⟩
  · rw [pk_un e]; exact h k (by omega)
