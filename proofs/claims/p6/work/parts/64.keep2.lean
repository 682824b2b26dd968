/-! what the reference keeps: files written -/
theorem diR_t (Y : RSt) (n : Nat) (x y : Int32) : ∀ k, k < 1 → ∃ t, (diR Y n x y).wh k = nI t ∧ tgt t := fun k hk => by
  rw [show k = 0 by omega]
  exact ⟨1, pk_us, Or.inl rfl⟩
theorem diR_c (Y : RSt) (n : Nat) (x y : Int32) : ∀ i, i < 16 → (diR Y n x y).ce i = if i = 2 * n then x else if i = 2 * n + 1 then y else Y.dk (16 + i) := fun i hi => by
  show fl 0 0 16 (diV Y n x y) Y.ce i = _
  rw [fl_all i hi]
  rfl
theorem RI_dr {q : Nat} {Y : RSt} {n : Nat} (h : RI q Y) (hn : n < 8) (hf : ¬ fmtv Y.dk = 0) : RI q (drR Y n).2 := by
  unfold drR
  by_cases e : Y.dk (16 + 2 * n) = 0
  · rw [if_neg (fun g => g e)]; exact h
  · rw [if_pos e]
    show RI q (cm2 (diR Y n 0 0))
    refine RI_cm h ⟨rfl, rfl, rfl, rfl, rfl⟩ rfl hf (show 1 ≤ 6 by decide) (diR_t Y n 0 0) (fun hd => ?_)
    have ok := (DI_fok h.2.1 hd).2
    refine FOK_dir (q := 9) (m := 0) hn ok (by decide) (by decide) (diR_c Y n 0 0) (fun i _ => ?_) (fun _ _ _ k hk => absurd hk (by omega)) (Or.inl rfl)
    exact apQ (t := fun k => ((diR Y n 0 0).wh k).toNatClampNeg) (by decide) (by show (upd Y.wh 0 1 0).toNatClampNeg = 1; rw [pk_us]; rfl) 0 (fun k hk => absurd hk (by omega)) i
theorem RI_hrec {q : Nat} {Y : RSt} (h : RI q Y) (hd : Y.de = 0) : ∀ n, n < 8 → Y.dk (16 + 2 * n) = 16 → ∃ f, 9 ≤ f ∧ f < 32 ∧ Y.dk (17 + 2 * n) = nI f := by
  intro n hn e
  rcases (DI_fok h.2.1 hd).2.1 n hn with a | ⟨f, a⟩ | ⟨f, c, a⟩
  · rw [e] at a; exact absurd a (by decide)
  · exact ⟨f, a.2.2.1, a.2.2.2, a.2.1⟩
  · have := (nI_eq (a := 16) (by decide) (by have := a.2.2.2.1; omega)).mp (e.symm.trans a.1)
    omega
theorem RI_rld {q : Nat} {Y : RSt} (h : RI q Y) (hd : Y.de = 0) : ∀ n, n < 8 → ¬ Y.dk (16 + 2 * n) = 0 → ¬ Y.dk (16 + 2 * n) = 16 → ∃ f c, FP Y.dk n f c := by
  intro n hn e1 e2
  rcases (DI_fok h.2.1 hd).2.1 n hn with a | ⟨f, a⟩ | a
  · exact absurd a e1
  · exact absurd a.1 e2
  · exact a
theorem FP_RLd {g : Nat → Int32} {n f c : Nat} (p : FP g n f c) : RLd g n := by
  obtain ⟨p1, p2, p3, p4, p5, p6, p7, p8⟩ := p
  have hb : 1 + 4 * c ≤ 16 * bl c := by unfold bl; omega
  refine ⟨f, c, by omega, p2, by omega, p7, fun k hk => ?_⟩
  obtain ⟨l, d, q1, q2, q3, q4, _⟩ := p8 k hk
  exact ⟨l, d, q2, by omega, q4⟩
theorem rmB {g : Nat → Int32} {m : Nat} {n : Nat} (hm : m ≤ 6) (hn : n < 8) (h : ¬ rmR g m (nI n) (24 - m) 9 = -1) : ∃ b, 9 ≤ b ∧ b + m ≤ 32 ∧ rmR g m (nI n) (24 - m) 9 = nI b ∧ ∀ n', n' < 8 → n' ≠ n → ∀ k, k < m → ¬ OC g n' (b + k) := by
  obtain ⟨b, h1, h2, e, r⟩ := (rm_free g m (nI n) (24 - m) 9).resolve_left h
  exact ⟨b, h1, by omega, e, fun n' hn' hne k hk => us_free hn (by omega) (r k hk) n' hn' hne⟩
theorem rwC_t {Y : RSt} {q : Nat} {z i v : Int32} (hq : 9 ≤ q ∧ q < 32) (h : ∀ k, k < Y.my → ∃ t, Y.wh k = nI t ∧ tgt t) : ∀ k, k < (rwC Y q z i v).my → ∃ t, (rwC Y q z i v).wh k = nI t ∧ tgt t := fun k hk => by
  have hk : k < Y.my + 1 := hk
  show ∃ t, upd Y.wh Y.my (nI q) k = nI t ∧ tgt t
  by_cases e : k = Y.my
  · rw [e, pk_us]; exact ⟨q, rfl, Or.inr hq⟩
  · rw [pk_un e]; exact h k (by omega)
theorem RI_rw {q : Nat} {Y : RSt} {n : Nat} {i v : Int32} (h : RI q Y) (hd : Y.de = 0) (hn : n < 8) : RI q (rwR Y n i v).2 ∧ ((rwR Y n i v).1 = 0 → (rwR Y n i v).2.de = 0) := by
  have dn : ∀ S, RI q (cm2 S) → RI q (dnR (cmR S)).2 ∧ ((dnR (cmR S)).1 = 0 → (dnR (cmR S)).2.de = 0) := fun S r => by
    refine ⟨r, fun e => Decidable.byContradiction (fun g => ?_)⟩
    have e : (if (if ¬ (cm2 S).de = 0 then (0 : Int32) else 1) = 0 then (7 : Int32) else 0) = 0 := e
    rw [if_pos (show ¬ (cm2 S).de = 0 from g), if_pos rfl] at e
    exact absurd e (by decide)
  have ok := (DI_fok h.2.1 hd).2
  unfold rwR
  by_cases c1 : fmtv Y.dk = 0
  · rw [if_neg (fun g => g c1)]; exact ⟨h, fun _ => hd⟩
  rw [if_pos c1]
  by_cases c2 : i < 0
  · rw [if_pos c2]; exact ⟨h, fun _ => hd⟩
  rw [if_neg c2]
  by_cases c3 : i ≤ 15
  · rw [if_neg (fun g => g c3)]
    by_cases c4 : Y.dk (16 + 2 * n) = 0
    · rw [if_pos c4]
      by_cases c5 : rwB Y n = -1
      · rw [if_neg (fun g => g c5)]; exact ⟨h, fun _ => hd⟩
      · rw [if_pos c5]
        obtain ⟨b, hb1, hb2, eb, hu⟩ := rmB (m := 1) (by decide) hn c5
        have eb : rwB Y n = nI b := eb
        rw [eb, nI_clamp (by omega), c4]
        apply dn
        refine RI_cm (S := rwC (diR Y n 16 (nI b)) b 0 i v) h ⟨rfl, rfl, rfl, rfl, rfl⟩ rfl c1 (show 1 + 1 ≤ 6 by decide) (rwC_t ⟨hb1, by omega⟩ (diR_t Y n 16 (nI b))) (fun _ => ?_)
        refine FOK_dir (v := (rwC (diR Y n 16 (nI b)) b 0 i v).ce) (q := b) (m := 1) (x := 16) (y := nI b) hn ok hb1 hb2 (fun i hi => ?_) (fun i _ => ?_) hu (Or.inr (Or.inl ⟨rfl, rfl, rfl⟩))
        · show fl (16 * 1) 0 16 _ (diR Y n 16 (nI b)).ce i = _
          rw [fl_out (by omega)]
          exact diR_c Y n 16 (nI b) i hi
        · refine apQ (t := fun k => ((rwC (diR Y n 16 (nI b)) b 0 _ v).wh k).toNatClampNeg) hb1 ?_ 1 (fun k hk => ?_) i
          · show (upd (upd Y.wh 0 1) 1 (nI b) 0).toNatClampNeg = 1
            rw [pk_un (by decide), pk_us]
            rfl
          · rw [show k = 0 by omega]
            show (upd (upd Y.wh 0 1) 1 (nI b) (1 + 0)).toNatClampNeg = b + 0
            rw [show 1 + 0 = 1 from rfl, pk_us, nI_clamp (by omega)]
            rfl
    · rw [if_neg c4]
      by_cases c5 : Y.dk (16 + 2 * n) = 16
      · rw [if_pos c5]
        obtain ⟨f, hf1, hf2, ef⟩ := RI_hrec h hd n hn c5
        rw [ef, nI_clamp (by omega), c5]
        apply dn
        refine RI_cm (S := rwC (myF Y 0) f 16 i v) h ⟨rfl, rfl, rfl, rfl, rfl⟩ rfl c1 (show 0 + 1 ≤ 6 by decide) (rwC_t (Y := myF Y 0) ⟨hf1, hf2⟩ (fun k hk => absurd (show k < 0 from hk) (by omega))) (fun _ => ?_)
        have et : ((rwC (myF Y 0) f 16 i v).wh 0).toNatClampNeg = f := by
          show (upd Y.wh 0 (nI f) 0).toNatClampNeg = f
          rw [pk_us, nI_clamp (by omega)]
        have eh : ∀ j, (j < 16 * f ∨ 16 * f + 16 ≤ j) → Y.dk j = hN Y.dk (rwC (myF Y 0) f 16 i v).wh (rwC (myF Y 0) f 16 i v).ce (rwC (myF Y 0) f 16 i v).my j := fun j hj => by
          show Y.dk j = fl (16 * ((rwC (myF Y 0) f 16 i v).wh 0).toNatClampNeg) 0 16 _ Y.dk j
          rw [et, fl_out hj]
        refine FOK_new (n := n) (q := f) (m := 1) hn ok (fun n' hn' hne => ⟨eh _ (by omega), eh _ (by omega)⟩) (fun j a b c => eh j (by omega)) (fun n' hn' hne k hk o => ?_) (Or.inr (Or.inl ⟨f, by rw [← eh _ (by omega)]; exact c5, by rw [← eh _ (by omega)]; exact ef, hf1, hf2⟩)) (fun b o => ?_)
        · rw [show f + k = f by omega] at o
          exact ok.2 n n' f hn hn' (fun e => hne e.symm) ⟨f, ef, hf2, Or.inl ⟨c5, rfl⟩⟩ o
        · have o := OC_cg (eh _ (by omega)).symm (eh _ (by omega)).symm o
          obtain ⟨f', ef', hf', o⟩ := o
          have ff : f = f' := (nI_eq (by omega) (by omega)).mp (ef.symm.trans ef')
          rcases o with ⟨_, z⟩ | ⟨c', c1', c2', z, _⟩
          · omega
          · exact absurd ((nI_eq (a := 16) (by decide) (by omega)).mp (c5.symm.trans z)) (by omega)
      · rw [if_neg c5]; exact ⟨h, fun _ => hd⟩
  · rw [if_pos c3]; exact ⟨h, fun _ => hd⟩
theorem RI_sa {q : Nat} {Y : RSt} {n : Nat} (h : RI q Y) (hd : Y.de = 0) (hn : n < 8) (hf : ¬ fmtv Y.dk = 0) : RI q (saR Y n).2 := by
  have ok := (DI_fok h.2.1 hd).2
  unfold saR
  by_cases c1 : nI (cnL Y.ln 99) = 0
  · rw [if_pos c1]; exact h
  rw [if_neg c1]
  have hc := h.1.2.1
  have hc0 : 1 ≤ cnL Y.ln 99 := by
    rcases Nat.eq_zero_or_pos (cnL Y.ln 99) with g | g
    · exact absurd (by rw [g]; rfl) c1
    · exact g
  generalize hC : cnL Y.ln 99 = c at hc hc0 c1 ⊢
  by_cases c2 : rmR Y.dk ((1 + 4 * c + 15) / 16) (nI n) (24 - (1 + 4 * c + 15) / 16) 9 = -1
  · rw [if_pos c2]; exact h
  rw [if_neg c2]
  obtain ⟨b, hb1, hb2, eb, hu⟩ := rmB (m := (1 + 4 * c + 15) / 16) (by omega) hn c2
  rw [eb, nI_clamp (by omega)]
  show RI q (cm2 (sy6 Y n b))
  have emy : (sy6 Y n b).my = 1 + bl c := by
    show 1 + (1 + 4 * cnL Y.ln 99 + 15) / 16 = 1 + bl c
    rw [hC]
    rfl
  have ew0 : (sy6 Y n b).wh 0 = 1 := by
    show fl 1 0 _ _ (upd Y.wh 0 1) 0 = 1
    unfold fl
    rw [if_neg (by omega), pk_us]
  have ewk : ∀ k, k < bl c → (sy6 Y n b).wh (1 + k) = nI (b + k) := fun k hk => by
    show fl 1 0 ((1 + 4 * cnL Y.ln 99 + 15) / 16) (fun k => nI (b + k)) (upd Y.wh 0 1) (1 + k) = nI (b + k)
    unfold fl
    rw [hC, if_pos ⟨by omega, by unfold bl at hk; omega⟩]
    show nI (b + (1 + k - 1)) = nI (b + k)
    rw [show 1 + k - 1 = k by omega]
  have hbl : bl c ≤ 3 := by unfold bl; omega
  have hblb : b + bl c ≤ 32 := hb2
  refine RI_cm (S := sy6 Y n b) h ⟨rfl, rfl, rfl, rfl, rfl⟩ rfl hf (by rw [emy]; omega) (fun k hk => ?_) (fun _ => ?_)
  · rw [emy] at hk
    rcases Nat.eq_zero_or_pos k with g | g
    · rw [g, ew0]; exact ⟨1, rfl, Or.inl rfl⟩
    · obtain ⟨j, rfl⟩ : ∃ j, k = 1 + j := ⟨k - 1, by omega⟩
      rw [ewk j (by omega)]
      exact ⟨b + j, rfl, Or.inr ⟨by omega, by omega⟩⟩
  · have e0 : ∀ i, 17 ≤ i → i < 96 → (sy3 (sy2 Y n b)).ce i = 0 := fun i h1 h2 => by
      show upd (fl 0 16 96 (fun _ => 0) _) 16 _ i = 0
      rw [pk_un (by omega)]
      unfold fl
      rw [if_pos (by omega)]
    have sp := svN_sp (sy3 (sy2 Y n b)) (sy3 (sy2 Y n b)).ce e0 (by show cnL Y.ln 99 ≤ 10; rw [hC]; exact hc) 99 (Nat.le_refl _)
    rw [emy]
    refine FOK_dir (v := (sy6 Y n b).ce) (q := b) (m := bl c) (x := nI (1 + 4 * c)) (y := nI b) hn ok hb1 hblb (fun i hi => ?_) (fun i _ => ?_) hu (Or.inr (Or.inr ⟨c, hc0, hc, rfl, rfl, rfl, ?_, fun k hk => ?_⟩))
    · show svN (sy3 (sy2 Y n b)) (sy3 (sy2 Y n b)).ce 99 i = _
      rw [sp.1 i (Or.inl (by omega))]
      show upd (fl 0 16 96 (fun _ => 0) (diR Y n (nI (1 + 4 * cnL Y.ln 99)) (nI b)).ce) 16 _ i = _
      rw [pk_un (by omega), show fl 0 16 96 (fun _ => 0) (diR Y n (nI (1 + 4 * cnL Y.ln 99)) (nI b)).ce i = (diR Y n (nI (1 + 4 * cnL Y.ln 99)) (nI b)).ce i by unfold fl; rw [if_neg (by omega)], diR_c Y n _ _ i hi, hC]
    · refine apQ (t := fun k => ((sy6 Y n b).wh k).toNatClampNeg) hb1 (by show ((sy6 Y n b).wh 0).toNatClampNeg = 1; rw [ew0]; rfl) (bl c) (fun k hk => ?_) i
      show ((sy6 Y n b).wh (1 + k)).toNatClampNeg = b + k
      rw [ewk k hk, nI_clamp (by omega)]
    · show svN (sy3 (sy2 Y n b)) (sy3 (sy2 Y n b)).ce 99 16 = nI c
      rw [sp.1 16 (Or.inl (by omega))]
      show upd _ 16 (nI (cnL Y.ln 99)) 16 = nI c
      rw [pk_us, hC]
    · obtain ⟨l, l1, l2, l3, l4⟩ := cnL_ex Y.ln 99 k (by rw [hC]; exact hk)
      have r := sp.2 l l1 l2 l3
      have r1 : svN (sy3 (sy2 Y n b)) (sy3 (sy2 Y n b)).ce 99 (17 + 4 * cnL Y.ln (l - 1)) = 16 * nI l + Y.ln l := r.1
      have r2 : ∀ j, j < 3 → svN (sy3 (sy2 Y n b)) (sy3 (sy2 Y n b)).ce 99 (17 + 4 * cnL Y.ln (l - 1) + 1 + j) = pkA (sy3 (sy2 Y n b)) l j := r.2
      rw [l4] at r1 r2
      obtain ⟨d, d1, d2, d3⟩ := (h.1.2.2 l l1 (by omega)).resolve_left l3
      refine ⟨l, d, l1, by omega, d1, ?_, ?_⟩
      · show svN (sy3 (sy2 Y n b)) (sy3 (sy2 Y n b)).ce 99 (17 + 4 * k) = _
        rw [r1, d2, show (16 : Int32) * nI l = nI (16 * l) from pk_mul 16 l, nI_add]
      · have as := GL_asc (by omega) d3
        have cp := ch_pk (Y := sy3 (sy2 Y n b)) (l := l) (d := d) (g := svN (sy3 (sy2 Y n b)) (sy3 (sy2 Y n b)).ce 99) (a := 17 + 4 * k) d1 d2 as r2
        exact GL_cg (by omega) (fun i hi => (cp i hi).symm) d3
