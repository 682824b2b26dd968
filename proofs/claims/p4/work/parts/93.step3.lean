/-! steps -/
theorem rdU_ok {L : LSt} {n0 : Nat} {f : Nat → Int32} {a d : Nat} (h1 : 1 ≤ d) (h2 : d ≤ 12) (h3 : a + d ≤ n0) (h4 : n0 < 1000) : rdU L n0 f (nI a) (nI d) = rdG L (va_cpy f L.tx a 0 d) (va_cpy L.va L.tv 0 0 8) d := by
  have nb : ¬ badT n0 (nI a) (nI d) := by
    intro g
    have e3 : nI n0 - nI d = nI (n0 - d) := pk_sub (by omega)
    rcases g with g | g | g | g
    · exact absurd ((nI_ltI (b := 1) (by omega) (by decide)).mp g) (by omega)
    · exact absurd ((nI_ltI (a := 12) (by decide) (by omega)).mp g) (by omega)
    · exact nI_pos (by omega) g
    · apply g
      show nI a ≤ nI n0 - nI d
      rw [e3]
      exact (nI_leI (by omega) (by omega)).mpr (by omega)
  have e : rdU L n0 f (nI a) (nI d) = rdG L (va_cpy f L.tx (nI a).toNatClampNeg 0 (nI d).toNatClampNeg) (va_cpy L.va L.tv 0 0 8) (nI d).toNatClampNeg := if_neg nb
  rw [e, nI_clamp (by omega), nI_clamp (by omega)]
theorem rdU_no {L : LSt} {n0 : Nat} {f : Nat → Int32} {fr : Int32} {d : Nat} (h2 : 12 < d) (h3 : d < 1000) : (rdU L n0 f fr (nI d)).1 = 0 := by
  have nb : badT n0 fr (nI d) := Or.inr (Or.inl ((nI_ltI (a := 12) (by decide) (by omega)).mpr h2))
  have e : rdU L n0 f fr (nI d) = (0, ((0, L.vr, L.fi, L.lf, L.sg, L.rt, L.tg, L.at1, 0), L.en, L.tx, L.tv)) := if_pos nb
  rw [e]
theorem TIE_sU {L : LSt} {Y : RSt} (u : RV) (h : TIE L Y) : TIE (smU L u) Y := h
theorem TIE_gt {L : LSt} {Y : RSt} (x : Int32) (a d : Nat) (h : TIE L Y) : TIE L (gtF Y x a d) := h
theorem gt_G {Y : RSt} {T W : Nat → Int32} {x : Int32} {a d : Nat} (hT : ∀ i, i < d → (if x = 0 then Y.tx (a + i) else Y.ch (a + i)) = T i) (hV : ∀ i, i < 8 → Y.va i = W i) : GDs T W d 0 (gtF Y x a d) := ⟨show ¬ (1 : Int32) = 0 by decide, rfl, Nat.zero_le _, ⟨rfl, hT⟩, hV⟩
theorem TIE_sN {q : Nat} {L : LSt} {Y : RSt} {e0 : Nat → Int32} (h : TIE L Y) (ri : RI q Y) (hd : Y.de = 0) (hos : Y.os < 1000000) (he0 : ∀ i, i < 16 → e0 i = 0) : (¬ nlF Y = -1 → OUTs (stpF e0 L) (sN Y (nlF Y).toNatClampNeg)) ∧ (nlF Y = -1 → stpF e0 L = (0, nxF L 0)) := by
  have ln := h.2.1.1
  have nl := TIE_nl (Y := Y) ln rfl
  have enx : L.nx = Y.nx := h.2.1.2.2.1
  have hwn : L.wn ≤ 10 := by rw [ln.1]; exact ri.1.2.1
  rw [← enx] at nl
  unfold stpF
  by_cases c : plF L.nu L.wn L.nx < L.wn
  · obtain ⟨l, l1, l2, l3, l4, l5⟩ := nl.1 c
    rw [if_pos c, l5]
    refine ⟨fun _ => ?_, fun g => absurd (show nI l < 0 by rw [g]; decide) (nI_pos (by omega))⟩
    rw [nI_clamp (by omega)]
    revert c l4
    generalize plF L.nu L.wn L.nx = p
    intro c l4
    obtain ⟨t1, t2, t3⟩ := ln.2 l l1 l2 l3
    rw [l4] at t1 t2 t3
    obtain ⟨d, d1, d2, d3⟩ := (ri.1.2.2 l l1 l2).resolve_left l3
    have d0 := GL_1 d3
    rw [d2, nI_clamp (by omega)] at t3
    rw [d2] at t2
    have sn : sN Y l = sR1 (gtF Y 1 (12 * l) d) (nI (l + 1)) := by
      unfold sN
      rw [d2, nI_clamp (by omega)]
    have e12 : nI p * 12 = nI (p * 12) := pk_mul p 12
    rw [sn, t2, e12, rdU_ok d0 d1 (by omega) (by decide)]
    have wp : wrP (gtF Y 1 (12 * l) d) := GL_wr (d := d) (t := fun i => Y.ch (12 * l + i)) (by omega) (GL_of rfl rfl rfl (fun i hi => by
      show (if (1 : Int32) = 0 then _ else Y.ch (12 * l + i)) = Y.ch (12 * l + i)
      rw [if_neg (by decide)])) d3 (fun n hn e => by
      obtain ⟨f, f1, f2, f3⟩ := RI_hrec ri hd n hn e
      exact ⟨f, f2, f3⟩)
    have G0 : GDs (va_cpy L.te L.tx (p * 12) 0 d) (va_cpy L.va L.tv 0 0 8) d 0 (gtF Y 1 (12 * l) d) := by
      refine gt_G (fun i hi => ?_) (fun i hi => ?_)
      · rw [if_neg (by decide), pk_cpy_in (Nat.zero_le _) (by omega), Nat.sub_zero, ← t3 i hi, Nat.mul_comm p 12]
      · rw [pk_cpy_in (Nat.zero_le _) (by omega), Nat.sub_zero, Nat.zero_add]
        exact (h.2.1.2.1 i hi).symm
    have st := STM (vr := L.vr) (fi := L.fi) (lf := L.lf) (sg := L.sg) (rt := L.rt) (tg := L.tg) d0 d1 G0
    have sg := (SI.xsR0 (GL_of (X := gtF Y 1 (12 * l) d) (t := fun i => Y.ch (12 * l + i)) (d := d) rfl rfl rfl (fun i hi => by
      show (if (1 : Int32) = 0 then _ else Y.ch (12 * l + i)) = Y.ch (12 * l + i)
      rw [if_neg (by decide)])) (show d ≤ 15 by omega)).2
    have good : ¬ tgo (st0 (gtF Y 1 (12 * l) d)).2 = 0 := fun e => d3 (by rw [← sg]; exact e)
    obtain ⟨s1, _, s3⟩ := st.resolve_right (fun g => good g.2)
    unfold rdG
    revert s1 s3
    generalize rdF (vlD (va_cpy L.te L.tx (p * 12) 0 d) (va_cpy L.va L.tv 0 0 8) d 12) (va_cpy L.te L.tx (p * 12) 0 d) d (kdT (va_cpy L.te L.tx (p * 12) 0 d) d) L.vr L.fi L.lf L.sg L.rt L.tg (atT (kdT (va_cpy L.te L.tx (p * 12) 0 d) d)) 1 = u
    generalize kdT (va_cpy L.te L.tx (p * 12) 0 d) d = kc
    generalize va_cpy L.te L.tx (p * 12) 0 d = T
    generalize va_cpy L.va L.tv 0 0 8 = W
    intro s1 s3
    rw [s1]
    have e : stpG e0 L p (1, ((kc, u), d, T, W)) = stpK e0 (smU L ((kc, u), d, T, W)) p := if_neg (show ¬ (1 : Int32) = 0 by decide)
    rw [e]
    exact o_all (q := q) (TIE_sU _ (TIE_gt 1 (12 * l) d h)) (ri.fx (FX_gt Y 1 (12 * l) d) ri.2.2) hd hos wp he0 c hwn t1 rfl rfl rfl rfl rfl rfl rfl s3
  · have e := nl.2 c
    rw [if_neg c]
    exact ⟨fun g => absurd e g, fun _ => rfl⟩
theorem TIE_ssL {q : Nat} {e0 : Nat → Int32} (he0 : ∀ i, i < 16 → e0 i = 0) : ∀ (f k : Nat) {L : LSt} {Y : RSt}, TIE L Y → RI (q + k) Y → Y.de = 0 → q + k + f < 1000000 → (stsL e0 f L).1 = (ssL f Y).1 ∧ TIE (stsL e0 f L).2 (ssL f Y).2
  | 0, _, _, _, h, _, _, _ => ⟨rfl, h⟩
  | f + 1, k, L, Y, h, ri, hd, hb => by
    have t := TIE_sN h ri hd (by have := ri.2.2; omega) he0
    unfold ssL stsL
    by_cases c1 : nlF Y = -1
    · rw [if_pos c1, t.2 c1]
      rw [if_neg (show ¬ ((0 : Int32), nxF L 0).1 = 6 from fun g => absurd (show (0 : Int32) = 6 from g) (by decide))]
      exact ⟨rfl, TIE_nx 0 h⟩
    · rw [if_neg c1]
      have r := JK_nx ri hd c1
      have o := t.1 c1
      revert r o
      generalize sN Y (nlF Y).toNatClampNeg = w
      generalize stpF e0 L = s
      intro r o
      by_cases c2 : w.1 = 0
      · rw [if_pos c2, if_pos (o.1 c2)]
        exact TIE_ssL he0 f (k + 1) o.2.2 r.1 (r.2 c2) (by omega)
      · have o2 := o.2.1 c2
        rw [if_neg c2, if_neg o2.2]
        exact ⟨o2.1, o.2.2⟩
theorem mo_eq (x : Int32) : moN x = (moR x).toNatClampNeg := by
  unfold moN moR
  have e0 : (0 : Int32).toInt = 0 := by decide
  have e1 : (1 : Int32).toInt = 1 := by decide
  have e50 : (50 : Int32).toInt = 50 := by decide
  by_cases a : x < 50
  · rw [if_pos a]
    by_cases b : 1 < x
    · have c : 1 ≤ x := Int32.le_of_lt b
      rw [if_pos b, if_pos c, if_pos (Int32.le_of_lt a)]
    · rw [if_neg b]
      by_cases c : 1 ≤ x
      · have e : x = 1 := by
          rw [Int32.lt_iff_toInt_lt] at b
          rw [Int32.le_iff_toInt_le] at c
          exact Int32.toInt_inj.mp (by omega)
        rw [e]
        rfl
      · rw [if_neg c]
  · rw [if_neg a, if_pos (show (1 : Int32) < 50 by decide)]
    have c : 1 ≤ x := by
      rw [Int32.lt_iff_toInt_lt] at a
      rw [Int32.le_iff_toInt_le]
      omega
    rw [if_pos c]
    by_cases b : x ≤ 50
    · have e : x = 50 := by
        rw [Int32.lt_iff_toInt_lt] at a
        rw [Int32.le_iff_toInt_le] at b
        exact Int32.toInt_inj.mp (by omega)
      rw [e]
      rfl
    · rw [if_neg b]
theorem TIE_ss {q : Nat} {L : LSt} {Y : RSt} {e0 : Nat → Int32} (h : TIE L Y) (ri : RI q Y) (hq : q < 900000) (he0 : ∀ i, i < 16 → e0 i = 0) (x : Int32) : (stsF e0 L x).1 = (ssR Y x).1 ∧ TIE (stsF e0 L x).2 (ssR Y x).2 := by
  unfold stsF ssR
  by_cases c : Y.de = 0
  · rw [if_pos c, if_pos ((TIE_de h).trans c), mo_eq]
    obtain ⟨j, hj, e⟩ := moR_in x
    rw [e, nI_clamp (by omega)]
    exact TIE_ssL he0 j 0 (TIE_th 0 h) (RI_th ri 0) c (by omega)
  · rw [if_neg c, if_neg (fun g => c ((TIE_de h).symm.trans g))]
    exact ⟨rfl, TIE_th 0 h⟩
