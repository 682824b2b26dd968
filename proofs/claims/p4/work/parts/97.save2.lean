/-! save: the whole call -/
theorem TIE_ro {L : LSt} {Y : RSt} (r : Nat → Int32) (h : TIE L Y) : TIE (roF L r) Y := h
theorem TIE_wh {L : LSt} {Y : RSt} (f : Nat → Int32) (h : TIE L Y) : TIE L (whF Y f) := h
theorem TIE_s6 {L : LSt} {Y : RSt} (n b : Nat) (h : TIE L Y) : TIE L (sy6 Y n b) := by
  unfold sy6 sy5 sy4 sy3 sy2
  exact TIE_my _ (TIE_wh _ (TIE_ce _ (TIE_ce _ (TIE_ce _ (TIE_di n _ _ h)))))
theorem roF_p (L : LSt) (r : Nat → Int32) : (roF L r).ro = r ∧ (roF L r).hd = L.hd ∧ (roF L r).jt = L.jt := ⟨rfl, rfl, rfl⟩
theorem sv3_p (L : LSt) (n f : Int32) : (sv3 L n f).ro = putv (bgF L n (1 + 4 * L.wn) f).ro 16 (nI (bgF L n (1 + 4 * L.wn) f).wn) ∧ (sv3 L n f).hd = (bgF L n (1 + 4 * L.wn) f).hd ∧ (sv3 L n f).jt = (bgF L n (1 + 4 * L.wn) f).jt := ⟨rfl, rfl, rfl⟩
theorem bg_n (L : LSt) (n : Int32) (cn : Nat) (f : Int32) : (bgF L n cn f).wn = L.wn ∧ (bgF L n cn f).nu = L.nu ∧ (bgF L n cn f).le = L.le ∧ (bgF L n cn f).te = L.te := by
  have t : ∀ k, (bgL (bg1 L n cn f) f k).wn = L.wn ∧ (bgL (bg1 L n cn f) f k).nu = L.nu ∧ (bgL (bg1 L n cn f) f k).le = L.le ∧ (bgL (bg1 L n cn f) f k).te = L.te := by
    intro k
    induction k with
    | zero => exact ⟨rfl, rfl, rfl, rfl⟩
    | succ k ih => exact ih
  exact t _
theorem sv3_n (L : LSt) (n f : Int32) : (sv3 L n f).wn = L.wn ∧ (sv3 L n f).nu = L.nu ∧ (sv3 L n f).le = L.le ∧ (sv3 L n f).te = L.te := bg_n L n (1 + 4 * L.wn) f
theorem s6_hd (Y : RSt) (n b i : Nat) : hdS (sy6 Y n b) i = if i = 0 then nI (sy6 Y n b).my else if (sy6 Y n b).my < i then 0 else (sy6 Y n b).wh (i - 1) := rfl
theorem TIE_svB {q : Nat} {L : LSt} {Y : RSt} {n b : Nat} {e0 : Nat → Int32} (h : TIE L Y) (ri : RI q Y) (hd : Y.de = 0) (hn : n < 8) (hb1 : 9 ≤ b) (hb2 : b + bl (cnL Y.ln 99) ≤ 32) (he0 : ∀ i, i < 16 → e0 i = 0) : (cmtF e0 (roF (sv3 L (nI n) (nI b)) (svR L.nu L.le L.te (sv3 L (nI n) (nI b)).ro L.wn))).1 = (dnR (cmR (sy6 Y n b))).1 ∧ TIE (cmtF e0 (roF (sv3 L (nI n) (nI b)) (svR L.nu L.le L.te (sv3 L (nI n) (nI b)).ro L.wn))).2 (dnR (cmR (sy6 Y n b))).2 := by
  have ge : GE L.g Y.dk := h.1.2.2.2
  have wn : L.wn = cnL Y.ln 99 := h.2.1.1.1
  have c10 := ri.1.2.1
  have hbl : bl (cnL Y.ln 99) ≤ 3 := by unfold bl; omega
  have my := sy6_my Y n b
  have w0 := sy6_w0 Y n b
  have wk := fun k hk => sy6_wk Y n b (k := k) hk
  have ro := roF_p (sv3 L (nI n) (nI b)) (svR L.nu L.le L.te (sv3 L (nI n) (nI b)).ro L.wn)
  have s3 := sv3_p L (nI n) (nI b)
  have jt := bgF_jt L (nI n) (1 + 4 * L.wn) (nI b)
  have bro := bg_ro (L := L) ge (n := n) (cn := 1 + 4 * L.wn) (f := nI b) hn
  have bwn := (bg_n L (nI n) (1 + 4 * L.wn) (nI b)).1
  have bhd : ∀ i, (bgF L (nI n) (1 + 4 * L.wn) (nI b)).hd i = if i = 0 then nI (1 + (1 + 4 * L.wn + 15) / 16) else if i = 1 then 1 else if i < 2 + (1 + 4 * L.wn + 15) / 16 then nI (b + (i - 2)) else 0 := bgL_hd L (nI n) (1 + 4 * L.wn) b ((1 + 4 * L.wn + 15) / 16) (by omega)
  have sro := sv_ro (nu := L.nu) (le := L.le) (te := L.te) (r0 := (sv3 L (nI n) (nI b)).ro) (wn := L.wn) (M := sy3 (sy2 Y n b)) (e := (sy3 (sy2 Y n b)).ce) (show LN L.nu L.le L.te L.wn (sy3 (sy2 Y n b)).ln (sy3 (sy2 Y n b)).ch from h.2.1.1) (by rw [wn]; exact c10) (sy3_e0 Y n b) (fun i hi => by
    rw [s3.1, bwn]
    have e16 : putv (bgF L (nI n) (1 + 4 * L.wn) (nI b)).ro 16 (nI L.wn) = upd (bgF L (nI n) (1 + 4 * L.wn) (nI b)).ro 16 (nI L.wn) := putv_in (k := 16) (by decide)
    rw [e16]
    rcases Nat.lt_or_ge i 16 with z | z
    · rw [pk_un (by omega), bro i, sy3_lo Y n b z, wn]
      by_cases z1 : i = 2 * n + 1
      · rw [if_pos z1, if_neg (by omega), if_pos z1]
      · rw [if_neg z1]
        by_cases z2 : i = 2 * n
        · rw [if_pos z2, if_pos z2]
        · rw [if_neg z2, if_neg z2, if_neg z1, if_pos z]
    · by_cases z2 : i = 16
      · rw [z2, pk_us, sy3_16, wn]
      · rw [pk_un z2, bro i, sy3_e0 Y n b i (by omega) hi, if_neg (by omega), if_neg (by omega), if_neg (by omega)]) (fun l l1 l2 l3 => by
    obtain ⟨d, d1, d2, d3⟩ := (ri.1.2.2 l l1 l2).resolve_left l3
    exact ⟨d, d1, d2, GL_asc (by omega) d3⟩)
  rw [← sy6_c] at sro
  refine TIE_cm (TIE_ro _ (show TIE (sv3 L (nI n) (nI b)) (sy6 Y n b) from TIE_s6 n b (TIE_pj _ _ (TIE_bg (nI n) _ (nI b) h)))) ?_ ?_ ?_ ?_ ?_ ?_ he0
  · rw [(sy6_fo Y n b).1.2.2.2.2]; exact hd
  · rw [ro.2.2, s3.2.2, jt, my, wn]
    rfl
  · rw [my]; omega
  · intro i hi
    rw [ro.1]
    exact sro i (by rw [my] at hi; omega)
  · intro i hi
    rw [ro.2.1, s3.2.1, bhd i, s6_hd, my, wn]
    show (if i = 0 then nI (1 + bl (cnL Y.ln 99)) else if i = 1 then 1 else if i < 2 + bl (cnL Y.ln 99) then nI (b + (i - 2)) else 0) = _
    by_cases z0 : i = 0
    · rw [if_pos z0, if_pos z0]
    · rw [if_neg z0, if_neg z0]
      by_cases z1 : i = 1
      · rw [if_pos z1, if_neg (by omega), z1, show 1 - 1 = 0 from rfl, w0]
      · rw [if_neg z1]
        by_cases z2 : i < 2 + bl (cnL Y.ln 99)
        · rw [if_pos z2, if_neg (by omega), show i - 1 = 1 + (i - 2) by omega, wk (i - 2) (by omega)]
        · rw [if_neg z2, if_pos (by omega)]
  · intro k hk
    rw [my] at hk
    rcases Nat.eq_zero_or_pos k with g | g
    · rw [g, w0]; exact vp_in_nI (n := 1) (by decide) (by decide)
    · rw [show k = 1 + (k - 1) by omega, wk (k - 1) (by omega)]
      exact vp_in_nI (by omega) (by decide)
theorem TIE_sa {q : Nat} {L : LSt} {Y : RSt} {n : Nat} {e0 : Nat → Int32} (h : TIE L Y) (ri : RI q Y) (hd : Y.de = 0) (hn : n < 8) (he0 : ∀ i, i < 16 → e0 i = 0) : (sveF e0 L (nI n)).1 = (saR Y n).1 ∧ TIE (sveF e0 L (nI n)).2 (saR Y n).2 := by
  have ge : GE L.g Y.dk := h.1.2.2.2
  have ok := (DI_fok ri.2.1 hd).2
  have wn : L.wn = cnL Y.ln 99 := h.2.1.1.1
  have c10 := ri.1.2.1
  unfold sveF saR
  by_cases c1 : nI (cnL Y.ln 99) = 0
  · have n1 : ¬ ¬ nI L.wn = 0 := fun g => g (by rw [wn]; exact c1)
    rw [if_pos c1, if_neg n1]
    exact mk2 rfl h
  · rw [if_neg c1, if_pos (by rw [wn]; exact c1)]
    have hc0 : 1 ≤ cnL Y.ln 99 := by
      rcases Nat.eq_zero_or_pos (cnL Y.ln 99) with g | g
      · exact absurd (by rw [g]; rfl) c1
      · exact g
    have er := rm_eq ge ok (n := n) (m := (1 + 4 * cnL Y.ln 99 + 15) / 16) hn (by omega) (by omega)
    rw [show (1 + 4 * L.wn + 15) / 16 = (1 + 4 * cnL Y.ln 99 + 15) / 16 by rw [wn], er]
    by_cases c2 : rmR Y.dk ((1 + 4 * cnL Y.ln 99 + 15) / 16) (nI n) (24 - (1 + 4 * cnL Y.ln 99 + 15) / 16) 9 = -1
    · have n2 : ¬ ¬ rmR Y.dk ((1 + 4 * cnL Y.ln 99 + 15) / 16) (nI n) (24 - (1 + 4 * cnL Y.ln 99 + 15) / 16) 9 = -1 := fun g => g c2
      rw [if_pos c2, if_neg n2]
      exact mk2 rfl h
    · rw [if_neg c2, if_pos c2]
      obtain ⟨b, hb1, hb2, eb, hu⟩ := rmB (m := (1 + 4 * cnL Y.ln 99 + 15) / 16) (by omega) hn c2
      rw [eb, nI_clamp (by omega)]
      have s := sv3_n L (nI n) (nI b)
      rw [s.1, s.2.1, s.2.2.1, s.2.2.2]
      exact TIE_svB h ri hd hn hb1 hb2 he0
