/-! what the reference keeps: lines, disk -/
def LK (f g : Nat → Int32) (l : Nat) : Prop := f l = -1 ∨ ∃ d, d ≤ 12 ∧ f l = nI d ∧ GL (fun i => g (12 * l + i)) d
def LI (Y : RSt) : Prop := Y.tn ≤ 15 ∧ cnL Y.ln 99 ≤ 10 ∧ ∀ l, 1 ≤ l → l < 100 → LK Y.ln Y.ch l
def DI (Y : RSt) : Prop := (∃ h, DV Y.dk h ∧ FOK h) ∧ (Y.de = 0 → Y.dk 32 = 0) ∧ (fmtv Y.dk = 0 → Y.dk 32 = 0)
def RI (q : Nat) (Y : RSt) : Prop := LI Y ∧ DI Y ∧ Y.os ≤ q
def FX (Y Z : RSt) : Prop := Z.tn = Y.tn ∧ Z.ln = Y.ln ∧ Z.ch = Y.ch ∧ Z.dk = Y.dk ∧ Z.de = Y.de
theorem LI_cg {Y Z : RSt} (h1 : Z.tn ≤ 15) (h2 : Z.ln = Y.ln) (h3 : Z.ch = Y.ch) (h : LI Y) : LI Z := by
  unfold LI
  rw [h2, h3]
  exact ⟨h1, h.2⟩
theorem DI_cg {Y Z : RSt} (h1 : Z.dk = Y.dk) (h2 : Z.de = Y.de) (h : DI Y) : DI Z := by
  unfold DI
  rw [h1, h2]
  exact h
theorem RI.fx {q : Nat} {Y Z : RSt} (h : RI q Y) (f : FX Y Z) (ho : Z.os ≤ q) : RI q Z := ⟨LI_cg (by rw [f.1]; exact h.1.1) f.2.1 f.2.2.1 h.1, DI_cg f.2.2.2.1 f.2.2.2.2 h.2.1, ho⟩
theorem sm_fx {Y Z : RSt} (h : smP Y Z) : FX Y Z := by
  have h : Z = mix Y Z := h
  rw [h]
  exact ⟨rfl, rfl, rfl, rfl, rfl⟩
theorem RI.sm {q : Nat} {Y Z : RSt} (h : RI q Y) (s : smP Y Z) : RI q Z := h.fx (sm_fx s) (by rw [sm_os s]; exact h.2.2)
theorem RI.up {q q' : Nat} {Y : RSt} (h : RI q Y) (g : q ≤ q') : RI q' Y := ⟨h.1, h.2.1, Nat.le_trans h.2.2 g⟩
theorem cnL_m1 : ∀ k, cnL (fun _ => -1) k = 0
  | 0 => rfl
  | k + 1 => by
    show cnL (fun _ => -1) k + (if (-1 : Int32) = -1 then 0 else 1) = 0
    rw [if_pos rfl, cnL_m1 k]
theorem LI_no (Y : RSt) : LI (noF Y) := ⟨Nat.zero_le _, by show cnL (fun _ => -1) 99 ≤ 10; rw [cnL_m1]; decide, fun l _ _ => Or.inl rfl⟩
theorem wt_os (Y : RSt) (n : Nat) (v : Nat → Int32) : (wtF Y n v).os = Y.os := by
  rcases wt_cases Y n v with ⟨_, e⟩ | ⟨_, e⟩ | ⟨_, e⟩ <;> rw [e] <;> rfl
theorem LI_wt {Y : RSt} (h : LI Y) (n : Nat) (v : Nat → Int32) : LI (wtF Y n v) := by
  rcases wt_cases Y n v with ⟨_, e⟩ | ⟨_, e⟩ | ⟨_, e⟩ <;> rw [e]
  · exact h
  · exact LI_no _
  · exact h
theorem LI_wA {Y : RSt} (h : LI Y) : ∀ k, LI (wA Y k) ∧ (wA Y k).os = Y.os
  | 0 => ⟨h, rfl⟩
  | k + 1 => ⟨LI_wt (LI_wA h k).1 _ _, (wt_os _ _ _).trans (LI_wA h k).2⟩
theorem LI_wB {Y : RSt} (h : LI Y) : ∀ k, LI (wB Y k) ∧ (wB Y k).os = Y.os
  | 0 => ⟨h, rfl⟩
  | k + 1 => ⟨LI_wt (LI_wB h k).1 _ _, (wt_os _ _ _).trans (LI_wB h k).2⟩
theorem LI_cm {Y : RSt} (h : LI Y) : LI (cm2 Y) ∧ (cm2 Y).os = Y.os := by
  have a := LI_wA h Y.my
  have a1 : LI (cm1 Y) := LI_wt a.1 _ _
  have b := LI_wB a1 (cm1 Y).my
  exact ⟨LI_wt b.1 _ _, (wt_os _ _ _).trans (b.2.trans ((wt_os _ _ _).trans a.2))⟩
theorem LI_ce {Y : RSt} (f : Nat → Int32) (h : LI Y) : LI (ceF Y f) := h
theorem LI_rp {Y : RSt} (h : LI Y) : ∀ k, LI (rpR Y k) ∧ (rpR Y k).os = Y.os
  | 0 => ⟨h, rfl⟩
  | k + 1 => ⟨LI_wt (LI_ce _ (LI_rp h k).1) _ _, (wt_os _ _ _).trans (LI_rp h k).2⟩
theorem wt_dead {Y : RSt} (h : ¬ Y.de = 0) (n : Nat) (v : Nat → Int32) : wtF Y n v = Y := if_neg h
theorem cm_dead {Y : RSt} (h : ¬ Y.de = 0) : cm2 Y = Y := by
  have a : ∀ k, wA Y k = Y := by
    intro k
    induction k with
    | zero => rfl
    | succ k ih => show wtF (wA Y k) _ _ = Y; rw [ih]; exact wt_dead h _ _
  have b : cm1 Y = Y := by show wtF (wA Y Y.my) 2 (hdS (wA Y Y.my)) = Y; rw [a]; exact wt_dead h _ _
  have c : ∀ k, wB Y k = Y := by
    intro k
    induction k with
    | zero => rfl
    | succ k ih => show wtF (wB Y k) _ _ = Y; rw [ih]; exact wt_dead h _ _
  show wtF (wB (cm1 Y) (cm1 Y).my) 2 (fun _ => 0) = Y
  rw [b, c]
  exact wt_dead h _ _
theorem DI_fok {Y : RSt} (h : DI Y) (hd : Y.de = 0) : Y.dk 32 = 0 ∧ FOK Y.dk := by
  have h0 := h.2.1 hd
  refine ⟨h0, ?_⟩
  obtain ⟨⟨g, ⟨n, ⟨hn, e, _⟩, r⟩, ok⟩, _⟩ := h
  have n0 : n = 0 := (nI_eq (b := 0) (by omega) (by decide)).mp (e.symm.trans h0)
  subst n0
  exact FOK_cg (fun i hi => (r i hi).symm) ok
theorem fm_cg {g g' : Nat → Int32} (e : g' 0 = g 0) : fmtv g' = fmtv g := by
  unfold fmtv
  rw [e]
theorem DI_cm {Y : RSt} (hi : DI Y) (hf : ¬ fmtv Y.dk = 0) (hm : Y.my ≤ 6) (ht : ∀ k, k < Y.my → ∃ t, Y.wh k = nI t ∧ tgt t) (ok : Y.de = 0 → FOK (hN Y.dk Y.wh Y.ce Y.my)) : DI (cm2 Y) := by
  by_cases hd : Y.de = 0
  · obtain ⟨h0, ok0⟩ := DI_fok hi hd
    rcases cm_res hd h0 hm ht with ⟨a, b, c⟩ | ⟨a, b, c, d⟩
    · refine ⟨?_, fun g => absurd g a, fun g => absurd (by rw [← fm_cg b]; exact g) hf⟩
      rcases c with c | c
      · exact ⟨_, c, ok0⟩
      · exact ⟨_, c, ok hd⟩
    · exact ⟨⟨_, DV_0 c d, ok hd⟩, fun _ => c, fun _ => c⟩
  · rw [cm_dead hd]
    exact hi
theorem RI_cm {q : Nat} {Y S : RSt} (hi : RI q Y) (fx : FX Y S) (ho : S.os = Y.os) (hf : ¬ fmtv Y.dk = 0) (hm : S.my ≤ 6) (ht : ∀ k, k < S.my → ∃ t, S.wh k = nI t ∧ tgt t) (ok : Y.de = 0 → FOK (hN Y.dk S.wh S.ce S.my)) : RI q (cm2 S) := by
  have hs : RI q S := hi.fx fx (by rw [ho]; exact hi.2.2)
  have l := LI_cm hs.1
  refine ⟨l.1, DI_cm hs.2.1 (by rw [fx.2.2.2.1]; exact hf) hm ht (by rw [fx.2.2.2.1, fx.2.2.2.2]; exact ok), by rw [l.2]; exact hs.2.2⟩
/-! format and recovery -/
theorem DI_w2 {Y : RSt} (h : DI Y) : DI (wtF Y 2 (fun _ => 0)) := by
  rcases wt_cases Y 2 (fun _ => 0) with ⟨_, e⟩ | ⟨hd, e⟩ | ⟨hd, e⟩ <;> rw [e]
  · exact h
  · exact ⟨h.1, fun g => absurd g (ds_de Y), h.2.2⟩
  · obtain ⟨h0, ok⟩ := DI_fok h hd
    have z : fl (16 * 2) 0 16 (fun _ => (0 : Int32)) Y.dk 32 = 0 := by rw [fl_in (by omega)]
    refine ⟨⟨Y.dk, DV_0 z (fun i hi => ?_), ok⟩, fun _ => z, fun _ => z⟩
    have hi' : (16 ≤ i ∧ i < 32) ∨ (144 ≤ i ∧ i < 512) := hi
    show fl (16 * 2) 0 16 (fun _ => (0 : Int32)) Y.dk i = Y.dk i
    rw [fl_out (by omega)]
theorem DI_w1 {Y : RSt} (h : DI Y) : DI (wtF Y 1 (fun _ => 0)) := by
  rcases wt_cases Y 1 (fun _ => 0) with ⟨_, e⟩ | ⟨hd, e⟩ | ⟨hd, e⟩ <;> rw [e]
  · exact h
  · exact ⟨h.1, fun g => absurd g (ds_de Y), h.2.2⟩
  · obtain ⟨h0, ok⟩ := DI_fok h hd
    have z : fl (16 * 1) 0 16 (fun _ => (0 : Int32)) Y.dk 32 = 0 := by rw [fl_out (by omega)]; exact h0
    refine ⟨⟨_, DV_0 z (fun i _ => rfl), FOK_0 (fun i a b => ?_)⟩, fun _ => z, fun _ => z⟩
    show fl (16 * 1) 0 16 (fun _ => (0 : Int32)) Y.dk i = 0
    rw [fl_in (by omega)]
theorem DI_w0 {Y : RSt} (h : DI Y) (v : Nat → Int32) : DI (wtF Y 0 v) := by
  rcases wt_cases Y 0 v with ⟨_, e⟩ | ⟨hd, e⟩ | ⟨hd, e⟩ <;> rw [e]
  · exact h
  · exact ⟨h.1, fun g => absurd g (ds_de Y), h.2.2⟩
  · obtain ⟨h0, ok⟩ := DI_fok h hd
    have z : fl (16 * 0) 0 16 v Y.dk 32 = 0 := by rw [fl_out (by omega)]; exact h0
    refine ⟨⟨Y.dk, DV_0 z (fun i hi => ?_), ok⟩, fun _ => z, fun _ => z⟩
    have hi' : (16 ≤ i ∧ i < 32) ∨ (144 ≤ i ∧ i < 512) := hi
    show fl (16 * 0) 0 16 v Y.dk i = Y.dk i
    rw [fl_out (by omega)]
theorem RI_fmB {q : Nat} {Y : RSt} (h : RI q Y) : RI q (fmB Y) := by
  have a : RI q (fmA Y) := h.fx ⟨rfl, rfl, rfl, rfl, rfl⟩ h.2.2
  unfold fmB
  revert a
  generalize fmA Y = M
  intro a
  refine ⟨LI_wt (LI_wt (LI_wt a.1 _ _) _ _) _ _, DI_w0 (DI_w1 (DI_w2 a.2.1)) _, ?_⟩
  rw [wt_os, wt_os, wt_os]
  exact a.2.2
theorem ri_mk {q : Nat} {a : Int32} {Z : RSt} (h : RI q Z) : RI q ((a, Z) : Int32 × RSt).2 := h
theorem RI_fm {q : Nat} {Y : RSt} (h : RI q Y) : RI q (fmR Y).2 := by
  unfold fmR
  by_cases hd : Y.de = 0
  · rw [if_pos hd]
    have t := RI_fmB h
    revert t
    generalize fmB Y = M
    intro t
    exact ri_mk t
  · rw [if_neg hd]
    exact ri_mk (h.fx ⟨rfl, rfl, rfl, rfl, rfl⟩ h.2.2)
theorem RI_lg {q : Nat} {Y : RSt} (h : RI q Y) : RLg Y.dk := by
  obtain ⟨⟨g, ⟨n, ⟨hn, e, ht⟩, _⟩, _⟩, _⟩ := h.2.1
  refine ⟨n, hn, e, fun k hk => ?_⟩
  obtain ⟨t, et, tt⟩ := ht k hk
  have tt : t = 1 ∨ (9 ≤ t ∧ t < 32) := tt
  exact ⟨t, by omega, by omega, et⟩
theorem RI_ar {q : Nat} {Y : RSt} (h : RI q Y) (x : Int32) : RI q (arF Y x) := h.fx ⟨rfl, rfl, rfl, rfl, rfl⟩ h.2.2
theorem RI_rc1 {q : Nat} {Y : RSt} (h : RI q Y) (h32 : Y.dk 32 = 0) : RI q (rc1 Y) := ⟨LI_no _, ⟨h.2.1.1, fun _ => h32, fun _ => h32⟩, h.2.2⟩
theorem RI_rc2 {q : Nat} {Y : RSt} (h : RI q Y) (hf : ¬ fmtv Y.dk = 0) : RI q (rc2 Y) := by
  have l1 : LI (rc1 Y) := LI_no _
  have o1 : (rc1 Y).os = Y.os := rfl
  have ed : (rc1 Y).dk = Y.dk := rfl
  have dd : (rc1 Y).de = 0 := rfl
  obtain ⟨g, ⟨n, lg, r⟩, ok⟩ := h.2.1.1
  have en : (Y.dk 32).toNatClampNeg = n := by rw [lg.2.1]; exact nI_clamp (by have := lg.1; omega)
  have e2 : rc2 Y = wtF (rpR (rc1 Y) n) 2 (fun _ => 0) := by unfold rc2; rw [en]
  have okN : FOK (hN Y.dk (fun k => Y.dk (33 + k)) (fun i => Y.dk (48 + i)) n) := FOK_cg (fun i hi => (r i hi).symm) ok
  have rr := rp_res (Y := rc1 Y) (n := n) dd (by rw [ed]; exact lg)
  rw [ed] at rr
  have l2 := LI_rp l1 n
  have l3 := LI_wt l2.1 2 (fun _ => 0)
  have o3 : (wtF (rpR (rc1 Y) n) 2 (fun _ => 0)).os = Y.os := by rw [wt_os, l2.2, o1]
  rw [e2]
  revert rr l3 o3
  generalize wtF (rpR (rc1 Y) n) 2 (fun _ => 0) = M
  intro rr l3 o3
  refine ⟨l3, ?_, by rw [o3]; exact h.2.2⟩
  rcases rr with ⟨a, b, c⟩ | ⟨a, b, c, d⟩
  · refine ⟨?_, fun g => absurd g a, fun g => absurd (by rw [← fm_cg b]; exact g) hf⟩
    rcases c with c | c
    · exact ⟨_, c, okN⟩
    · exact ⟨_, c, okN⟩
  · exact ⟨⟨_, DV_0 c d, okN⟩, fun _ => c, fun _ => c⟩
theorem RI_rc {q : Nat} {Y : RSt} (h : RI q Y) : RI q (rcR Y).2 := by
  unfold rcR
  by_cases hf : fmtv Y.dk = 0
  · rw [if_pos hf]
    exact ri_mk (RI_ar (RI_rc1 h (h.2.1.2.2 hf)) _)
  rw [if_neg hf]
  by_cases h32 : Y.dk 32 = 0
  · rw [if_pos h32]
    exact ri_mk (RI_ar (RI_rc1 h h32) _)
  rw [if_neg h32]
  have t := RI_rc2 h hf
  revert t
  generalize rc2 Y = M
  intro t
  exact ri_mk (RI_ar t _)
