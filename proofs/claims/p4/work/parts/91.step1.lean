/-! a step -/
theorem st1_A {X : RSt} {t : Int32} (a : ¬ asB (hrF X) (bhF X) = 0) : st1 X t = (t, 0, vaAll (vaF (muF (atF X) 61)).2 (upd (vaF (muF (atF X) 61)).2.va (hrF X - 65).toNatClampNeg (vaF (muF (atF X) 61)).1)) := by
  unfold st1
  rw [if_pos a]
theorem st1_P {X : RSt} {t : Int32} (a : asB (hrF X) (bhF X) = 0) (e : hrF X = 80) : st1 X t = (t, 0, coF (vaF (atF X)).2 (vaF (atF X)).1) := by
  unfold st1
  rw [if_neg (fun g => g a), if_pos e]
theorem st1_I {X : RSt} {t : Int32} (a : asB (hrF X) (bhF X) = 0) (e : hrF X = 73) : st1 X t = (iI5 X t, 0, (iI4 X).2) := by
  unfold st1
  rw [if_neg (fun g => g a), if_neg (by rw [e]; decide), if_pos e]
theorem st1_G {X : RSt} {t : Int32} (a : asB (hrF X) (bhF X) = 0) (e : hrF X = 71) : st1 X t = ((lnF (atF X)).1, 0, (lnF (atF X)).2) := by
  unfold st1
  rw [if_neg (fun g => g a), if_neg (by rw [e]; decide), if_neg (by rw [e]; decide), if_pos e]
theorem st1_E {X : RSt} {t : Int32} (a : asB (hrF X) (bhF X) = 0) (e : hrF X = 69) : st1 X t = (t, -1, atF X) := by
  unfold st1
  rw [if_neg (fun g => g a), if_neg (by rw [e]; decide), if_neg (by rw [e]; decide), if_neg (by rw [e]; decide), if_pos e]
theorem st1_W {X : RSt} {t : Int32} (a : asB (hrF X) (bhF X) = 0) (e : hrF X = 87) : st1 X t = (t, rwR (vaF (iW3 X)).2 (dgF (atF X)).1.toNatClampNeg (iW2 X).1 (vaF (iW3 X)).1) := by
  unfold st1
  rw [if_neg (fun g => g a), if_neg (by rw [e]; decide), if_neg (by rw [e]; decide), if_neg (by rw [e]; decide), if_neg (by rw [e]; decide), if_pos e]
theorem st1_R {X : RSt} {t : Int32} (a : asB (hrF X) (bhF X) = 0) (e : hrF X = 82) : st1 X t = (t, rrR (iR4 X) (dgF (atF X)).1.toNatClampNeg (iW2 X).1 (hrF (iW3 X) - 65).toNatClampNeg) := by
  unfold st1
  rw [if_neg (fun g => g a), if_neg (by rw [e]; decide), if_neg (by rw [e]; decide), if_neg (by rw [e]; decide), if_neg (by rw [e]; decide), if_neg (by rw [e]; decide), if_pos e]
theorem sR1_eq {X Z : RSt} {t a f : Int32} (e : st1 X t = (a, f, Z)) : sR1 X t = (f, tl1 Z a f) := by
  unfold sR1
  rw [e]
theorem TIE_nx {L : LSt} {Y : RSt} (x : Int32) (h : TIE L Y) : TIE (nxF L x) (nxR Y x) := ⟨h.1, ⟨h.2.1.1, h.2.1.2.1, rfl, h.2.1.2.2.2⟩, h.2.2⟩
theorem TIE_tl {L : LSt} {Y : RSt} (h : TIE L Y) : TIE L (tl0 Y) := h
theorem TIE_sm {L : LSt} {Y Z : RSt} (h : TIE L Y) (s : smP Y Z) : TIE L Z := by
  have s : Z = mix Y Z := s
  rw [s]
  exact h
theorem tl_0 {Z : RSt} {t : Int32} (h : Z.de = 0) : tl1 Z t 0 = nxR (tl0 Z) t := by
  have nd : ¬ ¬ Z.de = 0 := fun g => g h
  have n0 : ¬ ¬ (0 : Int32) = 0 := fun g => g rfl
  unfold tl1 nxv
  rw [if_neg nd, if_neg n0]
theorem tl_m {Z : RSt} {t : Int32} (h : Z.de = 0) : tl1 Z t (-1) = nxR (tl0 Z) 0 := by
  have nd : ¬ ¬ Z.de = 0 := fun g => g h
  have n0 : ¬ ¬ (-1 : Int32) = -1 := fun g => g rfl
  unfold tl1 nxv
  rw [if_neg nd, if_pos (by decide), if_neg n0]
theorem tl_f {L : LSt} {Z : RSt} {t f : Int32} (h0 : ¬ f = 0) (h1 : ¬ f = -1) (h : TIE L Z) : TIE L (tl1 Z t f) := by
  unfold tl1 nxv
  rw [if_pos h0, if_pos h1]
  split
  · exact TIE_tl h
  · exact TIE_tl h
def OUTs (s : Int32 × LSt) (r : Int32 × RSt) : Prop := (r.1 = 0 → s.1 = 6) ∧ (¬ r.1 = 0 → s.1 = (if ¬ r.1 = -1 then r.1 else 0) ∧ ¬ s.1 = 6) ∧ TIE s.2 r.2
def stpK (e0 : Nat → Int32) (M : LSt) (p : Nat) : Int32 × LSt := if ¬ M.kd = 69 then stpH p (prfF e0 M) else (0, nxF M 0)
theorem num_p {nu : Nat → Int32} {n p : Nat} (h : p < n) (hn : n ≤ 10) : numv nu n (nI p) = nu p := by
  unfold numv
  rw [if_neg (nI_pos (by omega)), if_neg (fun g => absurd ((nI_leI (by omega) (by omega)).mp g) (by omega)), nI_clamp (by omega)]
/-- one of those that go on to the next line or jump -/
theorem o_go {M M' : LSt} {X Z : RSt} {p l : Nat} {t : Int32} {e0 : Nat → Int32} (hk : ¬ M.kd = 69) (hp : prfF e0 M = (0, M')) (es : st1 X (nI (l + 1)) = (t, 0, Z)) (hd : Z.de = 0) (h : TIE M' Z) (ht : (if jmpF M'.kd M'.lf M'.sg M'.rt = 0 then numv M'.nu M'.wn (nI p) + 1 else M'.tg) = t) : OUTs (stpK e0 M p) (sR1 X (nI (l + 1))) := by
  rw [sR1_eq es, tl_0 hd]
  unfold stpK
  rw [if_pos hk, hp]
  have e : stpH p (0, M') = (6, nxF M' t) := by
    rw [← ht]
    exact if_pos rfl
  rw [e]
  exact ⟨fun _ => rfl, fun g => absurd rfl g, TIE_nx t (TIE_tl h)⟩
theorem o_re {M : LSt} {X : RSt} {p l : Nat} {t : Int32} {s : Int32 × LSt} {r : Int32 × RSt} {e0 : Nat → Int32} (hk : ¬ M.kd = 69) (hp : prfF e0 M = s) (es : st1 X (nI (l + 1)) = (t, r)) (e1 : s.1 = r.1) (h : TIE s.2 r.2) (hd : r.1 = 0 → r.2.de = 0) (hc : ¬ r.1 = -1 ∧ ¬ r.1 = 6) (ht : s.1 = 0 → (if jmpF s.2.kd s.2.lf s.2.sg s.2.rt = 0 then numv s.2.nu s.2.wn (nI p) + 1 else s.2.tg) = t) : OUTs (stpK e0 M p) (sR1 X (nI (l + 1))) := by
  obtain ⟨s1, s2⟩ := s
  obtain ⟨r1, r2⟩ := r
  have e1 : s1 = r1 := e1
  subst e1
  have h : TIE s2 r2 := h
  have hc : ¬ s1 = -1 ∧ ¬ s1 = 6 := hc
  by_cases z : s1 = 0
  · subst z
    exact o_go hk hp es (hd rfl) h (ht rfl)
  · rw [sR1_eq es]
    unfold stpK
    rw [if_pos hk, hp]
    have e : stpH p (s1, s2) = (s1, s2) := if_neg z
    rw [e]
    refine ⟨fun g => absurd g z, fun _ => ⟨?_, hc.2⟩, tl_f z hc.1 h⟩
    show s1 = (if ¬ s1 = -1 then s1 else 0)
    rw [if_pos hc.1]
theorem jm_0 {k a b c : Int32} (h1 : ¬ k = 73) (h2 : ¬ k = 71) : jmpF k a b c = 0 := by
  unfold jmpF
  rw [if_neg h1, if_pos h2]
def FK (L M : LSt) : Prop := M.kd = L.kd ∧ M.nu = L.nu ∧ M.wn = L.wn
theorem FK.tr {L M N : LSt} (h : FK L M) (g : FK M N) : FK L N := ⟨g.1.trans h.1, g.2.1.trans h.2.1, g.2.2.trans h.2.2⟩
theorem FK_bgL (L : LSt) (f : Int32) : ∀ k, FK L (bgL L f k)
  | 0 => ⟨rfl, rfl, rfl⟩
  | k + 1 => (FK_bgL L f k).tr ⟨rfl, rfl, rfl⟩
theorem FK_bg (L : LSt) (n : Int32) (cn : Nat) (f : Int32) : FK L (bgF L n cn f) := FK.tr (M := bg1 L n cn f) ⟨rfl, rfl, rfl⟩ (FK_bgL _ f _)
theorem FK_cm {e0 : Nat → Int32} {L : LSt} (h : (cmtF e0 L).1 = 0) : FK L (cmtF e0 L).2 := by
  unfold cmtF at h ⊢
  revert h
  generalize cmt L.ro L.hd e0 L.jt (L.ar, L.de, L.wr, L.g) = r
  intro h
  by_cases c : r.1 = 0
  · rw [if_pos c] at h
    exact absurd (show (7 : Int32) = 0 from h) (by decide)
  · rw [if_neg c]
    exact ⟨rfl, rfl, rfl⟩
theorem FK_pj (L : LSt) (x v : Int32) : FK L (pjF L x v) := ⟨rfl, rfl, rfl⟩
theorem FK_wA (L : LSt) (b i v : Int32) : FK L (wrA L b i v) := ⟨rfl, rfl, rfl⟩
theorem FK_rf (L : LSt) : FK L L := ⟨rfl, rfl, rfl⟩
theorem FK_mk {a : Int32} {L M : LSt} (h : FK L M) : FK L ((a, M) : Int32 × LSt).2 := h
theorem FK_wr {e0 : Nat → Int32} {L : LSt} {n i v : Int32} (h : (wrrF e0 L n i v).1 = 0) : FK L (wrrF e0 L n i v).2 := by
  unfold wrrF at h ⊢
  by_cases c1 : rflF L.g n i = 0
  · rw [if_pos c1] at h ⊢
    by_cases c2 : cellv L.g (16 + 2 * n) = 0
    · rw [if_pos c2] at h ⊢
      by_cases c3 : rmF L.g n 1 = -1
      · have nc : ¬ ¬ rmF L.g n 1 = -1 := fun g => g c3
        rw [if_neg nc]
        exact FK_mk (FK_rf L)
      · rw [if_pos c3] at h ⊢
        exact ((FK_bg L n 16 _).tr (FK_pj _ _ _)).tr (FK_cm h)
    · rw [if_neg c2] at h ⊢
      exact (FK_wA L _ i v).tr (FK_cm h)
  · rw [if_neg c1]
    exact FK_mk (FK_rf L)
theorem FK_rd {L : LSt} {n i v : Int32} : FK L (rdrF L n i v).2 := by
  unfold rdrF
  repeat' split
  all_goals exact FK_mk ⟨rfl, rfl, rfl⟩
theorem cd_mk {a : Int32} {Y : RSt} (h : ¬ a = -1 ∧ ¬ a = 6) : ¬ ((a, Y) : Int32 × RSt).1 = -1 ∧ ¬ ((a, Y) : Int32 × RSt).1 = 6 := h
theorem dn_cd (c : Int32 × RSt) : ¬ (dnR c).1 = -1 ∧ ¬ (dnR c).1 = 6 := by
  unfold dnR
  show ¬ (if c.1 = 0 then (7 : Int32) else 0) = -1 ∧ ¬ (if c.1 = 0 then (7 : Int32) else 0) = 6
  split <;> exact ⟨by decide, by decide⟩
theorem rw_cd (Y : RSt) (n : Nat) (i v : Int32) : ¬ (rwR Y n i v).1 = -1 ∧ ¬ (rwR Y n i v).1 = 6 := by
  unfold rwR
  repeat' split
  all_goals first | exact dn_cd _ | exact cd_mk ⟨by decide, by decide⟩
theorem rr_cd (Y : RSt) (n : Nat) (i : Int32) (t : Nat) : ¬ (rrR Y n i t).1 = -1 ∧ ¬ (rrR Y n i t).1 = 6 := by
  unfold rrR
  repeat' split
  all_goals exact cd_mk ⟨by decide, by decide⟩
theorem hol_j {s x y : Int32} (h : s = 60 ∨ s = 61 ∨ s = 62) : jmpF 73 x s y = 0 ↔ hol s x y = 0 := by
  unfold jmpF hol
  rw [if_pos (show (73 : Int32) = 73 from rfl)]
  rcases h with e | e | e
  · subst e
    have n1 : ¬ ¬ (60 : Int32) = 60 := fun g => g rfl
    rw [if_neg n1, if_neg n1]
  · subst e
    have n1 : ¬ ¬ (61 : Int32) = 61 := fun g => g rfl
    rw [if_pos (show ¬ (61 : Int32) = 60 by decide), if_pos (show ¬ (61 : Int32) = 62 by decide), if_pos (show ¬ (61 : Int32) = 60 by decide), if_neg n1]
  · subst e
    have n1 : ¬ ¬ (62 : Int32) = 62 := fun g => g rfl
    rw [if_pos (show ¬ (62 : Int32) = 60 by decide), if_neg n1, if_pos (show ¬ (62 : Int32) = 60 by decide), if_pos (show ¬ (62 : Int32) = 61 by decide)]
