/-! the disk: what a log does, wherever the power fails -/
def apN (g : Nat → Int32) (t : Nat → Nat) (v : Nat → Int32) : Nat → (Nat → Int32)
  | 0 => g
  | k + 1 => fl (16 * t k) 0 16 (fun i => v (16 * k + i)) (apN g t v k)
theorem fl_in {b : Nat} {v f : Nat → Int32} {i : Nat} (h : b ≤ i ∧ i < b + 16) : fl b 0 16 v f i = v (i - b) := by
  unfold fl
  rw [if_pos (by omega)]
theorem fl_out {b : Nat} {v f : Nat → Int32} {i : Nat} (h : i < b ∨ b + 16 ≤ i) : fl b 0 16 v f i = f i := by
  unfold fl
  rw [if_neg (by omega)]
theorem apN_cg {X Y : Nat → Int32} {t : Nat → Nat} {v : Nat → Int32} : ∀ (m i : Nat), (X i = Y i ∨ ∃ j, j < m ∧ 16 * t j ≤ i ∧ i < 16 * t j + 16) → apN X t v m i = apN Y t v m i
  | 0, i, h => by
    rcases h with h | ⟨j, hj, _⟩
    · exact h
    · exact absurd hj (by omega)
  | m + 1, i, h => by
    show fl (16 * t m) 0 16 _ (apN X t v m) i = fl (16 * t m) 0 16 _ (apN Y t v m) i
    by_cases g : 16 * t m ≤ i ∧ i < 16 * t m + 16
    · rw [fl_in g, fl_in g]
    · rw [fl_out (by omega), fl_out (by omega)]
      refine apN_cg m i ?_
      rcases h with h | ⟨j, hj, a, b⟩
      · exact Or.inl h
      · by_cases e : j = m
        · subst e; exact absurd ⟨a, b⟩ g
        · exact Or.inr ⟨j, by omega, a, b⟩
theorem apN_or (X : Nat → Int32) (t : Nat → Nat) (v : Nat → Int32) : ∀ (k i : Nat), apN X t v k i = X i ∨ ∃ j, j < k ∧ 16 * t j ≤ i ∧ i < 16 * t j + 16
  | 0, _ => Or.inl rfl
  | k + 1, i => by
    by_cases g : 16 * t k ≤ i ∧ i < 16 * t k + 16
    · exact Or.inr ⟨k, by omega, g⟩
    · rcases apN_or X t v k i with h | ⟨j, hj, h⟩
      · exact Or.inl (by show fl (16 * t k) 0 16 _ (apN X t v k) i = X i; rw [fl_out (by omega)]; exact h)
      · exact Or.inr ⟨j, by omega, h⟩
theorem apN_id {X : Nat → Int32} {t : Nat → Nat} {v : Nat → Int32} {k m : Nat} (h : k ≤ m) (i : Nat) : apN (apN X t v k) t v m i = apN X t v m i := by
  refine apN_cg m i ?_
  rcases apN_or X t v k i with e | ⟨j, hj, e⟩
  · exact Or.inl e
  · exact Or.inr ⟨j, by omega, e⟩
theorem apN_tv {X : Nat → Int32} {t t' : Nat → Nat} {v v' : Nat → Int32} : ∀ (m : Nat), (∀ j, j < m → t j = t' j) → (∀ i, i < 16 * m → v i = v' i) → apN X t v m = apN X t' v' m
  | 0, _, _ => rfl
  | m + 1, h1, h2 => by
    show fl (16 * t m) 0 16 _ (apN X t v m) = fl (16 * t' m) 0 16 _ (apN X t' v' m)
    rw [apN_tv m (fun j hj => h1 j (by omega)) (fun i hi => h2 i (by omega)), h1 m (by omega)]
    exact fl_cg (fun i hi => h2 _ (by omega))
def REL (i : Nat) : Prop := (16 ≤ i ∧ i < 32) ∨ (144 ≤ i ∧ i < 512)
def tgt (t : Nat) : Prop := t = 1 ∨ (9 ≤ t ∧ t < 32)
def LG (g : Nat → Int32) (n : Nat) : Prop := n ≤ 6 ∧ g 32 = nI n ∧ ∀ k, k < n → ∃ t, g (33 + k) = nI t ∧ tgt t
def DV (g h : Nat → Int32) : Prop := ∃ n, LG g n ∧ ∀ i, REL i → apN g (fun k => (g (33 + k)).toNatClampNeg) (fun i => g (48 + i)) n i = h i
theorem DV_0 {g h : Nat → Int32} (h0 : g 32 = 0) (h1 : ∀ i, REL i → g i = h i) : DV g h := ⟨0, ⟨by decide, h0, fun k hk => absurd hk (by omega)⟩, h1⟩
theorem wt_cases (Y : RSt) (n : Nat) (v : Nat → Int32) : (¬ Y.de = 0 ∧ wtF Y n v = Y) ∨ (Y.de = 0 ∧ wtF Y n v = dsF Y) ∨ (Y.de = 0 ∧ wtF Y n v = dkF (wt1 Y) (fl (16 * n) 0 16 v Y.dk)) := by
  unfold wtF
  by_cases h : Y.de = 0
  · rw [if_pos h]
    by_cases h2 : Y.ar = 0
    · rw [if_neg (fun g => g h2)]; exact Or.inr (Or.inl ⟨h, rfl⟩)
    · rw [if_pos h2]; exact Or.inr (Or.inr ⟨h, rfl⟩)
  · rw [if_neg h]; exact Or.inl ⟨h, rfl⟩
theorem dk_W (Y : RSt) (f : Nat → Int32) : (dkF Y f).dk = f := rfl
theorem ds_de (Y : RSt) : ¬ (dsF Y).de = 0 := by
  show ¬ (1 : Int32) = 0
  decide
def Dd (g0 h1 h : Nat → Int32) (Z : RSt) : Prop := ¬ Z.de = 0 ∧ Z.dk 0 = g0 0 ∧ (DV Z.dk h1 ∨ DV Z.dk h)
theorem Dd.wt {g0 h1 h : Nat → Int32} {Z : RSt} (d : Dd g0 h1 h Z) (n : Nat) (v : Nat → Int32) : Dd g0 h1 h (wtF Z n v) := by
  rcases wt_cases Z n v with ⟨_, e⟩ | ⟨a, _⟩ | ⟨a, _⟩
  · rw [e]; exact d
  · exact absurd a d.1
  · exact absurd a d.1
def PA (g0 v : Nat → Int32) (k : Nat) (Z : RSt) : Prop := Z.de = 0 ∧ Z.dk 0 = g0 0 ∧ Z.dk 32 = 0 ∧ (∀ i, REL i → Z.dk i = g0 i) ∧ ∀ i, i < 16 * k → Z.dk (48 + i) = v i
def PB (g0 : Nat → Int32) (w v : Nat → Int32) (m k : Nat) (Z : RSt) : Prop := Z.de = 0 ∧ Z.dk 0 = g0 0 ∧ Z.dk 32 = nI m ∧ (∀ j, j < m → Z.dk (33 + j) = w j) ∧ (∀ i, i < 16 * m → Z.dk (48 + i) = v i) ∧ ∀ i, REL i → Z.dk i = apN g0 (fun k => (w k).toNatClampNeg) v k i
def PC (g0 h : Nat → Int32) (Z : RSt) : Prop := Z.de = 0 ∧ Z.dk 0 = g0 0 ∧ Z.dk 32 = 0 ∧ ∀ i, REL i → Z.dk i = h i
def hN (g0 w v : Nat → Int32) (m : Nat) : Nat → Int32 := apN g0 (fun k => (w k).toNatClampNeg) v m
theorem PA_wt {g0 v h : Nat → Int32} {k : Nat} {Z : RSt} (hk : k < 6) (p : PA g0 v k Z) : Dd g0 g0 h (wtF Z (3 + k) (fun i => v (16 * k + i))) ∨ PA g0 v (k + 1) (wtF Z (3 + k) (fun i => v (16 * k + i))) := by
  obtain ⟨p1, p2, p3, p4, p5⟩ := p
  rcases wt_cases Z (3 + k) (fun i => v (16 * k + i)) with ⟨a, _⟩ | ⟨_, e⟩ | ⟨_, e⟩
  · exact absurd p1 a
  · rw [e]
    exact Or.inl ⟨ds_de Z, p2, Or.inl (DV_0 p3 p4)⟩
  · rw [e]
    refine Or.inr ⟨p1, ?_, ?_, fun i hi => ?_, fun i hi => ?_⟩
    · rw [dk_W, fl_out (by omega)]; exact p2
    · rw [dk_W, fl_out (by omega)]; exact p3
    · have hi : (16 ≤ i ∧ i < 32) ∨ (144 ≤ i ∧ i < 512) := hi
      rw [dk_W, fl_out (by omega)]; exact p4 i hi
    · show fl (16 * (3 + k)) 0 16 (fun i => v (16 * k + i)) Z.dk (48 + i) = v i
      by_cases c : 16 * k ≤ i
      · rw [fl_in (by omega)]
        show v (16 * k + (48 + i - 16 * (3 + k))) = v i
        rw [show 16 * k + (48 + i - 16 * (3 + k)) = i by omega]
      · rw [fl_out (by omega)]; exact p5 i (by omega)
theorem PB_DV {g0 w v : Nat → Int32} {m k : Nat} {Z : RSt} (hm : m ≤ 6) (ht : ∀ k, k < m → ∃ t, w k = nI t ∧ tgt t) (hk : k ≤ m) (p : PB g0 w v m k Z) : DV Z.dk (hN g0 w v m) := by
  obtain ⟨p1, p2, p3, p4, p5, p6⟩ := p
  refine ⟨m, ⟨hm, p3, fun k hk => ?_⟩, fun i hi => ?_⟩
  · rw [p4 k hk]; exact ht k hk
  · rw [apN_tv (t' := fun k => (w k).toNatClampNeg) (v' := v) m (fun j hj => by rw [p4 j hj]) p5]
    rw [apN_cg (Y := apN g0 (fun k => (w k).toNatClampNeg) v k) m i (Or.inl (p6 i hi))]
    exact apN_id hk i
theorem PB_wt {g0 h1 w v : Nat → Int32} {m k : Nat} {Z : RSt} (hm : m ≤ 6) (ht : ∀ k, k < m → ∃ t, w k = nI t ∧ tgt t) (hk : k < m) (p : PB g0 w v m k Z) : Dd g0 h1 (hN g0 w v m) (wtF Z (w k).toNatClampNeg (fun i => v (16 * k + i))) ∨ PB g0 w v m (k + 1) (wtF Z (w k).toNatClampNeg (fun i => v (16 * k + i))) := by
  have dv := PB_DV hm ht (by omega) p
  obtain ⟨p1, p2, p3, p4, p5, p6⟩ := p
  obtain ⟨t, et, tt⟩ := ht k hk
  have htt : t = 1 ∨ (9 ≤ t ∧ t < 32) := tt
  have ec : (w k).toNatClampNeg = t := by rw [et]; exact nI_clamp (by omega)
  rcases wt_cases Z (w k).toNatClampNeg (fun i => v (16 * k + i)) with ⟨a, _⟩ | ⟨_, e⟩ | ⟨_, e⟩
  · exact absurd p1 a
  · rw [e]
    exact Or.inl ⟨ds_de Z, p2, Or.inr dv⟩
  · rw [e, ec]
    refine Or.inr ⟨p1, ?_, ?_, fun j hj => ?_, fun i hi => ?_, fun i hi => ?_⟩
    · rw [dk_W, fl_out (by omega)]; exact p2
    · rw [dk_W, fl_out (by omega)]; exact p3
    · rw [dk_W, fl_out (by omega)]; exact p4 j hj
    · rw [dk_W, fl_out (by omega)]; exact p5 i hi
    · show fl (16 * t) 0 16 (fun i => v (16 * k + i)) Z.dk i = fl (16 * (w k).toNatClampNeg) 0 16 (fun i => v (16 * k + i)) (apN g0 (fun k => (w k).toNatClampNeg) v k) i
      rw [ec]
      by_cases c : 16 * t ≤ i ∧ i < 16 * t + 16
      · rw [fl_in c, fl_in c]
      · rw [fl_out (by omega), fl_out (by omega)]; exact p6 i hi
theorem PB_end {g0 h1 w v : Nat → Int32} {m : Nat} {Z : RSt} (hm : m ≤ 6) (ht : ∀ k, k < m → ∃ t, w k = nI t ∧ tgt t) (p : PB g0 w v m m Z) : Dd g0 h1 (hN g0 w v m) (wtF Z 2 (fun _ => 0)) ∨ PC g0 (hN g0 w v m) (wtF Z 2 (fun _ => 0)) := by
  have dv := PB_DV hm ht (Nat.le_refl _) p
  obtain ⟨p1, p2, p3, p4, p5, p6⟩ := p
  rcases wt_cases Z 2 (fun _ => 0) with ⟨a, _⟩ | ⟨_, e⟩ | ⟨_, e⟩
  · exact absurd p1 a
  · rw [e]
    exact Or.inl ⟨ds_de Z, p2, Or.inr dv⟩
  · rw [e]
    refine Or.inr ⟨p1, ?_, ?_, fun i hi => ?_⟩
    · rw [dk_W, fl_out (by omega)]; exact p2
    · rw [dk_W, fl_in (by omega)]
    · have hi' : (16 ≤ i ∧ i < 32) ∨ (144 ≤ i ∧ i < 512) := hi
      rw [dk_W, fl_out (by omega)]; exact p6 i hi
theorem cm_res {Y : RSt} (hd : Y.de = 0) (h0 : Y.dk 32 = 0) (hm : Y.my ≤ 6) (ht : ∀ k, k < Y.my → ∃ t, Y.wh k = nI t ∧ tgt t) : Dd Y.dk Y.dk (hN Y.dk Y.wh Y.ce Y.my) (cm2 Y) ∨ PC Y.dk (hN Y.dk Y.wh Y.ce Y.my) (cm2 Y) := by
  have hA : ∀ k, k ≤ Y.my → Dd Y.dk Y.dk (hN Y.dk Y.wh Y.ce Y.my) (wA Y k) ∨ PA Y.dk Y.ce k (wA Y k) := by
    intro k
    induction k with
    | zero => exact fun _ => Or.inr ⟨hd, rfl, h0, fun i _ => rfl, fun i hi => absurd hi (by omega)⟩
    | succ k ih =>
      intro hk
      rcases ih (by omega) with d | p
      · exact Or.inl (d.wt _ _)
      · exact PA_wt (by omega) p
  have hH : Dd Y.dk Y.dk (hN Y.dk Y.wh Y.ce Y.my) (cm1 Y) ∨ PB Y.dk Y.wh Y.ce Y.my 0 (cm1 Y) := by
    rcases hA Y.my (Nat.le_refl _) with d | p
    · exact Or.inl (d.wt _ _)
    · obtain ⟨p1, p2, p3, p4, p5⟩ := p
      have sm := wA_my Y Y.my
      show Dd _ _ _ (wtF (wA Y Y.my) 2 (hdS (wA Y Y.my))) ∨ PB _ _ _ _ 0 (wtF (wA Y Y.my) 2 (hdS (wA Y Y.my)))
      rcases wt_cases (wA Y Y.my) 2 (hdS (wA Y Y.my)) with ⟨a, _⟩ | ⟨_, e⟩ | ⟨_, e⟩
      · exact absurd p1 a
      · rw [e]
        exact Or.inl ⟨ds_de _, p2, Or.inl (DV_0 p3 p4)⟩
      · rw [e]
        refine Or.inr ⟨p1, ?_, ?_, fun j hj => ?_, fun i hi => ?_, fun i hi => ?_⟩
        · rw [dk_W, fl_out (by omega)]; exact p2
        · show fl (16 * 2) 0 16 (hdS (wA Y Y.my)) (wA Y Y.my).dk 32 = nI Y.my
          rw [fl_in (by omega)]
          show hdS (wA Y Y.my) 0 = nI Y.my
          unfold hdS
          rw [if_pos rfl, sm.1]
        · show fl (16 * 2) 0 16 (hdS (wA Y Y.my)) (wA Y Y.my).dk (33 + j) = Y.wh j
          rw [fl_in (by omega), show 33 + j - 16 * 2 = j + 1 by omega]
          unfold hdS
          rw [if_neg (by omega), if_neg (by rw [sm.1]; omega), sm.2.1]
          rfl
        · rw [dk_W, fl_out (by omega)]; exact p5 i hi
        · have hi' : (16 ≤ i ∧ i < 32) ∨ (144 ≤ i ∧ i < 512) := hi
          rw [dk_W, fl_out (by omega)]; exact p4 i hi
  have s1 := cm1_my Y
  have hB : ∀ k, k ≤ Y.my → Dd Y.dk Y.dk (hN Y.dk Y.wh Y.ce Y.my) (wB (cm1 Y) k) ∨ PB Y.dk Y.wh Y.ce Y.my k (wB (cm1 Y) k) := by
    intro k
    induction k with
    | zero => exact fun _ => hH
    | succ k ih =>
      intro hk
      rcases ih (by omega) with d | p
      · exact Or.inl (d.wt _ _)
      · show Dd _ _ _ (wtF (wB (cm1 Y) k) ((cm1 Y).wh k).toNatClampNeg (fun i => (cm1 Y).ce (16 * k + i))) ∨ PB _ _ _ _ (k + 1) (wtF (wB (cm1 Y) k) ((cm1 Y).wh k).toNatClampNeg (fun i => (cm1 Y).ce (16 * k + i)))
        rw [s1.2.1, s1.2.2]
        exact PB_wt hm ht (by omega) p
  show Dd _ _ _ (wtF (wB (cm1 Y) (cm1 Y).my) 2 (fun _ => 0)) ∨ PC _ _ (wtF (wB (cm1 Y) (cm1 Y).my) 2 (fun _ => 0))
  rw [s1.1]
  rcases hB Y.my (Nat.le_refl _) with d | p
  · exact Or.inl (d.wt _ _)
  · exact PB_end hm ht p
theorem Dd_ce {g0 h1 h : Nat → Int32} {Z : RSt} (f : Nat → Int32) (d : Dd g0 h1 h Z) : Dd g0 h1 h (ceF Z f) := d
theorem PB_ce {g0 w v : Nat → Int32} {m k : Nat} {Z : RSt} (f : Nat → Int32) (p : PB g0 w v m k Z) : PB g0 w v m k (ceF Z f) := p
theorem rp_res {Y : RSt} {n : Nat} (hd : Y.de = 0) (lg : LG Y.dk n) : Dd Y.dk (hN Y.dk (fun k => Y.dk (33 + k)) (fun i => Y.dk (48 + i)) n) (hN Y.dk (fun k => Y.dk (33 + k)) (fun i => Y.dk (48 + i)) n) (wtF (rpR Y n) 2 (fun _ => 0)) ∨ PC Y.dk (hN Y.dk (fun k => Y.dk (33 + k)) (fun i => Y.dk (48 + i)) n) (wtF (rpR Y n) 2 (fun _ => 0)) := by
  obtain ⟨hn, h32, ht⟩ := lg
  have hB : ∀ k, k ≤ n → Dd Y.dk (hN Y.dk (fun k => Y.dk (33 + k)) (fun i => Y.dk (48 + i)) n) (hN Y.dk (fun k => Y.dk (33 + k)) (fun i => Y.dk (48 + i)) n) (rpR Y k) ∨ PB Y.dk (fun k => Y.dk (33 + k)) (fun i => Y.dk (48 + i)) n k (rpR Y k) := by
    intro k
    induction k with
    | zero => exact fun _ => Or.inr ⟨hd, rfl, h32, fun j _ => rfl, fun i _ => rfl, fun i _ => rfl⟩
    | succ k ih =>
      intro hk
      have ev : (fun i => Y.dk (48 + 16 * k + i)) = (fun i => Y.dk (48 + (16 * k + i))) := by funext i; rw [Nat.add_assoc]
      show Dd _ _ _ (wtF (ceF (rpR Y k) _) (Y.dk (33 + k)).toNatClampNeg (fun i => Y.dk (48 + 16 * k + i))) ∨ PB _ _ _ _ (k + 1) (wtF (ceF (rpR Y k) _) (Y.dk (33 + k)).toNatClampNeg (fun i => Y.dk (48 + 16 * k + i)))
      rw [ev]
      rcases ih (by omega) with d | p
      · exact Or.inl ((Dd_ce _ d).wt _ _)
      · exact PB_wt (w := fun k => Y.dk (33 + k)) (v := fun i => Y.dk (48 + i)) hn ht (by omega) (PB_ce _ p)
  rcases hB n (Nat.le_refl _) with d | p
  · exact Or.inl (d.wt _ _)
  · exact PB_end hn ht p
/-! the disk: files -/
def bl (c : Nat) : Nat := (1 + 4 * c + 15) / 16
def FP (h : Nat → Int32) (n f c : Nat) : Prop := h (16 + 2 * n) = nI (1 + 4 * c) ∧ h (17 + 2 * n) = nI f ∧ 1 ≤ c ∧ c ≤ 10 ∧ 9 ≤ f ∧ f + bl c ≤ 32 ∧ h (16 * f) = nI c ∧ ∀ k, k < c → ∃ l d, 1 ≤ l ∧ l < 100 ∧ d ≤ 12 ∧ h (16 * f + 1 + 4 * k) = nI (16 * l + d) ∧ GL (chV h (16 * f + 1 + 4 * k)) d
def FR (h : Nat → Int32) (n f : Nat) : Prop := h (16 + 2 * n) = 16 ∧ h (17 + 2 * n) = nI f ∧ 9 ≤ f ∧ f < 32
def OC (h : Nat → Int32) (n b : Nat) : Prop := ∃ f, h (17 + 2 * n) = nI f ∧ f < 32 ∧ ((h (16 + 2 * n) = 16 ∧ b = f) ∨ ∃ c, 1 ≤ c ∧ c ≤ 10 ∧ h (16 + 2 * n) = nI (1 + 4 * c) ∧ f ≤ b ∧ b < f + bl c)
def FOK (h : Nat → Int32) : Prop := (∀ n, n < 8 → (h (16 + 2 * n) = 0 ∧ h (17 + 2 * n) = 0) ∨ (∃ f, FR h n f) ∨ ∃ f c, FP h n f c) ∧ ∀ n n' b, n < 8 → n' < 8 → n ≠ n' → OC h n b → OC h n' b → False
theorem chV_cg {h h' : Nat → Int32} {a i : Nat} (e : ∀ j, a ≤ j → j < a + 4 → h j = h' j) (hi : i < 12) : chV h a i = chV h' a i := by
  unfold chV
  rw [e (a + 1 + i / 4) (by omega) (by omega)]
theorem FP_cg {h h' : Nat → Int32} {n f c : Nat} (e1 : h (16 + 2 * n) = h' (16 + 2 * n)) (e2 : h (17 + 2 * n) = h' (17 + 2 * n)) (e : ∀ i, 16 * f ≤ i → i < 16 * (f + bl c) → h i = h' i) (p : FP h n f c) : FP h' n f c := by
  obtain ⟨p1, p2, p3, p4, p5, p6, p7, p8⟩ := p
  have hb : 1 + 4 * c ≤ 16 * bl c := by unfold bl; omega
  refine ⟨by rw [← e1]; exact p1, by rw [← e2]; exact p2, p3, p4, p5, p6, by rw [← e _ (Nat.le_refl _) (by omega)]; exact p7, fun k hk => ?_⟩
  obtain ⟨l, d, q1, q2, q3, q4, q5⟩ := p8 k hk
  refine ⟨l, d, q1, q2, q3, by rw [← e _ (by omega) (by omega)]; exact q4, ?_⟩
  exact GL_cg (by omega) (fun i hi => chV_cg (fun j a b => e j (by omega) (by omega)) (by omega)) q5
theorem OC_cg {h h' : Nat → Int32} {n b : Nat} (e1 : h (16 + 2 * n) = h' (16 + 2 * n)) (e2 : h (17 + 2 * n) = h' (17 + 2 * n)) (p : OC h n b) : OC h' n b := by
  unfold OC at p ⊢
  rw [← e1, ← e2]
  exact p
theorem FP_OC {h : Nat → Int32} {n f c b : Nat} (p : FP h n f c) (h1 : f ≤ b) (h2 : b < f + bl c) : OC h n b := by
  have h3 : 1 ≤ bl c := by unfold bl; omega
  exact ⟨f, p.2.1, by have := p.2.2.2.2.2.1; omega, Or.inr ⟨c, p.2.2.1, p.2.2.2.1, p.1, h1, h2⟩⟩
theorem FOK_new {h h' : Nat → Int32} {n q m : Nat} (hn : n < 8) (ok : FOK h) (hd : ∀ n', n' < 8 → n' ≠ n → h (16 + 2 * n') = h' (16 + 2 * n') ∧ h (17 + 2 * n') = h' (17 + 2 * n')) (hb : ∀ i, 144 ≤ i → i < 512 → (i < 16 * q ∨ 16 * (q + m) ≤ i) → h i = h' i) (hu : ∀ n', n' < 8 → n' ≠ n → ∀ k, k < m → ¬ OC h n' (q + k)) (hN : (h' (16 + 2 * n) = 0 ∧ h' (17 + 2 * n) = 0) ∨ (∃ f, FR h' n f) ∨ ∃ f c, FP h' n f c) (hO : ∀ b, OC h' n b → q ≤ b ∧ b < q + m) : FOK h' := by
  refine ⟨fun n' hn' => ?_, fun n1 n2 b h1 h2 hne o1 o2 => ?_⟩
  · by_cases e : n' = n
    · subst e; exact hN
    · obtain ⟨d1, d2⟩ := hd n' hn' e
      rcases ok.1 n' hn' with a | ⟨f, a⟩ | ⟨f, c, a⟩
      · exact Or.inl ⟨by rw [← d1]; exact a.1, by rw [← d2]; exact a.2⟩
      · exact Or.inr (Or.inl ⟨f, by rw [← d1]; exact a.1, by rw [← d2]; exact a.2.1, a.2.2⟩)
      · refine Or.inr (Or.inr ⟨f, c, FP_cg d1 d2 (fun i a1 a2 => hb i ?_ ?_ ?_) a⟩)
        · have := a.2.2.2.2.1; omega
        · have := a.2.2.2.2.2.1; omega
        · have p5 := a.2.2.2.2.1
          rcases Nat.lt_or_ge i (16 * q) with g | g
          · exact Or.inl g
          · rcases Nat.lt_or_ge i (16 * (q + m)) with g2 | g2
            · exfalso
              refine hu n' hn' e (i / 16 - q) (by omega) ?_
              refine FP_OC a ?_ ?_ <;> omega
            · exact Or.inr g2
  · by_cases e1 : n1 = n
    · subst e1
      have e2 : n2 ≠ n1 := fun g => hne g.symm
      obtain ⟨d1, d2⟩ := hd n2 h2 e2
      obtain ⟨r1, r2⟩ := hO b o1
      exact hu n2 h2 e2 (b - q) (by omega) (by rw [show q + (b - q) = b by omega]; exact OC_cg d1.symm d2.symm o2)
    · obtain ⟨d1, d2⟩ := hd n1 h1 e1
      have o1' := OC_cg d1.symm d2.symm o1
      by_cases e2 : n2 = n
      · subst e2
        obtain ⟨r1, r2⟩ := hO b o2
        exact hu n1 h1 e1 (b - q) (by omega) (by rw [show q + (b - q) = b by omega]; exact o1')
      · obtain ⟨d3, d4⟩ := hd n2 h2 e2
        exact ok.2 n1 n2 b h1 h2 hne o1' (OC_cg d3.symm d4.symm o2)
theorem FOK_cg {h h' : Nat → Int32} (e : ∀ i, REL i → h i = h' i) (ok : FOK h) : FOK h' := by
  have ed : ∀ n, n < 8 → h (16 + 2 * n) = h' (16 + 2 * n) ∧ h (17 + 2 * n) = h' (17 + 2 * n) := fun n hn => ⟨e _ (Or.inl (by omega)), e _ (Or.inl (by omega))⟩
  refine ⟨fun n hn => ?_, fun n1 n2 b h1 h2 hne o1 o2 => ok.2 n1 n2 b h1 h2 hne (OC_cg (ed n1 h1).1.symm (ed n1 h1).2.symm o1) (OC_cg (ed n2 h2).1.symm (ed n2 h2).2.symm o2)⟩
  obtain ⟨d1, d2⟩ := ed n hn
  rcases ok.1 n hn with a | ⟨f, a⟩ | ⟨f, c, a⟩
  · exact Or.inl ⟨by rw [← d1]; exact a.1, by rw [← d2]; exact a.2⟩
  · exact Or.inr (Or.inl ⟨f, by rw [← d1]; exact a.1, by rw [← d2]; exact a.2.1, a.2.2⟩)
  · refine Or.inr (Or.inr ⟨f, c, FP_cg d1 d2 (fun i a1 a2 => e i (Or.inr ?_)) a⟩)
    have := a.2.2.2.2.1
    have := a.2.2.2.2.2.1
    omega
theorem FOK_0 {h : Nat → Int32} (e : ∀ i, 16 ≤ i → i < 32 → h i = 0) : FOK h := by
  refine ⟨fun n hn => Or.inl ⟨e _ (by omega) (by omega), e _ (by omega) (by omega)⟩, fun n n' b hn _ _ o _ => ?_⟩
  obtain ⟨f, _, _, ⟨a, _⟩ | ⟨c, c1, c2, a, _⟩⟩ := o
  · rw [e _ (by omega) (by omega)] at a
    exact absurd a (by decide)
  · rw [e _ (by omega) (by omega)] at a
    exact absurd ((nI_eq (a := 0) (by decide) (by omega)).mp a) (by omega)
/-! what the search of room says -/
theorem usN_0 {g : Nat → Int32} {x y : Int32} : ∀ k, usN g x y k = 0 → ∀ j, j < k → usT g x y j = 0
  | 0, _, j, h => absurd h (by omega)
  | k + 1, e, j, h => by
    have e : (if ¬ usN g x y k = 0 then 1 else usT g x y k) = 0 := e
    by_cases a : usN g x y k = 0
    · rw [if_neg (fun q => q a)] at e
      by_cases b : j = k
      · rw [b]; exact e
      · exact usN_0 k a j (by omega)
    · rw [if_pos a] at e
      exact absurd e (by decide)
theorem us_free {g : Nat → Int32} {n b : Nat} (hn : n < 8) (hb : b < 64) (h : usN g (nI b) (nI n) 8 = 0) : ∀ n', n' < 8 → n' ≠ n → ¬ OC g n' b := by
  intro n' hn' hne o
  have t := usN_0 8 h n' hn'
  unfold usT at t
  rw [if_neg (fun e => hne ((nI_eq (by omega) (by omega)).mp e))] at t
  obtain ⟨f, ef, hf, o⟩ := o
  rw [ef] at t
  have key : ∀ s : Nat, (g (16 + 2 * n') + 15) / 16 = nI s → s ≤ 10 → f ≤ b → b < f + s → False := by
    intro s es hs h1 h2
    rw [es, nI_add, if_neg (nI_nlt h1 (by omega)), if_neg (fun e => absurd ((nI_leI (by omega) (by omega)).mp e) (by omega))] at t
    exact absurd t (by decide)
  rcases o with ⟨a, e⟩ | ⟨c, c1, c2, a, h1, h2⟩
  · exact key 1 (by rw [a]; decide) (by decide) (by omega) (by omega)
  · exact key (bl c) (by rw [a]; exact blR (by omega)) (by unfold bl; omega) h1 h2
theorem fr_all {g : Nat → Int32} {q : Nat} {y : Int32} : ∀ m, ¬ frN g q y m = 0 → ∀ k, k < m → usN g (nI (q + k)) y 8 = 0
  | 0, _, k, h => absurd h (by omega)
  | m + 1, e, k, h => by
    have e : ¬ (if frN g q y m = 0 then 0 else if ¬ usN g (nI (q + m)) y 8 = 0 then 0 else 1) = (0 : Int32) := e
    by_cases a : frN g q y m = 0
    · rw [if_pos a] at e; exact absurd rfl e
    · rw [if_neg a] at e
      by_cases c : usN g (nI (q + m)) y 8 = 0
      · by_cases b : k = m
        · rw [b]; exact c
        · exact fr_all m a k (by omega)
      · rw [if_pos c] at e; exact absurd rfl e
theorem rm_free (g : Nat → Int32) (m9 : Nat) (y : Int32) : ∀ f q, rmR g m9 y f q = -1 ∨ ∃ b, q ≤ b ∧ b < q + f ∧ rmR g m9 y f q = nI b ∧ ∀ k, k < m9 → usN g (nI (b + k)) y 8 = 0
  | 0, _ => Or.inl rfl
  | f + 1, q => by
    by_cases h : frN g q y m9 = 0
    · rw [show rmR g m9 y (f + 1) q = rmR g m9 y f (q + 1) from if_pos h]
      rcases rm_free g m9 y f (q + 1) with e | ⟨b, a, c, e, r⟩
      · exact Or.inl e
      · exact Or.inr ⟨b, by omega, by omega, e, r⟩
    · rw [show rmR g m9 y (f + 1) q = nI q from if_neg h]
      exact Or.inr ⟨q, Nat.le_refl _, by omega, rfl, fr_all m9 h⟩
/-! the disk: what is saved -/
theorem chX {g : Nat → Int32} {a i X : Nat} (hX : X < 2 ^ 31) (e : g (a + 1 + i / 4) = nI X) : (i % 4 = 0 → chV g a i = nI (X / 16777216 % 256)) ∧ (i % 4 = 1 → chV g a i = nI (X / 65536 % 256)) ∧ (i % 4 = 2 → chV g a i = nI (X / 256 % 256)) ∧ (i % 4 = 3 → chV g a i = nI (X % 256)) := by
  have hd : ∀ k, X / k < 2 ^ 32 := fun k => Nat.lt_of_le_of_lt (Nat.div_le_self X k) (by omega)
  refine ⟨fun h => ?_, fun h => ?_, fun h => ?_, fun h => ?_⟩
  · unfold chV
    rw [e, h, pk_shrN hX _ 24 (by decide), pk_andN (hd _) 8 (by decide)]
  · unfold chV
    rw [e, h, pk_shrN hX _ 16 (by decide), pk_andN (hd _) 8 (by decide)]
  · unfold chV
    rw [e, h, pk_shrN hX _ 8 (by decide), pk_andN (hd _) 8 (by decide)]
  · unfold chV
    rw [e, h, pk_shrN hX _ 0 (by decide), pk_andN (hd _) 8 (by decide)]
    rw [Nat.pow_zero, Nat.div_one]
def aL (Y : RSt) (l i : Nat) : Int32 := if Y.ln l ≤ nI i then 0 else Y.ch (12 * l + i)
def pkA (Y : RSt) (l j : Nat) : Int32 := (((0 * 256 + aL Y l (4 * j)) * 256 + aL Y l (4 * j + 1)) * 256 + aL Y l (4 * j + 2)) * 256 + aL Y l (4 * j + 3)
theorem svK_s (Y : RSt) (l c : Nat) (e : Nat → Int32) (k : Nat) : svK Y l c e (k + 1) = upd (svK Y l c e k) (c + 1 + k / 4) (svK Y l c e k (c + 1 + k / 4) * 256 + aL Y l k) := rfl
theorem svK_o {Y : RSt} {l c : Nat} {e : Nat → Int32} {i : Nat} : ∀ k, (∀ j, j < k → i ≠ c + 1 + j / 4) → svK Y l c e k i = e i
  | 0, _ => rfl
  | k + 1, h => by
    rw [svK_s, pk_un (h k (by omega))]
    exact svK_o k (fun j hj => h j (by omega))
theorem svK_pk {Y : RSt} {l c : Nat} {e : Nat → Int32} {j : Nat} (hj : j < 3) (e0 : e (c + 1 + j) = 0) : svK Y l c e 12 (c + 1 + j) = pkA Y l j := by
  have lo : svK Y l c e (4 * j) (c + 1 + j) = 0 := by rw [svK_o (4 * j) (fun k hk => by omega)]; exact e0
  have s1 : svK Y l c e (4 * j + 1) (c + 1 + j) = 0 * 256 + aL Y l (4 * j) := by
    rw [svK_s, show c + 1 + 4 * j / 4 = c + 1 + j by omega, pk_us, lo]
  have s2 : svK Y l c e (4 * j + 1 + 1) (c + 1 + j) = (0 * 256 + aL Y l (4 * j)) * 256 + aL Y l (4 * j + 1) := by
    rw [svK_s, show c + 1 + (4 * j + 1) / 4 = c + 1 + j by omega, pk_us, s1]
  have s3 : svK Y l c e (4 * j + 2 + 1) (c + 1 + j) = ((0 * 256 + aL Y l (4 * j)) * 256 + aL Y l (4 * j + 1)) * 256 + aL Y l (4 * j + 2) := by
    rw [svK_s, show c + 1 + (4 * j + 2) / 4 = c + 1 + j by omega, pk_us, s2]
  have s4 : svK Y l c e (4 * j + 3 + 1) (c + 1 + j) = pkA Y l j := by
    rw [svK_s, show c + 1 + (4 * j + 3) / 4 = c + 1 + j by omega, pk_us, s3]
    rfl
  have hi : ∀ k, svK Y l c e (4 * j + 4 + k) (c + 1 + j) = pkA Y l j := by
    intro k
    induction k with
    | zero => exact s4
    | succ k ih =>
      show svK Y l c e (4 * j + 4 + k + 1) (c + 1 + j) = _
      rw [svK_s, pk_un (by omega)]
      exact ih
  have h := hi (8 - 4 * j)
  rw [show 4 * j + 4 + (8 - 4 * j) = 12 by omega] at h
  exact h
theorem cnL_ex (f : Nat → Int32) : ∀ k t, t < cnL f k → ∃ l, 1 ≤ l ∧ l ≤ k ∧ ¬ f l = -1 ∧ cnL f (l - 1) = t
  | 0, t, h => absurd h (Nat.not_lt_zero _)
  | k + 1, t, h => by
    have h : t < cnL f k + (if f (k + 1) = -1 then 0 else 1) := h
    by_cases g : t < cnL f k
    · obtain ⟨l, a, b, c, d⟩ := cnL_ex f k t g
      exact ⟨l, a, by omega, c, d⟩
    · by_cases e : f (k + 1) = -1
      · rw [if_pos e] at h; exact absurd h g
      · rw [if_neg e] at h
        exact ⟨k + 1, by omega, Nat.le_refl _, e, by show cnL f k = t; omega⟩
theorem svN_sp (Y : RSt) (e : Nat → Int32) (h0 : ∀ i, 17 ≤ i → i < 96 → e i = 0) (hc : cnL Y.ln 99 ≤ 10) : ∀ k, k ≤ 99 → (∀ i, (i < 17 ∨ 17 + 4 * cnL Y.ln k ≤ i) → svN Y e k i = e i) ∧ ∀ l, 1 ≤ l → l ≤ k → ¬ Y.ln l = -1 → svN Y e k (17 + 4 * cnL Y.ln (l - 1)) = 16 * nI l + Y.ln l ∧ ∀ j, j < 3 → svN Y e k (17 + 4 * cnL Y.ln (l - 1) + 1 + j) = pkA Y l j
  | 0, _ => ⟨fun i _ => rfl, fun l a b => absurd a (by omega)⟩
  | k + 1, hk => by
    obtain ⟨i1, i2⟩ := svN_sp Y e h0 hc k (by omega)
    have s := svN_s Y e (k := k + 1) (by omega)
    rw [show k + 1 - 1 = k by omega] at s
    by_cases g : Y.ln (k + 1) = -1
    · rw [if_pos g] at s
      have cn := cnL_no Y.ln (k := k + 1) (by omega) g
      rw [show k + 1 - 1 = k by omega] at cn
      rw [s, ← cn]
      refine ⟨i1, fun l a b c => i2 l a ?_ c⟩
      rcases Nat.lt_or_ge k l with q | q
      · exact absurd (by rw [show l = k + 1 by omega]; exact g) c
      · exact q
    · rw [if_neg g] at s
      have cn := cnL_in Y.ln (k := k + 1) (by omega) (by omega) g
      rw [show k + 1 - 1 = k by omega] at cn
      rw [s]
      generalize hC : 17 + 4 * cnL Y.ln k = C
      have hE : ∀ i, i ≠ C → upd (svN Y e k) C (16 * nI (k + 1) + Y.ln (k + 1)) i = svN Y e k i := fun i hi => pk_un hi
      have hO : ∀ i, (i < C + 1 ∨ C + 4 ≤ i) → svK Y (k + 1) C (upd (svN Y e k) C (16 * nI (k + 1) + Y.ln (k + 1))) 12 i = upd (svN Y e k) C (16 * nI (k + 1) + Y.ln (k + 1)) i := fun i hi => svK_o 12 (fun j hj => by omega)
      refine ⟨fun i hi => ?_, fun l a b c => ?_⟩
      · rw [hO i (by omega), hE i (by omega)]
        exact i1 i (by omega)
      · by_cases q : l = k + 1
        · subst q
          rw [show k + 1 - 1 = k by omega, hC]
          refine ⟨?_, fun j hj => ?_⟩
          · rw [hO C (by omega), pk_us]
          · refine svK_pk hj ?_
            rw [hE _ (by omega), i1 _ (by omega)]
            exact h0 _ (by omega) (by omega)
        · have m1 := cnL_in Y.ln (k := l) a (by omega) c
          have m2 := cnL_mono Y.ln (j := l) k (by omega)
          obtain ⟨r1, r2⟩ := i2 l a (by omega) c
          refine ⟨?_, fun j hj => ?_⟩
          · rw [hO _ (by omega), hE _ (by omega)]; exact r1
          · rw [hO _ (by omega), hE _ (by omega)]; exact r2 j hj
theorem apQ {g : Nat → Int32} {t : Nat → Nat} {v : Nat → Int32} {q : Nat} (hq : 9 ≤ q) (t0 : t 0 = 1) : ∀ m, (∀ k, k < m → t (1 + k) = q + k) → ∀ i, apN g t v (1 + m) i = if 16 ≤ i ∧ i < 32 then v (i - 16) else if 16 * q ≤ i ∧ i < 16 * (q + m) then v (16 + (i - 16 * q)) else g i
  | 0, _, i => by
    show fl (16 * t 0) 0 16 (fun i => v (16 * 0 + i)) g i = _
    rw [t0]
    by_cases a : 16 ≤ i ∧ i < 32
    · rw [fl_in (by omega), if_pos a]
      show v (16 * 0 + (i - 16 * 1)) = v (i - 16)
      rw [show 16 * 0 + (i - 16 * 1) = i - 16 by omega]
    · rw [fl_out (by omega), if_neg a, if_neg (by omega)]
  | m + 1, ht, i => by
    have ih := apQ (g := g) (v := v) hq t0 m (fun k hk => ht k (by omega)) i
    show fl (16 * t (1 + m)) 0 16 (fun i => v (16 * (1 + m) + i)) (apN g t v (1 + m)) i = _
    rw [ht m (by omega)]
    by_cases a : 16 * (q + m) ≤ i ∧ i < 16 * (q + m) + 16
    · rw [fl_in a, if_neg (by omega), if_pos (by omega)]
      show v (16 * (1 + m) + (i - 16 * (q + m))) = v (16 + (i - 16 * q))
      rw [show 16 * (1 + m) + (i - 16 * (q + m)) = 16 + (i - 16 * q) by omega]
    · rw [fl_out (by omega), ih]
      by_cases b : 16 ≤ i ∧ i < 32
      · rw [if_pos b, if_pos b]
      · rw [if_neg b, if_neg b]
        by_cases c : 16 * q ≤ i ∧ i < 16 * (q + m)
        · rw [if_pos c, if_pos (by omega)]
        · rw [if_neg c, if_neg (by omega)]
theorem FOK_dir {g v h' : Nat → Int32} {n q m : Nat} {x y : Int32} (hn : n < 8) (ok : FOK g) (hq : 9 ≤ q) (hqm : q + m ≤ 32) (hv : ∀ i, i < 16 → v i = if i = 2 * n then x else if i = 2 * n + 1 then y else g (16 + i)) (hh : ∀ i, REL i → h' i = if 16 ≤ i ∧ i < 32 then v (i - 16) else if 16 * q ≤ i ∧ i < 16 * (q + m) then v (16 + (i - 16 * q)) else g i) (hu : ∀ n', n' < 8 → n' ≠ n → ∀ k, k < m → ¬ OC g n' (q + k)) (hN : (x = 0 ∧ y = 0) ∨ (x = 16 ∧ y = nI q ∧ m = 1) ∨ ∃ c, 1 ≤ c ∧ c ≤ 10 ∧ x = nI (1 + 4 * c) ∧ y = nI q ∧ m = bl c ∧ v 16 = nI c ∧ ∀ k, k < c → ∃ l d, 1 ≤ l ∧ l < 100 ∧ d ≤ 12 ∧ v (17 + 4 * k) = nI (16 * l + d) ∧ GL (chV v (17 + 4 * k)) d) : FOK h' := by
  have e1 : h' (16 + 2 * n) = x := by
    rw [hh _ (Or.inl (by omega)), if_pos (by omega), show 16 + 2 * n - 16 = 2 * n by omega, hv _ (by omega), if_pos rfl]
  have e2 : h' (17 + 2 * n) = y := by
    rw [hh _ (Or.inl (by omega)), if_pos (by omega), show 17 + 2 * n - 16 = 2 * n + 1 by omega, hv _ (by omega), if_neg (by omega), if_pos rfl]
  have eB : ∀ j, j < 16 * m → h' (16 * q + j) = v (16 + j) := fun j hj => by
    rw [hh _ (Or.inr (by omega)), if_neg (by omega), if_pos (by omega), show 16 * q + j - 16 * q = j by omega]
  refine FOK_new (n := n) (q := q) (m := m) hn ok (fun n' hn' hne => ⟨?_, ?_⟩) (fun i h1 h2 h3 => ?_) hu ?_ ?_
  · rw [hh _ (Or.inl (by omega)), if_pos (by omega), show 16 + 2 * n' - 16 = 2 * n' by omega, hv _ (by omega), if_neg (by omega), if_neg (by omega)]
  · rw [hh _ (Or.inl (by omega)), if_pos (by omega), show 17 + 2 * n' - 16 = 2 * n' + 1 by omega, hv _ (by omega), if_neg (by omega), if_neg (by omega), show 16 + (2 * n' + 1) = 17 + 2 * n' by omega]
  · rw [hh _ (Or.inr (by omega)), if_neg (by omega), if_neg (by omega)]
  · rcases hN with a | ⟨a, b, c⟩ | ⟨c, c1, c2, a, b, hm, v16, vl⟩
    · exact Or.inl ⟨by rw [e1]; exact a.1, by rw [e2]; exact a.2⟩
    · exact Or.inr (Or.inl ⟨q, by rw [e1]; exact a, by rw [e2]; exact b, hq, by omega⟩)
    · have hbl : 1 + 4 * c ≤ 16 * bl c := by unfold bl; omega
      refine Or.inr (Or.inr ⟨q, c, by rw [e1]; exact a, by rw [e2]; exact b, c1, c2, hq, by omega, ?_, fun k hk => ?_⟩)
      · have := eB 0 (by omega)
        rw [show 16 * q + 0 = 16 * q by omega, show 16 + 0 = 16 by omega] at this
        rw [this]; exact v16
      · obtain ⟨l, d, p1, p2, p3, p4, p5⟩ := vl k hk
        refine ⟨l, d, p1, p2, p3, ?_, ?_⟩
        · have := eB (1 + 4 * k) (by omega)
          rw [show 16 * q + (1 + 4 * k) = 16 * q + 1 + 4 * k by omega, show 16 + (1 + 4 * k) = 17 + 4 * k by omega] at this
          rw [this]; exact p4
        · refine GL_cg (by omega) (fun i hi => ?_) p5
          unfold chV
          have := eB (1 + 4 * k + 1 + i / 4) (by omega)
          rw [show 16 * q + (1 + 4 * k + 1 + i / 4) = 16 * q + 1 + 4 * k + 1 + i / 4 by omega, show 16 + (1 + 4 * k + 1 + i / 4) = 17 + 4 * k + 1 + i / 4 by omega] at this
          rw [this]
  · intro b o
    obtain ⟨f, ef, hf, o⟩ := o
    rw [e1] at o
    rw [e2] at ef
    rcases hN with a | ⟨a, b', c⟩ | ⟨c, c1, c2, a, b', hm, _⟩
    · rw [a.1] at o
      rcases o with ⟨z, _⟩ | ⟨c, c1, c2, z, _⟩
      · exact absurd z (by decide)
      · exact absurd ((nI_eq (a := 0) (by decide) (by omega)).mp z) (by omega)
    · have fq : q = f := (nI_eq (by omega) (by omega)).mp (b'.symm.trans ef)
      rcases o with ⟨_, z⟩ | ⟨c', c1, c2, z, _⟩
      · omega
      · exact absurd ((nI_eq (a := 16) (by decide) (by omega)).mp (a.symm.trans z)) (by omega)
    · have fq : q = f := (nI_eq (by omega) (by omega)).mp (b'.symm.trans ef)
      rcases o with ⟨z, _⟩ | ⟨c', c1', c2', z, z2, z3⟩
      · exact absurd ((nI_eq (b := 16) (by omega) (by decide)).mp (a.symm.trans z)) (by omega)
      · have ec : c = c' := by
          have := (nI_eq (by omega) (by omega)).mp (a.symm.trans z)
          omega
        subst ec
        omega
theorem pk4 {a b c d : Nat} : (((0 * 256 + nI a) * 256 + nI b) * 256 + nI c) * 256 + nI d = nI (((a * 256 + b) * 256 + c) * 256 + d) := by
  have e0 : (0 : Int32) * 256 = nI 0 := by decide
  have m1 : nI (0 + a) * 256 = nI ((0 + a) * 256) := pk_mul _ 256
  have m2 : nI ((0 + a) * 256 + b) * 256 = nI (((0 + a) * 256 + b) * 256) := pk_mul _ 256
  have m3 : nI (((0 + a) * 256 + b) * 256 + c) * 256 = nI ((((0 + a) * 256 + b) * 256 + c) * 256) := pk_mul _ 256
  rw [e0, nI_add, m1, nI_add, m2, nI_add, m3, nI_add, Nat.zero_add]
theorem ch_pk {Y : RSt} {l d : Nat} {g : Nat → Int32} {a : Nat} (hd : d ≤ 12) (hln : Y.ln l = nI d) (hasc : ∀ i, i < d → asc (Y.ch (12 * l + i))) (hp : ∀ j, j < 3 → g (a + 1 + j) = pkA Y l j) : ∀ i, i < d → chV g a i = Y.ch (12 * l + i) := by
  have hA : ∀ i, i < 12 → ∃ n : Nat, n < 128 ∧ aL Y l i = nI n ∧ (i < d → Y.ch (12 * l + i) = nI n) := by
    intro i hi
    unfold aL
    rw [hln]
    by_cases g : d ≤ i
    · rw [if_pos ((nI_leI (by omega) (by omega)).mpr g)]
      exact ⟨0, by decide, rfl, fun h => absurd h (by omega)⟩
    · rw [if_neg (fun e => g ((nI_leI (by omega) (by omega)).mp e))]
      obtain ⟨n, hn, e⟩ := hasc i (by omega)
      exact ⟨n, hn, e, fun _ => e⟩
  intro i hi
  have hj : i / 4 < 3 := by omega
  obtain ⟨n0, h0, e0, f0⟩ := hA (4 * (i / 4)) (by omega)
  obtain ⟨n1, h1, e1, f1⟩ := hA (4 * (i / 4) + 1) (by omega)
  obtain ⟨n2, h2, e2, f2⟩ := hA (4 * (i / 4) + 2) (by omega)
  obtain ⟨n3, h3, e3, f3⟩ := hA (4 * (i / 4) + 3) (by omega)
  have eX := hp (i / 4) hj
  unfold pkA at eX
  rw [e0, e1, e2, e3, pk4] at eX
  have x := chX (g := g) (a := a) (i := i) (X := ((n0 * 256 + n1) * 256 + n2) * 256 + n3) (by omega) eX
  have hr : i % 4 = 0 ∨ i % 4 = 1 ∨ i % 4 = 2 ∨ i % 4 = 3 := by omega
  rcases hr with r | r | r | r
  · rw [x.1 r, show (((n0 * 256 + n1) * 256 + n2) * 256 + n3) / 16777216 % 256 = n0 by omega]
    have := f0 (by omega)
    rw [show 4 * (i / 4) = i by omega] at this
    exact this.symm
  · rw [x.2.1 r, show (((n0 * 256 + n1) * 256 + n2) * 256 + n3) / 65536 % 256 = n1 by omega]
    have := f1 (by omega)
    rw [show 4 * (i / 4) + 1 = i by omega] at this
    exact this.symm
  · rw [x.2.2.1 r, show (((n0 * 256 + n1) * 256 + n2) * 256 + n3) / 256 % 256 = n2 by omega]
    have := f2 (by omega)
    rw [show 4 * (i / 4) + 2 = i by omega] at this
    exact this.symm
  · rw [x.2.2.2 r, show (((n0 * 256 + n1) * 256 + n2) * 256 + n3) % 256 = n3 by omega]
    have := f3 (by omega)
    rw [show 4 * (i / 4) + 3 = i by omega] at this
    exact this.symm
/-! what the reference keeps: lines, disk -/
def LK (f g : Nat → Int32) (l : Nat) : Prop := f l = -1 ∨ ∃ d, d ≤ 12 ∧ f l = nI d ∧ GL (fun i => g (12 * l + i)) d
def LI (Y : RSt) : Prop := Y.tn ≤ 15 ∧ cnL Y.ln 99 ≤ 10 ∧ ∀ l, 1 ≤ l → l < 100 → LK Y.ln Y.ch l
def DI (Y : RSt) : Prop := (∃ h, DV Y.dk h ∧ FOK h) ∧ (Y.de = 0 → Y.dk 32 = 0) ∧ (fmtv Y.dk = 0 → Y.dk 32 = 0)
def RI (q : Nat) (Y : RSt) : Prop := LI Y ∧ DI Y ∧ Y.os ≤ q
def FX (Y Z : RSt) : Prop := Z.tn = Y.tn ∧ Z.ln = Y.ln ∧ Z.ch = Y.ch ∧ Z.dk = Y.dk ∧ Z.de = Y.de
theorem LI_cg {Y Z : RSt} (h1 : Z.tn ≤ 15) (h2 : Z.ln = Y.ln) (h3 : Z.ch = Y.ch) (h : LI Y) : LI Z := by
  unfold LI
  rw [h2, h3]
  exact ⟨h1, h.2⟩
theorem DI_cg {Y Z : RSt} (h1 : Z.dk = Y.dk) (h2 : Z.de = Y.de) (h : DI Y) : DI Z := by
  unfold DI
  rw [h1, h2]
  exact h
theorem RI.fx {q : Nat} {Y Z : RSt} (h : RI q Y) (f : FX Y Z) (ho : Z.os ≤ q) : RI q Z := ⟨LI_cg (by rw [f.1]; exact h.1.1) f.2.1 f.2.2.1 h.1, DI_cg f.2.2.2.1 f.2.2.2.2 h.2.1, ho⟩
theorem sm_fx {Y Z : RSt} (h : smP Y Z) : FX Y Z := by
  have h : Z = mix Y Z := h
  rw [h]
  exact ⟨rfl, rfl, rfl, rfl, rfl⟩
theorem RI.sm {q : Nat} {Y Z : RSt} (h : RI q Y) (s : smP Y Z) : RI q Z := h.fx (sm_fx s) (by rw [sm_os s]; exact h.2.2)
theorem RI.up {q q' : Nat} {Y : RSt} (h : RI q Y) (g : q ≤ q') : RI q' Y := ⟨h.1, h.2.1, Nat.le_trans h.2.2 g⟩
theorem cnL_m1 : ∀ k, cnL (fun _ => -1) k = 0
  | 0 => rfl
  | k + 1 => by
    show cnL (fun _ => -1) k + (if (-1 : Int32) = -1 then 0 else 1) = 0
    rw [if_pos rfl, cnL_m1 k]
theorem LI_no (Y : RSt) : LI (noF Y) := ⟨Nat.zero_le _, by show cnL (fun _ => -1) 99 ≤ 10; rw [cnL_m1]; decide, fun l _ _ => Or.inl rfl⟩
theorem wt_os (Y : RSt) (n : Nat) (v : Nat → Int32) : (wtF Y n v).os = Y.os := by
  rcases wt_cases Y n v with ⟨_, e⟩ | ⟨_, e⟩ | ⟨_, e⟩ <;> rw [e] <;> rfl
theorem LI_wt {Y : RSt} (h : LI Y) (n : Nat) (v : Nat → Int32) : LI (wtF Y n v) := by
  rcases wt_cases Y n v with ⟨_, e⟩ | ⟨_, e⟩ | ⟨_, e⟩ <;> rw [e]
  · exact h
  · exact LI_no _
  · exact h
theorem LI_wA {Y : RSt} (h : LI Y) : ∀ k, LI (wA Y k) ∧ (wA Y k).os = Y.os
  | 0 => ⟨h, rfl⟩
  | k + 1 => ⟨LI_wt (LI_wA h k).1 _ _, (wt_os _ _ _).trans (LI_wA h k).2⟩
theorem LI_wB {Y : RSt} (h : LI Y) : ∀ k, LI (wB Y k) ∧ (wB Y k).os = Y.os
  | 0 => ⟨h, rfl⟩
  | k + 1 => ⟨LI_wt (LI_wB h k).1 _ _, (wt_os _ _ _).trans (LI_wB h k).2⟩
theorem LI_cm {Y : RSt} (h : LI Y) : LI (cm2 Y) ∧ (cm2 Y).os = Y.os := by
  have a := LI_wA h Y.my
  have a1 : LI (cm1 Y) := LI_wt a.1 _ _
  have b := LI_wB a1 (cm1 Y).my
  exact ⟨LI_wt b.1 _ _, (wt_os _ _ _).trans (b.2.trans ((wt_os _ _ _).trans a.2))⟩
theorem LI_ce {Y : RSt} (f : Nat → Int32) (h : LI Y) : LI (ceF Y f) := h
theorem LI_rp {Y : RSt} (h : LI Y) : ∀ k, LI (rpR Y k) ∧ (rpR Y k).os = Y.os
  | 0 => ⟨h, rfl⟩
  | k + 1 => ⟨LI_wt (LI_ce _ (LI_rp h k).1) _ _, (wt_os _ _ _).trans (LI_rp h k).2⟩
theorem wt_dead {Y : RSt} (h : ¬ Y.de = 0) (n : Nat) (v : Nat → Int32) : wtF Y n v = Y := if_neg h
theorem cm_dead {Y : RSt} (h : ¬ Y.de = 0) : cm2 Y = Y := by
  have a : ∀ k, wA Y k = Y := by
    intro k
    induction k with
    | zero => rfl
    | succ k ih => show wtF (wA Y k) _ _ = Y; rw [ih]; exact wt_dead h _ _
  have b : cm1 Y = Y := by show wtF (wA Y Y.my) 2 (hdS (wA Y Y.my)) = Y; rw [a]; exact wt_dead h _ _
  have c : ∀ k, wB Y k = Y := by
    intro k
    induction k with
    | zero => rfl
    | succ k ih => show wtF (wB Y k) _ _ = Y; rw [ih]; exact wt_dead h _ _
  show wtF (wB (cm1 Y) (cm1 Y).my) 2 (fun _ => 0) = Y
  rw [b, c]
  exact wt_dead h _ _
theorem DI_fok {Y : RSt} (h : DI Y) (hd : Y.de = 0) : Y.dk 32 = 0 ∧ FOK Y.dk := by
  have h0 := h.2.1 hd
  refine ⟨h0, ?_⟩
  obtain ⟨⟨g, ⟨n, ⟨hn, e, _⟩, r⟩, ok⟩, _⟩ := h
  have n0 : n = 0 := (nI_eq (b := 0) (by omega) (by decide)).mp (e.symm.trans h0)
  subst n0
  exact FOK_cg (fun i hi => (r i hi).symm) ok
theorem fm_cg {g g' : Nat → Int32} (e : g' 0 = g 0) : fmtv g' = fmtv g := by
  unfold fmtv
  rw [e]
theorem DI_cm {Y : RSt} (hi : DI Y) (hf : ¬ fmtv Y.dk = 0) (hm : Y.my ≤ 6) (ht : ∀ k, k < Y.my → ∃ t, Y.wh k = nI t ∧ tgt t) (ok : Y.de = 0 → FOK (hN Y.dk Y.wh Y.ce Y.my)) : DI (cm2 Y) := by
  by_cases hd : Y.de = 0
  · obtain ⟨h0, ok0⟩ := DI_fok hi hd
    rcases cm_res hd h0 hm ht with ⟨a, b, c⟩ | ⟨a, b, c, d⟩
    · refine ⟨?_, fun g => absurd g a, fun g => absurd (by rw [← fm_cg b]; exact g) hf⟩
      rcases c with c | c
      · exact ⟨_, c, ok0⟩
      · exact ⟨_, c, ok hd⟩
    · exact ⟨⟨_, DV_0 c d, ok hd⟩, fun _ => c, fun _ => c⟩
  · rw [cm_dead hd]
    exact hi
theorem RI_cm {q : Nat} {Y S : RSt} (hi : RI q Y) (fx : FX Y S) (ho : S.os = Y.os) (hf : ¬ fmtv Y.dk = 0) (hm : S.my ≤ 6) (ht : ∀ k, k < S.my → ∃ t, S.wh k = nI t ∧ tgt t) (ok : Y.de = 0 → FOK (hN Y.dk S.wh S.ce S.my)) : RI q (cm2 S) := by
  have hs : RI q S := hi.fx fx (by rw [ho]; exact hi.2.2)
  have l := LI_cm hs.1
  refine ⟨l.1, DI_cm hs.2.1 (by rw [fx.2.2.2.1]; exact hf) hm ht (by rw [fx.2.2.2.1, fx.2.2.2.2]; exact ok), by rw [l.2]; exact hs.2.2⟩
/-! format and recovery -/
theorem DI_w2 {Y : RSt} (h : DI Y) : DI (wtF Y 2 (fun _ => 0)) := by
  rcases wt_cases Y 2 (fun _ => 0) with ⟨_, e⟩ | ⟨hd, e⟩ | ⟨hd, e⟩ <;> rw [e]
  · exact h
  · exact ⟨h.1, fun g => absurd g (ds_de Y), h.2.2⟩
  · obtain ⟨h0, ok⟩ := DI_fok h hd
    have z : fl (16 * 2) 0 16 (fun _ => (0 : Int32)) Y.dk 32 = 0 := by rw [fl_in (by omega)]
    refine ⟨⟨Y.dk, DV_0 z (fun i hi => ?_), ok⟩, fun _ => z, fun _ => z⟩
    have hi' : (16 ≤ i ∧ i < 32) ∨ (144 ≤ i ∧ i < 512) := hi
    show fl (16 * 2) 0 16 (fun _ => (0 : Int32)) Y.dk i = Y.dk i
    rw [fl_out (by omega)]
theorem DI_w1 {Y : RSt} (h : DI Y) : DI (wtF Y 1 (fun _ => 0)) := by
  rcases wt_cases Y 1 (fun _ => 0) with ⟨_, e⟩ | ⟨hd, e⟩ | ⟨hd, e⟩ <;> rw [e]
  · exact h
  · exact ⟨h.1, fun g => absurd g (ds_de Y), h.2.2⟩
  · obtain ⟨h0, ok⟩ := DI_fok h hd
    have z : fl (16 * 1) 0 16 (fun _ => (0 : Int32)) Y.dk 32 = 0 := by rw [fl_out (by omega)]; exact h0
    refine ⟨⟨_, DV_0 z (fun i _ => rfl), FOK_0 (fun i a b => ?_)⟩, fun _ => z, fun _ => z⟩
    show fl (16 * 1) 0 16 (fun _ => (0 : Int32)) Y.dk i = 0
    rw [fl_in (by omega)]
theorem DI_w0 {Y : RSt} (h : DI Y) (v : Nat → Int32) : DI (wtF Y 0 v) := by
  rcases wt_cases Y 0 v with ⟨_, e⟩ | ⟨hd, e⟩ | ⟨hd, e⟩ <;> rw [e]
  · exact h
  · exact ⟨h.1, fun g => absurd g (ds_de Y), h.2.2⟩
  · obtain ⟨h0, ok⟩ := DI_fok h hd
    have z : fl (16 * 0) 0 16 v Y.dk 32 = 0 := by rw [fl_out (by omega)]; exact h0
    refine ⟨⟨Y.dk, DV_0 z (fun i hi => ?_), ok⟩, fun _ => z, fun _ => z⟩
    have hi' : (16 ≤ i ∧ i < 32) ∨ (144 ≤ i ∧ i < 512) := hi
    show fl (16 * 0) 0 16 v Y.dk i = Y.dk i
    rw [fl_out (by omega)]
theorem RI_fmB {q : Nat} {Y : RSt} (h : RI q Y) : RI q (fmB Y) := by
  have a : RI q (fmA Y) := h.fx ⟨rfl, rfl, rfl, rfl, rfl⟩ h.2.2
  unfold fmB
  revert a
  generalize fmA Y = M
  intro a
  refine ⟨LI_wt (LI_wt (LI_wt a.1 _ _) _ _) _ _, DI_w0 (DI_w1 (DI_w2 a.2.1)) _, ?_⟩
  rw [wt_os, wt_os, wt_os]
  exact a.2.2
theorem ri_mk {q : Nat} {a : Int32} {Z : RSt} (h : RI q Z) : RI q ((a, Z) : Int32 × RSt).2 := h
theorem RI_fm {q : Nat} {Y : RSt} (h : RI q Y) : RI q (fmR Y).2 := by
  unfold fmR
  by_cases hd : Y.de = 0
  · rw [if_pos hd]
    have t := RI_fmB h
    revert t
    generalize fmB Y = M
    intro t
    exact ri_mk t
  · rw [if_neg hd]
    exact ri_mk (h.fx ⟨rfl, rfl, rfl, rfl, rfl⟩ h.2.2)
theorem RI_lg {q : Nat} {Y : RSt} (h : RI q Y) : RLg Y.dk := by
  obtain ⟨⟨g, ⟨n, ⟨hn, e, ht⟩, _⟩, _⟩, _⟩ := h.2.1
  refine ⟨n, hn, e, fun k hk => ?_⟩
  obtain ⟨t, et, tt⟩ := ht k hk
  have tt : t = 1 ∨ (9 ≤ t ∧ t < 32) := tt
  exact ⟨t, by omega, by omega, et⟩
theorem RI_ar {q : Nat} {Y : RSt} (h : RI q Y) (x : Int32) : RI q (arF Y x) := h.fx ⟨rfl, rfl, rfl, rfl, rfl⟩ h.2.2
theorem RI_rc1 {q : Nat} {Y : RSt} (h : RI q Y) (h32 : Y.dk 32 = 0) : RI q (rc1 Y) := ⟨LI_no _, ⟨h.2.1.1, fun _ => h32, fun _ => h32⟩, h.2.2⟩
theorem RI_rc2 {q : Nat} {Y : RSt} (h : RI q Y) (hf : ¬ fmtv Y.dk = 0) : RI q (rc2 Y) := by
  have l1 : LI (rc1 Y) := LI_no _
  have o1 : (rc1 Y).os = Y.os := rfl
  have ed : (rc1 Y).dk = Y.dk := rfl
  have dd : (rc1 Y).de = 0 := rfl
  obtain ⟨g, ⟨n, lg, r⟩, ok⟩ := h.2.1.1
  have en : (Y.dk 32).toNatClampNeg = n := by rw [lg.2.1]; exact nI_clamp (by have := lg.1; omega)
  have e2 : rc2 Y = wtF (rpR (rc1 Y) n) 2 (fun _ => 0) := by unfold rc2; rw [en]
  have okN : FOK (hN Y.dk (fun k => Y.dk (33 + k)) (fun i => Y.dk (48 + i)) n) := FOK_cg (fun i hi => (r i hi).symm) ok
  have rr := rp_res (Y := rc1 Y) (n := n) dd (by rw [ed]; exact lg)
  rw [ed] at rr
  have l2 := LI_rp l1 n
  have l3 := LI_wt l2.1 2 (fun _ => 0)
  have o3 : (wtF (rpR (rc1 Y) n) 2 (fun _ => 0)).os = Y.os := by rw [wt_os, l2.2, o1]
  rw [e2]
  revert rr l3 o3
  generalize wtF (rpR (rc1 Y) n) 2 (fun _ => 0) = M
  intro rr l3 o3
  refine ⟨l3, ?_, by rw [o3]; exact h.2.2⟩
  rcases rr with ⟨a, b, c⟩ | ⟨a, b, c, d⟩
  · refine ⟨?_, fun g => absurd g a, fun g => absurd (by rw [← fm_cg b]; exact g) hf⟩
    rcases c with c | c
    · exact ⟨_, c, okN⟩
    · exact ⟨_, c, okN⟩
  · exact ⟨⟨_, DV_0 c d, okN⟩, fun _ => c, fun _ => c⟩
theorem RI_rc {q : Nat} {Y : RSt} (h : RI q Y) : RI q (rcR Y).2 := by
  unfold rcR
  by_cases hf : fmtv Y.dk = 0
  · rw [if_pos hf]
    exact ri_mk (RI_ar (RI_rc1 h (h.2.1.2.2 hf)) _)
  rw [if_neg hf]
  by_cases h32 : Y.dk 32 = 0
  · rw [if_pos h32]
    exact ri_mk (RI_ar (RI_rc1 h h32) _)
  rw [if_neg h32]
  have t := RI_rc2 h hf
  revert t
  generalize rc2 Y = M
  intro t
  exact ri_mk (RI_ar t _)
/-! what the reference keeps: files written -/
theorem diR_t (Y : RSt) (n : Nat) (x y : Int32) : ∀ k, k < 1 → ∃ t, (diR Y n x y).wh k = nI t ∧ tgt t := fun k hk => by
  rw [show k = 0 by omega]
  refine ⟨1, ?_, Or.inl rfl⟩
  show upd Y.wh 0 1 0 = nI 1
  rw [pk_us]
  rfl
theorem diR_c (Y : RSt) (n : Nat) (x y : Int32) : ∀ i, i < 16 → (diR Y n x y).ce i = if i = 2 * n then x else if i = 2 * n + 1 then y else Y.dk (16 + i) := fun i hi => by
  show fl 0 0 16 (diV Y n x y) Y.ce i = _
  rw [fl_all i hi]
  rfl
theorem dn_mk {q : Nat} {S : RSt} (r : RI q (cm2 S)) : RI q (dnR (cmR S)).2 ∧ ((dnR (cmR S)).1 = 0 → (dnR (cmR S)).2.de = 0) := by
  unfold dnR cmR
  revert r
  generalize cm2 S = M
  intro r
  refine ⟨r, fun e => Decidable.byContradiction (fun g => ?_)⟩
  have g : ¬ M.de = 0 := g
  have e : (if (if ¬ M.de = 0 then (0 : Int32) else 1) = 0 then (7 : Int32) else 0) = 0 := e
  rw [if_pos g, if_pos rfl] at e
  exact absurd e (by decide)
theorem RI_dr {q : Nat} {Y : RSt} {n : Nat} (h : RI q Y) (hn : n < 8) (hf : ¬ fmtv Y.dk = 0) : RI q (drR Y n).2 := by
  unfold drR
  by_cases e : Y.dk (16 + 2 * n) = 0
  · rw [if_neg (fun g => g e)]; exact ri_mk h
  · rw [if_pos e]
    refine (dn_mk ?_).1
    refine RI_cm (S := diR Y n 0 0) h ⟨rfl, rfl, rfl, rfl, rfl⟩ rfl hf (show 1 ≤ 6 by decide) (diR_t Y n 0 0) (fun hd => ?_)
    have ok := (DI_fok h.2.1 hd).2
    refine FOK_dir (q := 9) (m := 0) hn ok (by decide) (by decide) (diR_c Y n 0 0) (fun i _ => ?_) (fun _ _ _ k hk => absurd hk (by omega)) (Or.inl ⟨rfl, rfl⟩)
    exact apQ (t := fun k => ((diR Y n 0 0).wh k).toNatClampNeg) (by decide) (by show (upd Y.wh 0 1 0).toNatClampNeg = 1; rw [pk_us]; rfl) 0 (fun k hk => absurd hk (by omega)) i
theorem RI_hrec {q : Nat} {Y : RSt} (h : RI q Y) (hd : Y.de = 0) : ∀ n, n < 8 → Y.dk (16 + 2 * n) = 16 → ∃ f, 9 ≤ f ∧ f < 32 ∧ Y.dk (17 + 2 * n) = nI f := by
  intro n hn e
  rcases (DI_fok h.2.1 hd).2.1 n hn with a | ⟨f, a⟩ | ⟨f, c, a⟩
  · rw [e] at a; exact absurd a.1 (by decide)
  · exact ⟨f, a.2.2.1, a.2.2.2, a.2.1⟩
  · have := (nI_eq (a := 16) (by decide) (by have := a.2.2.2.1; omega)).mp (e.symm.trans a.1)
    omega
theorem RI_rld {q : Nat} {Y : RSt} (h : RI q Y) (hd : Y.de = 0) : ∀ n, n < 8 → ¬ Y.dk (16 + 2 * n) = 0 → ¬ Y.dk (16 + 2 * n) = 16 → ∃ f c, FP Y.dk n f c := by
  intro n hn e1 e2
  rcases (DI_fok h.2.1 hd).2.1 n hn with a | ⟨f, a⟩ | a
  · exact absurd a.1 e1
  · exact absurd a.1 e2
  · exact a
theorem FP_RLd {g : Nat → Int32} {n f c : Nat} (p : FP g n f c) : RLd g n := by
  obtain ⟨p1, p2, p3, p4, p5, p6, p7, p8⟩ := p
  have hb : 1 + 4 * c ≤ 16 * bl c := by unfold bl; omega
  refine ⟨f, c, by omega, p2, by omega, p7, fun k hk => ?_⟩
  obtain ⟨l, d, q1, q2, q3, q4, _⟩ := p8 k hk
  exact ⟨l, d, q2, by omega, q4⟩
theorem rmB {g : Nat → Int32} {m : Nat} {n : Nat} (hm : m ≤ 6) (hn : n < 8) (h : ¬ rmR g m (nI n) (24 - m) 9 = -1) : ∃ b, 9 ≤ b ∧ b + m ≤ 32 ∧ rmR g m (nI n) (24 - m) 9 = nI b ∧ ∀ n', n' < 8 → n' ≠ n → ∀ k, k < m → ¬ OC g n' (b + k) := by
  obtain ⟨b, h1, h2, e, r⟩ := (rm_free g m (nI n) (24 - m) 9).resolve_left h
  exact ⟨b, h1, by omega, e, fun n' hn' hne k hk => us_free hn (by omega) (r k hk) n' hn' hne⟩
theorem rwC_t {Y : RSt} {q : Nat} {z i v : Int32} (hq : 9 ≤ q ∧ q < 32) (h : ∀ k, k < Y.my → ∃ t, Y.wh k = nI t ∧ tgt t) : ∀ k, k < (rwC Y q z i v).my → ∃ t, (rwC Y q z i v).wh k = nI t ∧ tgt t := fun k hk => by
  have hk : k < Y.my + 1 := hk
  show ∃ t, upd Y.wh Y.my (nI q) k = nI t ∧ tgt t
  by_cases e : k = Y.my
  · rw [e, pk_us]; exact ⟨q, rfl, Or.inr hq⟩
  · rw [pk_un e]; exact h k (by omega)
theorem hN_1 (g w v : Nat → Int32) (j : Nat) : hN g w v 1 j = fl (16 * (w 0).toNatClampNeg) 0 16 (fun i => v (16 * 0 + i)) g j := rfl
theorem RI_rw {q : Nat} {Y : RSt} {n : Nat} {i v : Int32} (h : RI q Y) (hd : Y.de = 0) (hn : n < 8) : RI q (rwR Y n i v).2 ∧ ((rwR Y n i v).1 = 0 → (rwR Y n i v).2.de = 0) := by
  have ok := (DI_fok h.2.1 hd).2
  unfold rwR
  by_cases c1 : fmtv Y.dk = 0
  · rw [if_neg (fun g => g c1)]; exact ⟨h, fun _ => hd⟩
  rw [if_pos c1]
  by_cases c2 : i < 0
  · rw [if_pos c2]; exact ⟨h, fun _ => hd⟩
  rw [if_neg c2]
  by_cases c3 : i ≤ 15
  · rw [if_neg (fun g => g c3)]
    by_cases c4 : Y.dk (16 + 2 * n) = 0
    · rw [if_pos c4]
      by_cases c5 : rwB Y n = -1
      · rw [if_neg (fun g => g c5)]; exact ⟨h, fun _ => hd⟩
      · rw [if_pos c5]
        obtain ⟨b, hb1, hb2, eb, hu⟩ := rmB (m := 1) (by decide) hn c5
        have eb : rwB Y n = nI b := eb
        rw [eb, nI_clamp (by omega), c4]
        apply dn_mk
        refine RI_cm (S := rwC (diR Y n 16 (nI b)) b 0 i v) h ⟨rfl, rfl, rfl, rfl, rfl⟩ rfl c1 (show 1 + 1 ≤ 6 by decide) (rwC_t ⟨hb1, by omega⟩ (diR_t Y n 16 (nI b))) (fun _ => ?_)
        refine FOK_dir (v := (rwC (diR Y n 16 (nI b)) b 0 i v).ce) (q := b) (m := 1) (x := 16) (y := nI b) hn ok hb1 hb2 (fun i hi => ?_) (fun i _ => ?_) hu (Or.inr (Or.inl ⟨rfl, rfl, rfl⟩))
        · show fl (16 * 1) 0 16 _ (diR Y n 16 (nI b)).ce i = _
          rw [fl_out (by omega)]
          exact diR_c Y n 16 (nI b) i hi
        · refine apQ (t := fun k => ((rwC (diR Y n 16 (nI b)) b 0 _ v).wh k).toNatClampNeg) hb1 ?_ 1 (fun k hk => ?_) i
          · show (upd (upd Y.wh 0 1) 1 (nI b) 0).toNatClampNeg = 1
            rw [pk_un (by decide), pk_us]
            rfl
          · rw [show k = 0 by omega]
            show (upd (upd Y.wh 0 1) 1 (nI b) (1 + 0)).toNatClampNeg = b + 0
            rw [show 1 + 0 = 1 from rfl, pk_us, nI_clamp (by omega)]
            rfl
    · rw [if_neg c4]
      by_cases c5 : Y.dk (16 + 2 * n) = 16
      · rw [if_pos c5]
        obtain ⟨f, hf1, hf2, ef⟩ := RI_hrec h hd n hn c5
        rw [ef, nI_clamp (by omega), c5]
        apply dn_mk
        refine RI_cm (S := rwC (myF Y 0) f 16 i v) h ⟨rfl, rfl, rfl, rfl, rfl⟩ rfl c1 (show 0 + 1 ≤ 6 by decide) (rwC_t (Y := myF Y 0) ⟨hf1, hf2⟩ (fun k hk => absurd (show k < 0 from hk) (by omega))) (fun _ => ?_)
        have et : ((rwC (myF Y 0) f 16 i v).wh 0).toNatClampNeg = f := by
          show (upd Y.wh 0 (nI f) 0).toNatClampNeg = f
          rw [pk_us, nI_clamp (by omega)]
        have eh : ∀ j, (j < 16 * f ∨ 16 * f + 16 ≤ j) → Y.dk j = hN Y.dk (rwC (myF Y 0) f 16 i v).wh (rwC (myF Y 0) f 16 i v).ce (rwC (myF Y 0) f 16 i v).my j := fun j hj => by
          rw [show (rwC (myF Y 0) f 16 i v).my = 1 from rfl, hN_1, et, fl_out hj]
        refine FOK_new (n := n) (q := f) (m := 1) hn ok (fun n' hn' hne => ⟨eh _ (by omega), eh _ (by omega)⟩) (fun j a b c => eh j (by omega)) (fun n' hn' hne k hk o => ?_) (Or.inr (Or.inl ⟨f, by rw [← eh _ (by omega)]; exact c5, by rw [← eh _ (by omega)]; exact ef, hf1, hf2⟩)) (fun b o => ?_)
        · rw [show f + k = f by omega] at o
          exact ok.2 n n' f hn hn' (fun e => hne e.symm) ⟨f, ef, hf2, Or.inl ⟨c5, rfl⟩⟩ o
        · have o := OC_cg (eh _ (by omega)).symm (eh _ (by omega)).symm o
          obtain ⟨f', ef', hf', o⟩ := o
          have ff : f = f' := (nI_eq (by omega) (by omega)).mp (ef.symm.trans ef')
          rcases o with ⟨_, z⟩ | ⟨c', c1', c2', z, _⟩
          · omega
          · exact absurd ((nI_eq (a := 16) (by decide) (by omega)).mp (c5.symm.trans z)) (by omega)
      · rw [if_neg c5]; exact ⟨h, fun _ => hd⟩
  · rw [if_pos c3]; exact ⟨h, fun _ => hd⟩
theorem sy6_my (Y : RSt) (n b : Nat) : (sy6 Y n b).my = 1 + bl (cnL Y.ln 99) := rfl
theorem sy6_w0 (Y : RSt) (n b : Nat) : (sy6 Y n b).wh 0 = 1 := by
  show fl 1 0 ((1 + 4 * cnL Y.ln 99 + 15) / 16) (fun k => nI (b + k)) (upd Y.wh 0 1) 0 = 1
  unfold fl
  rw [if_neg (by omega), pk_us]
theorem sy6_wk (Y : RSt) (n b : Nat) {k : Nat} (hk : k < bl (cnL Y.ln 99)) : (sy6 Y n b).wh (1 + k) = nI (b + k) := by
  show fl 1 0 ((1 + 4 * cnL Y.ln 99 + 15) / 16) (fun k => nI (b + k)) (upd Y.wh 0 1) (1 + k) = nI (b + k)
  unfold fl
  rw [if_pos ⟨by omega, by unfold bl at hk; omega⟩]
  show nI (b + (1 + k - 1)) = nI (b + k)
  rw [show 1 + k - 1 = k by omega]
theorem sy6_c (Y : RSt) (n b : Nat) : (sy6 Y n b).ce = svN (sy3 (sy2 Y n b)) (sy3 (sy2 Y n b)).ce 99 := rfl
def FO (Y Z : RSt) : Prop := FX Y Z ∧ Z.os = Y.os
theorem FO.tr {X Y Z : RSt} (h : FO X Y) (g : FO Y Z) : FO X Z := ⟨⟨g.1.1.trans h.1.1, g.1.2.1.trans h.1.2.1, g.1.2.2.1.trans h.1.2.2.1, g.1.2.2.2.1.trans h.1.2.2.2.1, g.1.2.2.2.2.trans h.1.2.2.2.2⟩, g.2.trans h.2⟩
theorem FO_my (Y : RSt) (x : Nat) : FO Y (myF Y x) := ⟨⟨rfl, rfl, rfl, rfl, rfl⟩, rfl⟩
theorem FO_wh (Y : RSt) (f : Nat → Int32) : FO Y (whF Y f) := ⟨⟨rfl, rfl, rfl, rfl, rfl⟩, rfl⟩
theorem FO_ce (Y : RSt) (f : Nat → Int32) : FO Y (ceF Y f) := ⟨⟨rfl, rfl, rfl, rfl, rfl⟩, rfl⟩
theorem FO_di (Y : RSt) (n : Nat) (x y : Int32) : FO Y (diR Y n x y) := ⟨⟨rfl, rfl, rfl, rfl, rfl⟩, rfl⟩
theorem sy6_fo (Y : RSt) (n b : Nat) : FO Y (sy6 Y n b) := by
  unfold sy6 sy5 sy4 sy3 sy2
  exact (((((FO_di Y n _ _).tr (FO_ce _ _)).tr (FO_ce _ _)).tr (FO_ce _ _)).tr (FO_wh _ _)).tr (FO_my _ _)
theorem sy3_ln (Y : RSt) (n b : Nat) : (sy3 (sy2 Y n b)).ln = Y.ln ∧ (sy3 (sy2 Y n b)).ch = Y.ch := ⟨rfl, rfl⟩
theorem sy3_e0 (Y : RSt) (n b : Nat) : ∀ i, 17 ≤ i → i < 96 → (sy3 (sy2 Y n b)).ce i = 0 := fun i h1 h2 => by
  show upd (fl 0 16 96 (fun _ => 0) (diR Y n (nI (1 + 4 * cnL Y.ln 99)) (nI b)).ce) 16 (nI (cnL Y.ln 99)) i = 0
  rw [pk_un (by omega)]
  unfold fl
  rw [if_pos (by omega)]
theorem sy3_16 (Y : RSt) (n b : Nat) : (sy3 (sy2 Y n b)).ce 16 = nI (cnL Y.ln 99) := by
  show upd (fl 0 16 96 (fun _ => 0) (diR Y n (nI (1 + 4 * cnL Y.ln 99)) (nI b)).ce) 16 (nI (cnL Y.ln 99)) 16 = _
  rw [pk_us]
theorem sy3_lo (Y : RSt) (n b : Nat) {i : Nat} (hi : i < 16) : (sy3 (sy2 Y n b)).ce i = if i = 2 * n then nI (1 + 4 * cnL Y.ln 99) else if i = 2 * n + 1 then nI b else Y.dk (16 + i) := by
  show upd (fl 0 16 96 (fun _ => 0) (diR Y n (nI (1 + 4 * cnL Y.ln 99)) (nI b)).ce) 16 (nI (cnL Y.ln 99)) i = _
  rw [pk_un (by omega), show fl 0 16 96 (fun _ => 0) (diR Y n (nI (1 + 4 * cnL Y.ln 99)) (nI b)).ce i = (diR Y n (nI (1 + 4 * cnL Y.ln 99)) (nI b)).ce i by unfold fl; rw [if_neg (by omega)], diR_c Y n _ _ i hi]
theorem FOK_sa {Y : RSt} {n b : Nat} (li : LI Y) (ok : FOK Y.dk) (hn : n < 8) (hc0 : 1 ≤ cnL Y.ln 99) (hb1 : 9 ≤ b) (hb2 : b + bl (cnL Y.ln 99) ≤ 32) (hu : ∀ n', n' < 8 → n' ≠ n → ∀ k, k < bl (cnL Y.ln 99) → ¬ OC Y.dk n' (b + k)) : FOK (hN Y.dk (sy6 Y n b).wh (sy6 Y n b).ce (1 + bl (cnL Y.ln 99))) := by
  have hc := li.2.1
  have ll := li.2.2
  have sp := svN_sp (sy3 (sy2 Y n b)) (sy3 (sy2 Y n b)).ce (sy3_e0 Y n b) (by rw [(sy3_ln Y n b).1]; exact hc) 99 (Nat.le_refl _)
  have c16 := sy3_16 Y n b
  have clo := fun i hi => sy3_lo Y n b (i := i) hi
  have eln := sy3_ln Y n b
  have w0 := sy6_w0 Y n b
  have wk := fun k hk => sy6_wk Y n b (k := k) hk
  rw [sy6_c]
  revert sp c16 clo eln w0 wk
  generalize (sy6 Y n b).wh = wh
  generalize sy3 (sy2 Y n b) = M
  intro sp c16 clo eln w0 wk
  rw [eln.1] at sp
  refine FOK_dir (v := svN M M.ce 99) (q := b) (m := bl (cnL Y.ln 99)) (x := nI (1 + 4 * cnL Y.ln 99)) (y := nI b) hn ok hb1 hb2 (fun i hi => ?_) (fun i _ => ?_) hu (Or.inr (Or.inr ⟨cnL Y.ln 99, hc0, hc, rfl, rfl, rfl, ?_, fun k hk => ?_⟩))
  · rw [sp.1 i (Or.inl (by omega))]
    exact clo i hi
  · refine apQ (t := fun k => (wh k).toNatClampNeg) hb1 (by show (wh 0).toNatClampNeg = 1; rw [w0]; rfl) (bl (cnL Y.ln 99)) (fun k hk => ?_) i
    show (wh (1 + k)).toNatClampNeg = b + k
    rw [wk k hk, nI_clamp (by omega)]
  · rw [sp.1 16 (Or.inl (by omega))]
    exact c16
  · obtain ⟨l, l1, l2, l3, l4⟩ := cnL_ex Y.ln 99 k hk
    obtain ⟨r1, r2⟩ := sp.2 l l1 l2 l3
    rw [l4] at r1
    rw [l4] at r2
    obtain ⟨d, d1, d2, d3⟩ := (ll l l1 (by omega)).resolve_left l3
    refine ⟨l, d, l1, by omega, d1, ?_, ?_⟩
    · rw [r1, d2, show (16 : Int32) * nI l = nI (16 * l) from pk_mul 16 l, nI_add]
    · have as := GL_asc (by omega) d3
      have cp := ch_pk (Y := M) (l := l) (d := d) (g := svN M M.ce 99) (a := 17 + 4 * k) d1 (by rw [eln.1]; exact d2) (by rw [eln.2]; exact as) r2
      rw [eln.2] at cp
      exact GL_cg (by omega) (fun i hi => (cp i hi).symm) d3
theorem RI_sa {q : Nat} {Y : RSt} {n : Nat} (h : RI q Y) (hd : Y.de = 0) (hn : n < 8) (hf : ¬ fmtv Y.dk = 0) : RI q (saR Y n).2 := by
  have ok := (DI_fok h.2.1 hd).2
  have hc := h.1.2.1
  unfold saR
  by_cases c1 : nI (cnL Y.ln 99) = 0
  · rw [if_pos c1]; exact ri_mk h
  rw [if_neg c1]
  have hc0 : 1 ≤ cnL Y.ln 99 := by
    rcases Nat.eq_zero_or_pos (cnL Y.ln 99) with g | g
    · exact absurd (by rw [g]; rfl) c1
    · exact g
  by_cases c2 : rmR Y.dk ((1 + 4 * cnL Y.ln 99 + 15) / 16) (nI n) (24 - (1 + 4 * cnL Y.ln 99 + 15) / 16) 9 = -1
  · rw [if_pos c2]; exact ri_mk h
  rw [if_neg c2]
  obtain ⟨b, hb1, hb2, eb, hu⟩ := rmB (m := (1 + 4 * cnL Y.ln 99 + 15) / 16) (by omega) hn c2
  rw [eb, nI_clamp (by omega)]
  have hb3 : b + bl (cnL Y.ln 99) ≤ 32 := hb2
  have hbl : bl (cnL Y.ln 99) ≤ 3 := by unfold bl; omega
  refine (dn_mk (RI_cm (S := sy6 Y n b) h (sy6_fo Y n b).1 (sy6_fo Y n b).2 hf (by rw [sy6_my]; omega) (fun k hk => ?_) (fun _ => ?_))).1
  · rw [sy6_my] at hk
    rcases Nat.eq_zero_or_pos k with g | g
    · rw [g, sy6_w0]; exact ⟨1, rfl, Or.inl rfl⟩
    · obtain ⟨j, rfl⟩ : ∃ j, k = 1 + j := ⟨k - 1, by omega⟩
      rw [sy6_wk Y n b (by omega)]
      exact ⟨b + j, rfl, Or.inr ⟨by omega, by omega⟩⟩
  · rw [sy6_my]
    exact FOK_sa h.1 ok hn hc0 hb1 hb3 hu
/-! what the reference keeps: lines, statements, calls -/
theorem cnL_up (f : Nat → Int32) (l : Nat) (x : Int32) : ∀ k, cnL (upd f l x) k ≤ cnL f k + 1 ∧ (k < l → cnL (upd f l x) k = cnL f k) ∧ (x = -1 ∨ ¬ f l = -1 → cnL (upd f l x) k ≤ cnL f k)
  | 0 => ⟨by show 0 ≤ 0 + 1; omega, fun _ => rfl, fun _ => Nat.le_refl _⟩
  | k + 1 => by
    obtain ⟨a, b, c⟩ := cnL_up f l x k
    have e : cnL (upd f l x) (k + 1) = cnL (upd f l x) k + (if upd f l x (k + 1) = -1 then 0 else 1) := rfl
    have e2 : cnL f (k + 1) = cnL f k + (if f (k + 1) = -1 then 0 else 1) := rfl
    by_cases g : k + 1 = l
    · have hb := b (by omega)
      have hx : (if upd f l x (k + 1) = -1 then 0 else 1) ≤ 1 := by split <;> omega
      refine ⟨by omega, fun h => absurd h (by omega), fun h => ?_⟩
      rw [e, e2, hb]
      rw [g, pk_us]
      rcases h with h | h
      · rw [if_pos h]; omega
      · rw [if_neg h]; split <;> omega
    · rw [pk_un g] at e
      refine ⟨by omega, fun h => ?_, fun h => ?_⟩
      · rw [e, e2, b (by omega)]
      · have := c h; omega
theorem LK_up {f g f' g' : Nat → Int32} {l : Nat} (hf : f' l = f l) (hg : ∀ i, i < 12 → g' (12 * l + i) = g (12 * l + i)) (h : LK f g l) : LK f' g' l := by
  rcases h with h | ⟨d, d1, d2, d3⟩
  · exact Or.inl (by rw [hf]; exact h)
  · exact Or.inr ⟨d, d1, by rw [hf]; exact d2, GL_cg (by omega) (fun i hi => (hg i (by omega)).symm) d3⟩
theorem fl12 {b : Nat} {v f : Nat → Int32} {i : Nat} (h : b ≤ i ∧ i < b + 12) : fl b 0 12 v f i = v (i - b) := by
  unfold fl
  rw [if_pos (by omega)]
theorem fl12o {b : Nat} {v f : Nat → Int32} {i : Nat} (h : i < b ∨ b + 12 ≤ i) : fl b 0 12 v f i = f i := by
  unfold fl
  rw [if_neg (by omega)]
theorem LK_new {f g v : Nat → Int32} {l d : Nat} (hd : d ≤ 12) (gl : GL v d) (h : ∀ l', 1 ≤ l' → l' < 100 → LK f g l') : ∀ l', 1 ≤ l' → l' < 100 → LK (upd f l (nI d)) (fl (12 * l) 0 12 v g) l' := by
  intro l' h1 h2
  by_cases e : l' = l
  · subst e
    refine Or.inr ⟨d, hd, pk_us, GL_cg (by omega) (fun i hi => ?_) gl⟩
    show v i = fl (12 * l') 0 12 v g (12 * l' + i)
    rw [fl12 (by omega), show 12 * l' + i - 12 * l' = i by omega]
  · exact LK_up (pk_un e) (fun i hi => fl12o (by omega)) (h l' h1 h2)
theorem ldN_fx (Y : RSt) (g : Nat → Int32) (a : Nat) : ∀ k, (ldN Y g a k).tn = Y.tn ∧ (ldN Y g a k).de = Y.de ∧ (ldN Y g a k).os = Y.os
  | 0 => ⟨rfl, rfl, rfl⟩
  | k + 1 => ldN_fx Y g a k
theorem ldN_LI (Y : RSt) {g : Nat → Int32} {n f c : Nat} (p : FP g n f c) : ∀ k, k ≤ c → cnL (ldN (lnAll Y (fun _ => -1)) g (16 * f) k).ln 99 ≤ k ∧ ∀ l, 1 ≤ l → l < 100 → LK (ldN (lnAll Y (fun _ => -1)) g (16 * f) k).ln (ldN (lnAll Y (fun _ => -1)) g (16 * f) k).ch l
  | 0, _ => ⟨by show cnL (fun _ => -1) 99 ≤ 0; rw [cnL_m1]; omega, fun l _ _ => Or.inl rfl⟩
  | k + 1, hk => by
    obtain ⟨i1, i2⟩ := ldN_LI Y p k (by omega)
    obtain ⟨l, d, q1, q2, q3, q4, q5⟩ := p.2.2.2.2.2.2.2 k hk
    show cnL (ld1 (ldN (lnAll Y (fun _ => -1)) g (16 * f) k) g (16 * f + 1 + 4 * k)).ln 99 ≤ k + 1 ∧ ∀ l, 1 ≤ l → l < 100 → LK (ld1 (ldN (lnAll Y (fun _ => -1)) g (16 * f) k) g (16 * f + 1 + 4 * k)).ln (ld1 (ldN (lnAll Y (fun _ => -1)) g (16 * f) k) g (16 * f + 1 + 4 * k)).ch l
    revert i1 i2
    generalize ldN (lnAll Y (fun _ => -1)) g (16 * f) k = M
    intro i1 i2
    have e16 : g (16 * f + 1 + 4 * k) / 16 = nI l := by rw [q4]; exact (pk_div (d := 16) (by omega) (by decide) (by decide)).trans (by rw [show (16 * l + d) / 16 = l by omega])
    have e17 : g (16 * f + 1 + 4 * k) - g (16 * f + 1 + 4 * k) / 16 * 16 = nI d := by rw [q4]; exact (pk_rem (d := 16) (by omega) (by decide) (by decide)).trans (by rw [show (16 * l + d) % 16 = d by omega])
    have e : ld1 M g (16 * f + 1 + 4 * k) = lcF M (upd M.ln l (nI d)) (fl (12 * l) 0 12 (chV g (16 * f + 1 + 4 * k)) M.ch) := by
      unfold ld1
      rw [e17, e16, nI_clamp (by omega)]
    rw [e]
    exact ⟨by have := (cnL_up M.ln l (nI d) 99).1; show cnL (upd M.ln l (nI d)) 99 ≤ k + 1; omega, LK_new q3 q5 i2⟩
theorem RI_ld {q : Nat} {Y : RSt} {n : Nat} (h : RI q Y) (hd : Y.de = 0) (hn : n < 8) : RI q (ldR Y n).2 := by
  unfold ldR
  by_cases c1 : Y.dk (16 + 2 * n) = 0
  · rw [if_pos c1]; exact h
  rw [if_neg c1]
  by_cases c2 : Y.dk (16 + 2 * n) = 16
  · rw [if_pos c2]; exact h
  rw [if_neg c2]
  obtain ⟨f, c, p⟩ := RI_rld h hd n hn c1 c2
  have ef : (Y.dk (17 + 2 * n)).toNatClampNeg = f := by rw [p.2.1]; exact nI_clamp (by have := p.2.2.2.2.2.1; omega)
  have ec : (Y.dk (16 * f)).toNatClampNeg = c := by rw [p.2.2.2.2.2.2.1]; exact nI_clamp (by have := p.2.2.2.1; omega)
  rw [ef, ec]
  have li := ldN_LI Y p c (Nat.le_refl _)
  have fx := ldN_fx (lnAll Y (fun _ => -1)) Y.dk (16 * f) c
  have dk := ldN_dk (lnAll Y (fun _ => -1)) Y.dk (16 * f) c
  revert li fx dk
  generalize ldN (lnAll Y (fun _ => -1)) Y.dk (16 * f) c = M
  intro li fx dk
  refine ⟨⟨?_, ?_, li.2⟩, DI_cg (Y := Y) dk fx.2.1 h.2.1, ?_⟩
  · show M.tn ≤ 15
    rw [fx.1]; exact h.1.1
  · show cnL M.ln 99 ≤ 10
    have := p.2.2.2.1
    have := li.1
    omega
  · show M.os ≤ q
    rw [fx.2.2]; exact h.2.2
theorem sm_sR0 (X : RSt) : smP X (sR0 X).2 := by
  have t := sm_st0 X
  unfold sR0
  revert t
  generalize st0 X = w
  intro t
  exact sm_mk (t.tr (sm_go _ _))
theorem sm_tx {Y Z : RSt} (h : smP Y Z) : Z.tx = Y.tx := (congrArg RSt.tx (show Z = mix Y Z from h) : RSt.tx Z = RSt.tx (mix Y Z))
theorem FX_gt (M : RSt) (x : Int32) (a d : Nat) : FX M (gtF M x a d) := ⟨rfl, rfl, rfl, rfl, rfl⟩
theorem GL_li {M Z : RSt} {d : Nat} (hd : d ≤ 15) (sz : smP (gtF M 0 M.at1 d) Z) (g2 : (sR0 (gtF M 0 M.at1 d)).2.go = Z.go) (c3 : ¬ Z.go = 0) : GL (liT Z M.at1 d) d := by
  have etx0 : Z.tx = (gtF M 0 M.at1 d).tx := sm_tx sz
  have etx : Z.tx = M.tx := etx0
  have s : SI (gtF M 0 M.at1 d) (mkT (fun i => M.tx (M.at1 + i)) d) := GL_of rfl rfl rfl (fun i hi => by
    show (if (0 : Int32) = 0 then M.tx (M.at1 + i) else _) = M.tx (M.at1 + i)
    rw [if_pos rfl])
  have e0 := (s.xsR0 hd).2
  have gl : GL (fun i => M.tx (M.at1 + i)) d := fun e => c3 (by rw [← g2, e0]; exact e)
  exact GL_cg hd (fun i hi => by
    show M.tx (M.at1 + i) = (if d ≤ i then 0 else Z.tx (M.at1 + i))
    rw [if_neg (by omega), etx]) gl
theorem RI_li3 {q : Nat} {Z : RSt} {l a d : Nat} (h2 : RI q Z) (hd : d ≤ 12) (gl : GL (liT Z a d) d) (hc : cnL (upd Z.ln l (nI d)) 99 ≤ 10) : RI q (li3 Z l a d) := ⟨⟨h2.1.1, hc, LK_new hd gl h2.1.2.2⟩, DI_cg (Y := Z) rfl rfl h2.2.1, h2.2.2⟩
theorem RI_liK {q : Nat} {M Z : RSt} {l d : Nat} {g9 : Int32} (h1 : RI q M) (hd15 : d ≤ 15) (sz : smP (gtF M 0 M.at1 d) Z) (g2 : (sR0 (gtF M 0 M.at1 d)).2.go = Z.go) : RI q (liK Z l M.at1 d g9).2 := by
  have h2 : RI q Z := (h1.fx (FX_gt M 0 M.at1 d) h1.2.2).sm sz
  unfold liK
  by_cases c3 : Z.go = 0
  · rw [if_pos c3]; exact ri_mk h2
  rw [if_neg c3]
  have gl := GL_li hd15 sz g2 c3
  by_cases c4 : nI d ≤ 12
  · rw [if_neg (fun g => g c4)]
    have hd12 : d ≤ 12 := (nI_leI (b := 12) (by omega) (by decide)).mp c4
    by_cases c5 : Z.ln l = -1
    · rw [if_neg (fun g => g c5)]
      by_cases c6 : nI (cnL Z.ln 99) = 10
      · rw [if_neg (fun g => g c6)]; exact ri_mk h2
      · rw [if_pos c6]
        refine ri_mk (RI_li3 h2 hd12 gl ?_)
        have a := (cnL_up Z.ln l (nI d) 99).1
        have b := h2.1.2.1
        have c : ¬ cnL Z.ln 99 = 10 := fun e => c6 (by rw [e]; rfl)
        omega
    · rw [if_pos c5]
      exact ri_mk (RI_li3 h2 hd12 gl (Nat.le_trans ((cnL_up Z.ln l (nI d) 99).2.2 (Or.inr c5)) h2.1.2.1))
  · rw [if_pos c4]; exact ri_mk h2
theorem RI_liD {q : Nat} {M : RSt} {l : Nat} (h1 : RI q M) : RI q (lnAll M (upd M.ln l (-1))) := by
  refine ⟨⟨h1.1.1, ?_, fun l' a b => ?_⟩, DI_cg (Y := M) rfl rfl h1.2.1, h1.2.2⟩
  · show cnL (upd M.ln l (-1)) 99 ≤ 10
    have := (cnL_up M.ln l (-1) 99).2.2 (Or.inl rfl)
    have := h1.1.2.1
    omega
  · show LK (upd M.ln l (-1)) M.ch l'
    by_cases e : l' = l
    · rw [e]; exact Or.inl pk_us
    · exact LK_up (pk_un e) (fun i _ => rfl) (h1.1.2.2 l' a b)
theorem RI_li1 {q : Nat} {Y : RSt} (h : RI q Y) : RI q (li1 Y).2 := by
  unfold li1
  exact (h.fx (FX_gt Y 0 0 Y.tn) h.2.2).sm (sm_ln _)
theorem RI_li {q : Nat} {Y : RSt} (h : RI q Y) : RI q (liR Y).2 := by
  have h1 := RI_li1 h
  have el : ∃ l, l ≤ 99 ∧ (li1 Y).1 = nI l := by unfold li1; exact lnF_in _
  unfold liR li2
  revert h1 el
  generalize li1 Y = w
  intro h1 el
  obtain ⟨l, hl, el⟩ := el
  by_cases c1 : w.2.go = 0
  · rw [if_neg (fun g => g c1)]; exact ri_mk h1
  rw [if_pos c1, el]
  by_cases c2 : nI (w.2.tn - w.2.at1) = 0
  · rw [if_neg (fun g => g c2)]; exact ri_mk (RI_liD h1)
  · rw [if_pos c2]
    exact RI_liK h1 (by have := h1.1.1; omega) (sm_sR0 _) rfl
theorem liN_fx (Y : RSt) : ∀ k, FX Y (liN Y k)
  | 0 => ⟨rfl, rfl, rfl, rfl, rfl⟩
  | k + 1 => by
    unfold liN
    split
    · exact liN_fx Y k
    · exact liN_fx Y k
theorem RI_cmd {q : Nat} {Y : RSt} (h : RI q Y) (hd : Y.de = 0) : RI (q + 16) (cmdR Y).2 := by
  unfold cmdR
  by_cases c0 : okF Y = 0
  · rw [if_neg (fun g => g c0)]; exact h.up (by omega)
  rw [if_pos c0]
  by_cases c1 : Y.tx 0 = 78
  · rw [if_pos c1]
    exact ⟨⟨h.1.1, by show cnL (fun _ => -1) 99 ≤ 10; rw [cnL_m1]; decide, fun l _ _ => Or.inl rfl⟩, DI_cg (Y := Y) rfl rfl h.2.1, Nat.le_trans h.2.2 (by omega)⟩
  rw [if_neg c1]
  by_cases c2 : Y.tx 0 = 67
  · rw [if_pos c2]
    exact h.up (by omega) |>.fx ⟨rfl, rfl, rfl, rfl, rfl⟩ (Nat.zero_le _)
  rw [if_neg c2]
  by_cases c3 : fmtv Y.dk = 0
  · rw [if_pos c3]; exact h.up (by omega)
  rw [if_neg c3]
  by_cases c4 : Y.tx 0 = 70
  · rw [if_pos c4]
    exact (h.up (q' := q + 16) (by omega)).fx (liN_fx Y 8) (by have := liN_os Y 8; have := h.2.2; show (liN Y 8).os ≤ q + 16; omega)
  rw [if_neg c4]
  obtain ⟨n, hn, en⟩ := okF_n c0 (by unfold plR; rw [if_neg c4, if_neg c1, if_pos c2])
  rw [en, nI_clamp (by omega)]
  by_cases c5 : Y.tx 0 = 83
  · rw [if_pos c5]; exact (RI_sa h hd hn c3).up (by omega)
  rw [if_neg c5]
  by_cases c6 : Y.tx 0 = 76
  · rw [if_pos c6]; exact (RI_ld h hd hn).up (by omega)
  rw [if_neg c6]
  exact (RI_dr h hn c3).up (by omega)
theorem RI_tn {q : Nat} {Y : RSt} (h : RI q Y) : RI q (tnF Y 0) := ⟨⟨Nat.zero_le _, h.1.2⟩, DI_cg (Y := Y) rfl rfl h.2.1, h.2.2⟩
theorem RI_th {q : Nat} {Y : RSt} (h : RI q Y) (x : Int32) : RI q (thF Y x) := h.fx ⟨rfl, rfl, rfl, rfl, rfl⟩ h.2.2
theorem RI_fd {q : Nat} {M : RSt} (h0 : RI q M) (d0 : M.de = 0) : RI (q + 16) (fdR M).2 := by
  unfold fdR
  by_cases c3 : nI M.tn = 0
  · rw [if_neg (fun g => g c3)]; exact ri_mk ((RI_tn h0).up (by omega))
  · rw [if_pos c3]
    by_cases c4 : dgt (M.tx 0) = 0
    · rw [if_pos c4]
      have t := RI_cmd h0 d0
      revert t
      generalize cmdR M = w
      intro t
      exact ri_mk (RI_tn t)
    · rw [if_neg c4]
      have t := RI_li h0
      revert t
      generalize liR M = w
      intro t
      exact ri_mk ((RI_tn t).up (by omega))
theorem RI_ke {q : Nat} {Y : RSt} (h : RI q Y) (x : Int32) (ht : ¬ 15 ≤ Y.tn) : RI q (keR Y x) := ⟨⟨by show Y.tn + 1 ≤ 15; omega, h.1.2⟩, DI_cg (Y := Y) rfl rfl h.2.1, h.2.2⟩
theorem RI_fe {q : Nat} {Y : RSt} (h : RI q Y) (x : Int32) : RI (q + 16) (feR Y x).2 := by
  have h0 := RI_th h 0
  have d0 : (thF Y 0).de = Y.de := rfl
  have t0 : (thF Y 0).tn = Y.tn := rfl
  unfold feR
  revert h0 d0 t0
  generalize thF Y 0 = M
  intro h0 d0 t0
  by_cases c1 : Y.de = 0
  · rw [if_pos c1]
    by_cases c2 : x = 10
    · rw [if_pos c2]
      exact RI_fd h0 (d0.trans c1)
    · rw [if_neg c2]
      by_cases c3 : 15 ≤ Y.tn
      · rw [if_pos c3]; exact ri_mk (h0.up (by omega))
      · rw [if_neg c3]; exact ri_mk ((RI_ke h0 x (by rw [t0]; exact c3)).up (by omega))
  · rw [if_neg c1]; exact ri_mk (h0.up (by omega))
theorem tl1_fx (Y : RSt) (t f : Int32) : FX Y (tl1 Y t f) ∧ (tl1 Y t f).os = Y.os := by
  unfold tl1
  split
  · exact ⟨⟨rfl, rfl, rfl, rfl, rfl⟩, rfl⟩
  · exact ⟨⟨rfl, rfl, rfl, rfl, rfl⟩, rfl⟩
theorem rr_fx (Y : RSt) (n : Nat) (i : Int32) (t : Nat) : FX Y (rrR Y n i t).2 ∧ (rrR Y n i t).2.os = Y.os := by
  unfold rrR
  repeat' split
  all_goals exact ⟨⟨rfl, rfl, rfl, rfl, rfl⟩, rfl⟩
theorem st_mk {q : Nat} {t f : Int32} {Z : RSt} (h : RI q Z ∧ (f = 0 → Z.de = 0)) : RI q ((t, f, Z) : Int32 × Int32 × RSt).2.2 ∧ (((t, f, Z) : Int32 × Int32 × RSt).2.1 = 0 → ((t, f, Z) : Int32 × Int32 × RSt).2.2.de = 0) := h
theorem st_mk2 {q : Nat} {t : Int32} {w : Int32 × RSt} (h : RI q w.2 ∧ (w.1 = 0 → w.2.de = 0)) : RI q ((t, w) : Int32 × Int32 × RSt).2.2 ∧ (((t, w) : Int32 × Int32 × RSt).2.1 = 0 → ((t, w) : Int32 × Int32 × RSt).2.2.de = 0) := h
theorem RI_st1 {q : Nat} {Y : RSt} (h : RI q Y) (hd : Y.de = 0) (hw : wrP Y) (t : Int32) : RI (q + 1) (st1 Y t).2.2 ∧ ((st1 Y t).2.1 = 0 → (st1 Y t).2.2.de = 0) := by
  have up := h.up (q' := q + 1) (by omega)
  have sm : ∀ {Z : RSt}, smP Y Z → RI (q + 1) Z ∧ Z.de = 0 := fun s => ⟨up.sm s, (sm_fx s).2.2.2.2.trans hd⟩
  unfold st1
  by_cases a : asB (hrF Y) (bhF Y) = 0
  · rw [if_neg (fun g => g a)]
    by_cases b : hrF Y = 80
    · rw [if_pos b]
      have s := (sm_at Y).tr (sm_va (atF Y))
      revert s
      generalize vaF (atF Y) = w
      intro s
      obtain ⟨r, d⟩ := sm s
      exact st_mk ⟨r.fx ⟨rfl, rfl, rfl, rfl, rfl⟩ (by show w.2.os + 1 ≤ q + 1; rw [sm_os s]; have := h.2.2; omega), fun _ => d⟩
    rw [if_neg b]
    by_cases b : hrF Y = 73
    · rw [if_pos b]; exact st_mk ⟨(sm (sm_I4 Y)).1, fun _ => (sm (sm_I4 Y)).2⟩
    rw [if_neg b]
    by_cases b : hrF Y = 71
    · rw [if_pos b]; exact st_mk ⟨(sm ((sm_at Y).tr (sm_ln _))).1, fun _ => (sm ((sm_at Y).tr (sm_ln _))).2⟩
    rw [if_neg b]
    by_cases b : hrF Y = 69
    · rw [if_pos b]; exact st_mk ⟨(sm (sm_at Y)).1, fun _ => hd⟩
    rw [if_neg b]
    by_cases b : hrF Y = 87
    · rw [if_pos b]
      obtain ⟨n, hn, en, _, _⟩ := hw (Or.inl b)
      rw [en, nI_clamp (by omega)]
      have s := (sm_W3 Y).tr (sm_va (iW3 Y))
      revert s
      generalize vaF (iW3 Y) = w
      intro s
      obtain ⟨r, d⟩ := sm s
      exact st_mk2 (RI_rw r d hn)
    rw [if_neg b]
    by_cases b : hrF Y = 82
    · rw [if_pos b]
      have s := sm_R4 Y
      revert s
      generalize iR4 Y = M
      intro s
      obtain ⟨r, d⟩ := sm s
      have f := rr_fx M (dgF (atF Y)).1.toNatClampNeg (iW2 Y).1 (hrF (iW3 Y) - 65).toNatClampNeg
      exact st_mk2 ⟨r.fx f.1 (by rw [f.2]; exact r.2.2), fun _ => f.1.2.2.2.2.trans d⟩
    rw [if_neg b]
    exact st_mk ⟨(sm ((sm_at Y).tr (sm_go _ 0))).1, fun _ => hd⟩
  · rw [if_pos a]
    have s := ((sm_at Y).tr (sm_mu _ 61)).tr (sm_va (muF (atF Y) 61))
    revert s
    generalize vaF (muF (atF Y) 61) = w
    intro s
    obtain ⟨r, d⟩ := sm s
    exact st_mk ⟨r.fx ⟨rfl, rfl, rfl, rfl, rfl⟩ r.2.2, fun _ => d⟩
theorem RI_wr {q : Nat} {Y : RSt} (h : RI q Y) (hd : Y.de = 0) {l : Nat} (h1 : 1 ≤ l) (h2 : l < 100) (hn : ¬ Y.ln l = -1) : ∃ d, d ≤ 12 ∧ Y.ln l = nI d ∧ wrP (gtF Y 1 (12 * l) d) := by
  obtain ⟨d, d1, d2, d3⟩ := (h.1.2.2 l h1 h2).resolve_left hn
  refine ⟨d, d1, d2, GL_wr (d := d) (t := fun i => Y.ch (12 * l + i)) (by omega) (GL_of rfl rfl rfl (fun i hi => ?_)) d3 (fun n hn e => ?_)⟩
  · show (if (1 : Int32) = 0 then _ else Y.ch (12 * l + i)) = Y.ch (12 * l + i)
    rw [if_neg (by decide)]
  · obtain ⟨f, f1, f2, f3⟩ := RI_hrec h hd n hn e
    exact ⟨f, f2, f3⟩
def JK (q k : Nat) (Y : RSt) : Prop := RI (q + k) Y ∧ Y.de = 0 ∧ q + k < 1000000
theorem JK_sp {q k : Nat} {Y : RSt} (h : JK q k Y) : SP Y := by
  refine ⟨by have := h.1.2.2; have := h.2.2; omega, fun l hl e => ?_⟩
  rcases nlF_in Y with g | ⟨l', a, b, c, d⟩
  · exact absurd (show nI l < 0 by rw [← e, g]; decide) (nI_pos (by omega))
  · have : l = l' := (nI_eq (by omega) (by omega)).mp (e.symm.trans c)
    subst this
    exact RI_wr h.1 h.2.1 a b d
theorem JK_nx {q k : Nat} {Y : RSt} (h : RI (q + k) Y) (hd : Y.de = 0) (hn : ¬ nlF Y = -1) : RI (q + k + 1) (sN Y (nlF Y).toNatClampNeg).2 ∧ ((sN Y (nlF Y).toNatClampNeg).1 = 0 → (sN Y (nlF Y).toNatClampNeg).2.de = 0) := by
  obtain ⟨l, a, b, c, d⟩ := (nlF_in Y).resolve_left hn
  rw [c, nI_clamp (by omega)]
  obtain ⟨d9, e1, e2, e3⟩ := RI_wr h hd a b d
  unfold sN
  rw [e2, nI_clamp (by omega)]
  have r := RI_st1 (Y := gtF Y 1 (12 * l) d9) (h.fx ⟨rfl, rfl, rfl, rfl, rfl⟩ h.2.2) hd e3 (nI (l + 1))
  have f := tl1_fx (st1 (gtF Y 1 (12 * l) d9) (nI (l + 1))).2.2 (st1 (gtF Y 1 (12 * l) d9) (nI (l + 1))).1 (st1 (gtF Y 1 (12 * l) d9) (nI (l + 1))).2.1
  unfold sR1
  revert r f
  generalize st1 (gtF Y 1 (12 * l) d9) (nI (l + 1)) = w
  intro r f
  exact ⟨r.1.fx f.1 (by rw [f.2]; exact r.1.2.2), fun e => f.1.2.2.2.2.trans (r.2 e)⟩
theorem RI_ssL {q : Nat} : ∀ (f k : Nat) {Y : RSt}, RI (q + k) Y → Y.de = 0 → RI (q + k + f) (ssL f Y).2
  | 0, _, _, h, _ => h
  | f + 1, k, Y, h, hd => by
    unfold ssL
    by_cases c1 : nlF Y = -1
    · rw [if_pos c1]
      exact (h.up (q' := q + k + (f + 1)) (by omega)).fx ⟨rfl, rfl, rfl, rfl, rfl⟩ (by have := h.2.2; show Y.os ≤ q + k + (f + 1); omega)
    · rw [if_neg c1]
      have r := JK_nx h hd c1
      revert r
      generalize sN Y (nlF Y).toNatClampNeg = w
      intro r
      by_cases c2 : w.1 = 0
      · rw [if_pos c2]
        have t := RI_ssL f (k + 1) (Y := w.2) r.1 (r.2 c2)
        rw [show q + (k + 1) + f = q + k + (f + 1) by omega] at t
        exact t
      · rw [if_neg c2]
        exact ri_mk (r.1.up (by omega))
theorem RI_ss {q : Nat} {Y : RSt} (h : RI q Y) (x : Int32) : RI (q + 50) (ssR Y x).2 := by
  unfold ssR
  by_cases c1 : Y.de = 0
  · rw [if_pos c1]
    obtain ⟨j, hj, e⟩ := moR_in x
    rw [e, nI_clamp (by omega)]
    have t := RI_ssL j 0 (Y := thF Y 0) (RI_th h 0) c1
    exact t.up (by omega)
  · rw [if_neg c1]; exact (RI_th h 0).up (by omega)
