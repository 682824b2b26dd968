/-! the disk: what a log does, wherever the power fails -/
def apN (g : Nat → Int32) (t : Nat → Nat) (v : Nat → Int32) : Nat → (Nat → Int32)
  | 0 => g
  | k + 1 => fl (16 * t k) 0 16 (fun i => v (16 * k + i)) (apN g t v k)
theorem fl_in {b : Nat} {v f : Nat → Int32} {i : Nat} (h : b ≤ i ∧ i < b + 16) : fl b 0 16 v f i = v (i - b) := by
  unfold fl
  rw [if_pos (by omega)]
theorem fl_out {b : Nat} {v f : Nat → Int32} {i : Nat} (h : i < b ∨ b + 16 ≤ i) : fl b 0 16 v f i = f i := by
  unfold fl
  rw [if_neg (by omega)]
theorem apN_cg {X Y : Nat → Int32} {t : Nat → Nat} {v : Nat → Int32} : ∀ (m i : Nat), (X i = Y i ∨ ∃ j, j < m ∧ 16 * t j ≤ i ∧ i < 16 * t j + 16) → apN X t v m i = apN Y t v m i
  | 0, i, h => by
    rcases h with h | ⟨j, hj, _⟩
    · exact h
    · exact absurd hj (by omega)
  | m + 1, i, h => by
    show fl (16 * t m) 0 16 _ (apN X t v m) i = fl (16 * t m) 0 16 _ (apN Y t v m) i
    by_cases g : 16 * t m ≤ i ∧ i < 16 * t m + 16
    · rw [fl_in g, fl_in g]
    · rw [fl_out (by omega), fl_out (by omega)]
      refine apN_cg m i ?_
      rcases h with h | ⟨j, hj, a, b⟩
      · exact Or.inl h
      · by_cases e : j = m
        · subst e; exact absurd ⟨a, b⟩ g
        · exact Or.inr ⟨j, by omega, a, b⟩
theorem apN_or (X : Nat → Int32) (t : Nat → Nat) (v : Nat → Int32) : ∀ (k i : Nat), apN X t v k i = X i ∨ ∃ j, j < k ∧ 16 * t j ≤ i ∧ i < 16 * t j + 16
  | 0, _ => Or.inl rfl
  | k + 1, i => by
    by_cases g : 16 * t k ≤ i ∧ i < 16 * t k + 16
    · exact Or.inr ⟨k, by omega, g⟩
    · rcases apN_or X t v k i with h | ⟨j, hj, h⟩
      · exact Or.inl (by show fl (16 * t k) 0 16 _ (apN X t v k) i = X i; rw [fl_out (by omega)]; exact h)
      · exact Or.inr ⟨j, by omega, h⟩
theorem apN_id {X : Nat → Int32} {t : Nat → Nat} {v : Nat → Int32} {k m : Nat} (h : k ≤ m) (i : Nat) : apN (apN X t v k) t v m i = apN X t v m i := by
  refine apN_cg m i ?_
  rcases apN_or X t v k i with e | ⟨j, hj, e⟩
  · exact Or.inl e
  · exact Or.inr ⟨j, by omega, e⟩
theorem apN_tv {X : Nat → Int32} {t t' : Nat → Nat} {v v' : Nat → Int32} : ∀ (m : Nat), (∀ j, j < m → t j = t' j) → (∀ i, i < 16 * m → v i = v' i) → apN X t v m = apN X t' v' m
  | 0, _, _ => rfl
  | m + 1, h1, h2 => by
    show fl (16 * t m) 0 16 _ (apN X t v m) = fl (16 * t' m) 0 16 _ (apN X t' v' m)
    rw [apN_tv m (fun j hj => h1 j (by omega)) (fun i hi => h2 i (by omega)), h1 m (by omega)]
    exact fl_cg (fun i hi => h2 _ (by omega))
def REL (i : Nat) : Prop := (16 ≤ i ∧ i < 32) ∨ (144 ≤ i ∧ i < 512)
def tgt (t : Nat) : Prop := t = 1 ∨ (9 ≤ t ∧ t < 32)
def LG (g : Nat → Int32) (n : Nat) : Prop := n ≤ 6 ∧ g 32 = nI n ∧ ∀ k, k < n → ∃ t, g (33 + k) = nI t ∧ tgt t
def DV (g h : Nat → Int32) : Prop := ∃ n, LG g n ∧ ∀ i, REL i → apN g (fun k => (g (33 + k)).toNatClampNeg) (fun i => g (48 + i)) n i = h i
theorem DV_0 {g h : Nat → Int32} (h0 : g 32 = 0) (h1 : ∀ i, REL i → g i = h i) : DV g h := ⟨0, ⟨by decide, h0, fun k hk => absurd hk (by omega)⟩, h1⟩
theorem wt_cases (Y : RSt) (n : Nat) (v : Nat → Int32) : (¬ Y.de = 0 ∧ wtF Y n v = Y) ∨ (Y.de = 0 ∧ wtF Y n v = dsF Y) ∨ (Y.de = 0 ∧ wtF Y n v = dkF (wt1 Y) (fl (16 * n) 0 16 v Y.dk)) := by
  unfold wtF
  by_cases h : Y.de = 0
  · rw [if_pos h]
    by_cases h2 : Y.ar = 0
    · rw [if_neg (fun g => g h2)]; exact Or.inr (Or.inl ⟨h, rfl⟩)
    · rw [if_pos h2]; exact Or.inr (Or.inr ⟨h, rfl⟩)
  · rw [if_neg h]; exact Or.inl ⟨h, rfl⟩
theorem dk_W (Y : RSt) (f : Nat → Int32) : (dkF Y f).dk = f := rfl
theorem ds_de (Y : RSt) : ¬ (dsF Y).de = 0 := by
  show ¬ (1 : Int32) = 0
  decide
def Dd (g0 h1 h : Nat → Int32) (Z : RSt) : Prop := ¬ Z.de = 0 ∧ Z.dk 0 = g0 0 ∧ (DV Z.dk h1 ∨ DV Z.dk h)
theorem Dd.wt {g0 h1 h : Nat → Int32} {Z : RSt} (d : Dd g0 h1 h Z) (n : Nat) (v : Nat → Int32) : Dd g0 h1 h (wtF Z n v) := by
  rcases wt_cases Z n v with ⟨_, e⟩ | ⟨a, _⟩ | ⟨a, _⟩
  · rw [e]; exact d
  · exact absurd a d.1
  · exact absurd a d.1
def PA (g0 v : Nat → Int32) (k : Nat) (Z : RSt) : Prop := Z.de = 0 ∧ Z.dk 0 = g0 0 ∧ Z.dk 32 = 0 ∧ (∀ i, REL i → Z.dk i = g0 i) ∧ ∀ i, i < 16 * k → Z.dk (48 + i) = v i
def PB (g0 : Nat → Int32) (w v : Nat → Int32) (m k : Nat) (Z : RSt) : Prop := Z.de = 0 ∧ Z.dk 0 = g0 0 ∧ Z.dk 32 = nI m ∧ (∀ j, j < m → Z.dk (33 + j) = w j) ∧ (∀ i, i < 16 * m → Z.dk (48 + i) = v i) ∧ ∀ i, REL i → Z.dk i = apN g0 (fun k => (w k).toNatClampNeg) v k i
def PC (g0 h : Nat → Int32) (Z : RSt) : Prop := Z.de = 0 ∧ Z.dk 0 = g0 0 ∧ Z.dk 32 = 0 ∧ ∀ i, REL i → Z.dk i = h i
def hN (g0 w v : Nat → Int32) (m : Nat) : Nat → Int32 := apN g0 (fun k => (w k).toNatClampNeg) v m
theorem PA_wt {g0 v h : Nat → Int32} {k : Nat} {Z : RSt} (hk : k < 6) (p : PA g0 v k Z) : Dd g0 g0 h (wtF Z (3 + k) (fun i => v (16 * k + i))) ∨ PA g0 v (k + 1) (wtF Z (3 + k) (fun i => v (16 * k + i))) := by
  obtain ⟨p1, p2, p3, p4, p5⟩ := p
  rcases wt_cases Z (3 + k) (fun i => v (16 * k + i)) with ⟨a, _⟩ | ⟨_, e⟩ | ⟨_, e⟩
  · exact absurd p1 a
  · rw [e]
    exact Or.inl ⟨ds_de Z, p2, Or.inl (DV_0 p3 p4)⟩
  · rw [e]
    refine Or.inr ⟨p1, ?_, ?_, fun i hi => ?_, fun i hi => ?_⟩
    · rw [dk_W, fl_out (by omega)]; exact p2
    · rw [dk_W, fl_out (by omega)]; exact p3
    · have hi : (16 ≤ i ∧ i < 32) ∨ (144 ≤ i ∧ i < 512) := hi
      rw [dk_W, fl_out (by omega)]; exact p4 i hi
    · show fl (16 * (3 + k)) 0 16 (fun i => v (16 * k + i)) Z.dk (48 + i) = v i
      by_cases c : 16 * k ≤ i
      · rw [fl_in (by omega)]
        show v (16 * k + (48 + i - 16 * (3 + k))) = v i
        rw [show 16 * k + (48 + i - 16 * (3 + k)) = i by omega]
      · rw [fl_out (by omega)]; exact p5 i (by omega)
theorem PB_DV {g0 w v : Nat → Int32} {m k : Nat} {Z : RSt} (hm : m ≤ 6) (ht : ∀ k, k < m → ∃ t, w k = nI t ∧ tgt t) (hk : k ≤ m) (p : PB g0 w v m k Z) : DV Z.dk (hN g0 w v m) := by
  obtain ⟨p1, p2, p3, p4, p5, p6⟩ := p
  refine ⟨m, ⟨hm, p3, fun k hk => ?_⟩, fun i hi => ?_⟩
  · rw [p4 k hk]; exact ht k hk
  · rw [apN_tv (t' := fun k => (w k).toNatClampNeg) (v' := v) m (fun j hj => by rw [p4 j hj]) p5]
    rw [apN_cg (Y := apN g0 (fun k => (w k).toNatClampNeg) v k) m i (Or.inl (p6 i hi))]
    exact apN_id hk i
theorem PB_wt {g0 h1 w v : Nat → Int32} {m k : Nat} {Z : RSt} (hm : m ≤ 6) (ht : ∀ k, k < m → ∃ t, w k = nI t ∧ tgt t) (hk : k < m) (p : PB g0 w v m k Z) : Dd g0 h1 (hN g0 w v m) (wtF Z (w k).toNatClampNeg (fun i => v (16 * k + i))) ∨ PB g0 w v m (k + 1) (wtF Z (w k).toNatClampNeg (fun i => v (16 * k + i))) := by
  have dv := PB_DV hm ht (by omega) p
  obtain ⟨p1, p2, p3, p4, p5, p6⟩ := p
  obtain ⟨t, et, tt⟩ := ht k hk
  have htt : t = 1 ∨ (9 ≤ t ∧ t < 32) := tt
  have ec : (w k).toNatClampNeg = t := by rw [et]; exact nI_clamp (by omega)
  rcases wt_cases Z (w k).toNatClampNeg (fun i => v (16 * k + i)) with ⟨a, _⟩ | ⟨_, e⟩ | ⟨_, e⟩
  · exact absurd p1 a
  · rw [e]
    exact Or.inl ⟨ds_de Z, p2, Or.inr dv⟩
  · rw [e, ec]
    refine Or.inr ⟨p1, ?_, ?_, fun j hj => ?_, fun i hi => ?_, fun i hi => ?_⟩
    · rw [dk_W, fl_out (by omega)]; exact p2
    · rw [dk_W, fl_out (by omega)]; exact p3
    · rw [dk_W, fl_out (by omega)]; exact p4 j hj
    · rw [dk_W, fl_out (by omega)]; exact p5 i hi
    · show fl (16 * t) 0 16 (fun i => v (16 * k + i)) Z.dk i = fl (16 * (w k).toNatClampNeg) 0 16 (fun i => v (16 * k + i)) (apN g0 (fun k => (w k).toNatClampNeg) v k) i
      rw [ec]
      by_cases c : 16 * t ≤ i ∧ i < 16 * t + 16
      · rw [fl_in c, fl_in c]
      · rw [fl_out (by omega), fl_out (by omega)]; exact p6 i hi
theorem PB_end {g0 h1 w v : Nat → Int32} {m : Nat} {Z : RSt} (hm : m ≤ 6) (ht : ∀ k, k < m → ∃ t, w k = nI t ∧ tgt t) (p : PB g0 w v m m Z) : Dd g0 h1 (hN g0 w v m) (wtF Z 2 (fun _ => 0)) ∨ PC g0 (hN g0 w v m) (wtF Z 2 (fun _ => 0)) := by
  have dv := PB_DV hm ht (Nat.le_refl _) p
  obtain ⟨p1, p2, p3, p4, p5, p6⟩ := p
  rcases wt_cases Z 2 (fun _ => 0) with ⟨a, _⟩ | ⟨_, e⟩ | ⟨_, e⟩
  · exact absurd p1 a
  · rw [e]
    exact Or.inl ⟨ds_de Z, p2, Or.inr dv⟩
  · rw [e]
    refine Or.inr ⟨p1, ?_, ?_, fun i hi => ?_⟩
    · rw [dk_W, fl_out (by omega)]; exact p2
    · rw [dk_W, fl_in (by omega)]
    · have hi' : (16 ≤ i ∧ i < 32) ∨ (144 ≤ i ∧ i < 512) := hi
      rw [dk_W, fl_out (by omega)]; exact p6 i hi
theorem cm_res {Y : RSt} (hd : Y.de = 0) (h0 : Y.dk 32 = 0) (hm : Y.my ≤ 6) (ht : ∀ k, k < Y.my → ∃ t, Y.wh k = nI t ∧ tgt t) : Dd Y.dk Y.dk (hN Y.dk Y.wh Y.ce Y.my) (cm2 Y) ∨ PC Y.dk (hN Y.dk Y.wh Y.ce Y.my) (cm2 Y) := by
  have hA : ∀ k, k ≤ Y.my → Dd Y.dk Y.dk (hN Y.dk Y.wh Y.ce Y.my) (wA Y k) ∨ PA Y.dk Y.ce k (wA Y k) := by
    intro k
    induction k with
    | zero => exact fun _ => Or.inr ⟨hd, rfl, h0, fun i _ => rfl, fun i hi => absurd hi (by omega)⟩
    | succ k ih =>
      intro hk
      rcases ih (by omega) with d | p
      · exact Or.inl (d.wt _ _)
      · exact PA_wt (by omega) p
  have hH : Dd Y.dk Y.dk (hN Y.dk Y.wh Y.ce Y.my) (cm1 Y) ∨ PB Y.dk Y.wh Y.ce Y.my 0 (cm1 Y) := by
    rcases hA Y.my (Nat.le_refl _) with d | p
    · exact Or.inl (d.wt _ _)
    · obtain ⟨p1, p2, p3, p4, p5⟩ := p
      have sm := wA_my Y Y.my
      show Dd _ _ _ (wtF (wA Y Y.my) 2 (hdS (wA Y Y.my))) ∨ PB _ _ _ _ 0 (wtF (wA Y Y.my) 2 (hdS (wA Y Y.my)))
      rcases wt_cases (wA Y Y.my) 2 (hdS (wA Y Y.my)) with ⟨a, _⟩ | ⟨_, e⟩ | ⟨_, e⟩
      · exact absurd p1 a
      · rw [e]
        exact Or.inl ⟨ds_de _, p2, Or.inl (DV_0 p3 p4)⟩
      · rw [e]
        refine Or.inr ⟨p1, ?_, ?_, fun j hj => ?_, fun i hi => ?_, fun i hi => ?_⟩
        · rw [dk_W, fl_out (by omega)]; exact p2
        · show fl (16 * 2) 0 16 (hdS (wA Y Y.my)) (wA Y Y.my).dk 32 = nI Y.my
          rw [fl_in (by omega)]
          show hdS (wA Y Y.my) 0 = nI Y.my
          unfold hdS
          rw [if_pos rfl, sm.1]
        · show fl (16 * 2) 0 16 (hdS (wA Y Y.my)) (wA Y Y.my).dk (33 + j) = Y.wh j
          rw [fl_in (by omega), show 33 + j - 16 * 2 = j + 1 by omega]
          unfold hdS
          rw [if_neg (by omega), if_neg (by rw [sm.1]; omega), sm.2.1]
          rfl
        · rw [dk_W, fl_out (by omega)]; exact p5 i hi
        · have hi' : (16 ≤ i ∧ i < 32) ∨ (144 ≤ i ∧ i < 512) := hi
          rw [dk_W, fl_out (by omega)]; exact p4 i hi
  have s1 := cm1_my Y
  have hB : ∀ k, k ≤ Y.my → Dd Y.dk Y.dk (hN Y.dk Y.wh Y.ce Y.my) (wB (cm1 Y) k) ∨ PB Y.dk Y.wh Y.ce Y.my k (wB (cm1 Y) k) := by
    intro k
    induction k with
    | zero => exact fun _ => hH
    | succ k ih =>
      intro hk
      rcases ih (by omega) with d | p
      · exact Or.inl (d.wt _ _)
      · show Dd _ _ _ (wtF (wB (cm1 Y) k) ((cm1 Y).wh k).toNatClampNeg (fun i => (cm1 Y).ce (16 * k + i))) ∨ PB _ _ _ _ (k + 1) (wtF (wB (cm1 Y) k) ((cm1 Y).wh k).toNatClampNeg (fun i => (cm1 Y).ce (16 * k + i)))
        rw [s1.2.1, s1.2.2]
        exact PB_wt hm ht (by omega) p
  show Dd _ _ _ (wtF (wB (cm1 Y) (cm1 Y).my) 2 (fun _ => 0)) ∨ PC _ _ (wtF (wB (cm1 Y) (cm1 Y).my) 2 (fun _ => 0))
  rw [s1.1]
  rcases hB Y.my (Nat.le_refl _) with d | p
  · exact Or.inl (d.wt _ _)
  · exact PB_end hm ht p
theorem Dd_ce {g0 h1 h : Nat → Int32} {Z : RSt} (f : Nat → Int32) (d : Dd g0 h1 h Z) : Dd g0 h1 h (ceF Z f) := d
theorem PB_ce {g0 w v : Nat → Int32} {m k : Nat} {Z : RSt} (f : Nat → Int32) (p : PB g0 w v m k Z) : PB g0 w v m k (ceF Z f) := p
theorem rp_res {Y : RSt} {n : Nat} (hd : Y.de = 0) (lg : LG Y.dk n) : Dd Y.dk (hN Y.dk (fun k => Y.dk (33 + k)) (fun i => Y.dk (48 + i)) n) (hN Y.dk (fun k => Y.dk (33 + k)) (fun i => Y.dk (48 + i)) n) (wtF (rpR Y n) 2 (fun _ => 0)) ∨ PC Y.dk (hN Y.dk (fun k => Y.dk (33 + k)) (fun i => Y.dk (48 + i)) n) (wtF (rpR Y n) 2 (fun _ => 0)) := by
  obtain ⟨hn, h32, ht⟩ := lg
  have hB : ∀ k, k ≤ n → Dd Y.dk (hN Y.dk (fun k => Y.dk (33 + k)) (fun i => Y.dk (48 + i)) n) (hN Y.dk (fun k => Y.dk (33 + k)) (fun i => Y.dk (48 + i)) n) (rpR Y k) ∨ PB Y.dk (fun k => Y.dk (33 + k)) (fun i => Y.dk (48 + i)) n k (rpR Y k) := by
    intro k
    induction k with
    | zero => exact fun _ => Or.inr ⟨hd, rfl, h32, fun j _ => rfl, fun i _ => rfl, fun i _ => rfl⟩
    | succ k ih =>
      intro hk
      have ev : (fun i => Y.dk (48 + 16 * k + i)) = (fun i => Y.dk (48 + (16 * k + i))) := by funext i; rw [Nat.add_assoc]
      show Dd _ _ _ (wtF (ceF (rpR Y k) _) (Y.dk (33 + k)).toNatClampNeg (fun i => Y.dk (48 + 16 * k + i))) ∨ PB _ _ _ _ (k + 1) (wtF (ceF (rpR Y k) _) (Y.dk (33 + k)).toNatClampNeg (fun i => Y.dk (48 + 16 * k + i)))
      rw [ev]
      rcases ih (by omega) with d | p
      · exact Or.inl ((Dd_ce _ d).wt _ _)
      · exact PB_wt (w := fun k => Y.dk (33 + k)) (v := fun i => Y.dk (48 + i)) hn ht (by omega) (PB_ce _ p)
  rcases hB n (Nat.le_refl _) with d | p
  · exact Or.inl (d.wt _ _)
  · exact PB_end hn ht p
