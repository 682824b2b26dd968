/-! the disk: files -/
def bl (c : Nat) : Nat := (1 + 4 * c + 15) / 16
def FP (h : Nat → Int32) (n f c : Nat) : Prop := h (16 + 2 * n) = nI (1 + 4 * c) ∧ h (17 + 2 * n) = nI f ∧ 1 ≤ c ∧ c ≤ 10 ∧ 9 ≤ f ∧ f + bl c ≤ 32 ∧ h (16 * f) = nI c ∧ ∀ k, k < c → ∃ l d, 1 ≤ l ∧ l < 100 ∧ d ≤ 12 ∧ h (16 * f + 1 + 4 * k) = nI (16 * l + d) ∧ GL (chV h (16 * f + 1 + 4 * k)) d
def FR (h : Nat → Int32) (n f : Nat) : Prop := h (16 + 2 * n) = 16 ∧ h (17 + 2 * n) = nI f ∧ 9 ≤ f ∧ f < 32
def OC (h : Nat → Int32) (n b : Nat) : Prop := ∃ f, h (17 + 2 * n) = nI f ∧ f < 32 ∧ ((h (16 + 2 * n) = 16 ∧ b = f) ∨ ∃ c, 1 ≤ c ∧ c ≤ 10 ∧ h (16 + 2 * n) = nI (1 + 4 * c) ∧ f ≤ b ∧ b < f + bl c)
def FOK (h : Nat → Int32) : Prop := (∀ n, n < 8 → h (16 + 2 * n) = 0 ∨ (∃ f, FR h n f) ∨ ∃ f c, FP h n f c) ∧ ∀ n n' b, n < 8 → n' < 8 → n ≠ n' → OC h n b → OC h n' b → False
theorem chV_cg {h h' : Nat → Int32} {a i : Nat} (e : ∀ j, a ≤ j → j < a + 4 → h j = h' j) (hi : i < 12) : chV h a i = chV h' a i := by
  unfold chV
  rw [e (a + 1 + i / 4) (by omega) (by omega)]
theorem FP_cg {h h' : Nat → Int32} {n f c : Nat} (e1 : h (16 + 2 * n) = h' (16 + 2 * n)) (e2 : h (17 + 2 * n) = h' (17 + 2 * n)) (e : ∀ i, 16 * f ≤ i → i < 16 * (f + bl c) → h i = h' i) (p : FP h n f c) : FP h' n f c := by
  obtain ⟨p1, p2, p3, p4, p5, p6, p7, p8⟩ := p
  have hb : 1 + 4 * c ≤ 16 * bl c := by unfold bl; omega
  refine ⟨by rw [← e1]; exact p1, by rw [← e2]; exact p2, p3, p4, p5, p6, by rw [← e _ (Nat.le_refl _) (by omega)]; exact p7, fun k hk => ?_⟩
  obtain ⟨l, d, q1, q2, q3, q4, q5⟩ := p8 k hk
  refine ⟨l, d, q1, q2, q3, by rw [← e _ (by omega) (by omega)]; exact q4, ?_⟩
  exact GL_cg (by omega) (fun i hi => chV_cg (fun j a b => e j (by omega) (by omega)) (by omega)) q5
theorem OC_cg {h h' : Nat → Int32} {n b : Nat} (e1 : h (16 + 2 * n) = h' (16 + 2 * n)) (e2 : h (17 + 2 * n) = h' (17 + 2 * n)) (p : OC h n b) : OC h' n b := by
  unfold OC at p ⊢
  rw [← e1, ← e2]
  exact p
theorem FP_OC {h : Nat → Int32} {n f c b : Nat} (p : FP h n f c) (h1 : f ≤ b) (h2 : b < f + bl c) : OC h n b := by
  have h3 : 1 ≤ bl c := by unfold bl; omega
  exact ⟨f, p.2.1, by have := p.2.2.2.2.2.1; omega, Or.inr ⟨c, p.2.2.1, p.2.2.2.1, p.1, h1, h2⟩⟩
theorem FOK_new {h h' : Nat → Int32} {n q m : Nat} (hn : n < 8) (ok : FOK h) (hd : ∀ n', n' < 8 → n' ≠ n → h (16 + 2 * n') = h' (16 + 2 * n') ∧ h (17 + 2 * n') = h' (17 + 2 * n')) (hb : ∀ i, 144 ≤ i → i < 512 → (i < 16 * q ∨ 16 * (q + m) ≤ i) → h i = h' i) (hu : ∀ n', n' < 8 → n' ≠ n → ∀ k, k < m → ¬ OC h n' (q + k)) (hN : h' (16 + 2 * n) = 0 ∨ (∃ f, FR h' n f) ∨ ∃ f c, FP h' n f c) (hO : ∀ b, OC h' n b → q ≤ b ∧ b < q + m) : FOK h' := by
  refine ⟨fun n' hn' => ?_, fun n1 n2 b h1 h2 hne o1 o2 => ?_⟩
  · by_cases e : n' = n
    · subst e; exact hN
    · obtain ⟨d1, d2⟩ := hd n' hn' e
      rcases ok.1 n' hn' with a | ⟨f, a⟩ | ⟨f, c, a⟩
      · exact Or.inl (by rw [← d1]; exact a)
      · exact Or.inr (Or.inl ⟨f, by rw [← d1]; exact a.1, by rw [← d2]; exact a.2.1, a.2.2⟩)
      · refine Or.inr (Or.inr ⟨f, c, FP_cg d1 d2 (fun i a1 a2 => hb i ?_ ?_ ?_) a⟩)
        · have := a.2.2.2.2.1; omega
        · have := a.2.2.2.2.2.1; omega
        · have p5 := a.2.2.2.2.1
          rcases Nat.lt_or_ge i (16 * q) with g | g
          · exact Or.inl g
          · rcases Nat.lt_or_ge i (16 * (q + m)) with g2 | g2
            · exfalso
              refine hu n' hn' e (i / 16 - q) (by omega) ?_
              refine FP_OC a ?_ ?_ <;> omega
            · exact Or.inr g2
  · by_cases e1 : n1 = n
    · subst e1
      have e2 : n2 ≠ n1 := fun g => hne g.symm
      obtain ⟨d1, d2⟩ := hd n2 h2 e2
      obtain ⟨r1, r2⟩ := hO b o1
      exact hu n2 h2 e2 (b - q) (by omega) (by rw [show q + (b - q) = b by omega]; exact OC_cg d1.symm d2.symm o2)
    · obtain ⟨d1, d2⟩ := hd n1 h1 e1
      have o1' := OC_cg d1.symm d2.symm o1
      by_cases e2 : n2 = n
      · subst e2
        obtain ⟨r1, r2⟩ := hO b o2
        exact hu n1 h1 e1 (b - q) (by omega) (by rw [show q + (b - q) = b by omega]; exact o1')
      · obtain ⟨d3, d4⟩ := hd n2 h2 e2
        exact ok.2 n1 n2 b h1 h2 hne o1' (OC_cg d3.symm d4.symm o2)
theorem FOK_cg {h h' : Nat → Int32} (e : ∀ i, REL i → h i = h' i) (ok : FOK h) : FOK h' := by
  have ed : ∀ n, n < 8 → h (16 + 2 * n) = h' (16 + 2 * n) ∧ h (17 + 2 * n) = h' (17 + 2 * n) := fun n hn => ⟨e _ (Or.inl (by omega)), e _ (Or.inl (by omega))⟩
  refine ⟨fun n hn => ?_, fun n1 n2 b h1 h2 hne o1 o2 => ok.2 n1 n2 b h1 h2 hne (OC_cg (ed n1 h1).1.symm (ed n1 h1).2.symm o1) (OC_cg (ed n2 h2).1.symm (ed n2 h2).2.symm o2)⟩
  obtain ⟨d1, d2⟩ := ed n hn
  rcases ok.1 n hn with a | ⟨f, a⟩ | ⟨f, c, a⟩
  · exact Or.inl (by rw [← d1]; exact a)
  · exact Or.inr (Or.inl ⟨f, by rw [← d1]; exact a.1, by rw [← d2]; exact a.2.1, a.2.2⟩)
  · refine Or.inr (Or.inr ⟨f, c, FP_cg d1 d2 (fun i a1 a2 => e i (Or.inr ?_)) a⟩)
    have := a.2.2.2.2.1
    have := a.2.2.2.2.2.1
    omega
theorem FOK_0 {h : Nat → Int32} (e : ∀ i, 16 ≤ i → i < 32 → h i = 0) : FOK h := by
  refine ⟨fun n hn => Or.inl (e _ (by omega) (by omega)), fun n n' b hn _ _ o _ => ?_⟩
  obtain ⟨f, _, _, ⟨a, _⟩ | ⟨c, c1, c2, a, _⟩⟩ := o
  · rw [e _ (by omega) (by omega)] at a
    exact absurd a (by decide)
  · rw [e _ (by omega) (by omega)] at a
    exact absurd ((nI_eq (a := 0) (by decide) (by omega)).mp a) (by omega)
/-! what the search of room says -/
theorem usN_0 {g : Nat → Int32} {x y : Int32} : ∀ k, usN g x y k = 0 → ∀ j, j < k → usT g x y j = 0
  | 0, _, j, h => absurd h (by omega)
  | k + 1, e, j, h => by
    have e : (if ¬ usN g x y k = 0 then 1 else usT g x y k) = 0 := e
    by_cases a : usN g x y k = 0
    · rw [if_neg (fun q => q a)] at e
      by_cases b : j = k
      · rw [b]; exact e
      · exact usN_0 k a j (by omega)
    · rw [if_pos a] at e
      exact absurd e (by decide)
theorem us_free {g : Nat → Int32} {n b : Nat} (hn : n < 8) (hb : b < 64) (h : usN g (nI b) (nI n) 8 = 0) : ∀ n', n' < 8 → n' ≠ n → ¬ OC g n' b := by
  intro n' hn' hne o
  have t := usN_0 8 h n' hn'
  unfold usT at t
  rw [if_neg (fun e => hne ((nI_eq (by omega) (by omega)).mp e))] at t
  obtain ⟨f, ef, hf, o⟩ := o
  rw [ef] at t
  have key : ∀ s : Nat, (g (16 + 2 * n') + 15) / 16 = nI s → s ≤ 10 → f ≤ b → b < f + s → False := by
    intro s es hs h1 h2
    rw [es, nI_add, if_neg (nI_nlt h1 (by omega)), if_neg (fun e => absurd ((nI_leI (by omega) (by omega)).mp e) (by omega))] at t
    exact absurd t (by decide)
  rcases o with ⟨a, e⟩ | ⟨c, c1, c2, a, h1, h2⟩
  · exact key 1 (by rw [a]; decide) (by decide) (by omega) (by omega)
  · exact key (bl c) (by rw [a]; exact blR (by omega)) (by unfold bl; omega) h1 h2
theorem fr_all {g : Nat → Int32} {q : Nat} {y : Int32} : ∀ m, ¬ frN g q y m = 0 → ∀ k, k < m → usN g (nI (q + k)) y 8 = 0
  | 0, _, k, h => absurd h (by omega)
  | m + 1, e, k, h => by
    have e : ¬ (if frN g q y m = 0 then 0 else if ¬ usN g (nI (q + m)) y 8 = 0 then 0 else 1) = (0 : Int32) := e
    by_cases a : frN g q y m = 0
    · rw [if_pos a] at e; exact absurd rfl e
    · rw [if_neg a] at e
      by_cases c : usN g (nI (q + m)) y 8 = 0
      · by_cases b : k = m
        · rw [b]; exact c
        · exact fr_all m a k (by omega)
      · rw [if_pos c] at e; exact absurd rfl e
theorem rm_free (g : Nat → Int32) (m9 : Nat) (y : Int32) : ∀ f q, rmR g m9 y f q = -1 ∨ ∃ b, q ≤ b ∧ b < q + f ∧ rmR g m9 y f q = nI b ∧ ∀ k, k < m9 → usN g (nI (b + k)) y 8 = 0
  | 0, _ => Or.inl rfl
  | f + 1, q => by
    by_cases h : frN g q y m9 = 0
    · rw [show rmR g m9 y (f + 1) q = rmR g m9 y f (q + 1) from if_pos h]
      rcases rm_free g m9 y f (q + 1) with e | ⟨b, a, c, e, r⟩
      · exact Or.inl e
      · exact Or.inr ⟨b, by omega, by omega, e, r⟩
    · rw [show rmR g m9 y (f + 1) q = nI q from if_neg h]
      exact Or.inr ⟨q, Nat.le_refl _, by omega, rfl, fr_all m9 h⟩
