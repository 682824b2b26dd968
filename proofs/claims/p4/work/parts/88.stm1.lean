/-! a statement: reading goes alike, step by step -/
def GDs (tx va : Nat → Int32) (en a : Nat) (Z : RSt) : Prop := ¬ Z.go = 0 ∧ Z.at1 = a ∧ a ≤ en ∧ TT tx en Z ∧ VV va Z
theorem GDs.hr {tx va : Nat → Int32} {en a : Nat} {Z : RSt} (h : GDs tx va en a Z) : hrF Z = pk tx en a := by rw [TT_hr h.2.2.2.1, h.2.1]
theorem GDs.st {tx va : Nat → Int32} {en a a' : Nat} {Z Z' : RSt} (h : GDs tx va en a Z) (s : smP Z Z') (g : ¬ Z'.go = 0) (e : Z'.at1 = a') (l : a' ≤ en) : GDs tx va en a' Z' := ⟨g, e, l, TT_sm h.2.2.2.1 s, VV_sm h.2.2.2.2 s⟩
def BVs (tx : Nat → Int32) (en a : Nat) (g : Int32) (Z : RSt) : Prop := Z.go = 0 ∧ (g = 0 ∨ ¬ dgt (pk tx en a) = 0)
theorem C_val {tx va : Nat → Int32} {en a : Nat} {Z : RSt} (hen : en ≤ 12) (h : GDs tx va en a Z) : ∃ v a' g', vlD tx va en 12 a 1 = (v, a', g') ∧ ((g' = 1 ∧ GDs tx va en a' (vaF Z).2 ∧ (vaF Z).1 = v) ∨ BVs tx en a' g' (vaF Z).2) := by
  have t := VT (va := va) hen (by rw [h.2.1]; exact h.2.2.1) h.2.2.2.1 h.2.2.2.2 h.1
  rw [h.2.1] at t
  revert t
  generalize vlD tx va en 12 a 1 = r
  obtain ⟨r1, r2, r3⟩ := r
  intro t
  refine ⟨r1, r2, r3, rfl, ?_⟩
  rcases t with ⟨t1, t2, t3, t4, t5⟩ | t
  · exact Or.inl ⟨t1, h.st (sm_va Z) t2 t3 t4, t5⟩
  · exact Or.inr t
theorem ex_n {tx : Nat → Int32} {en : Nat} {c : Int32} {a : Nat} {g : Int32} (q : ¬ pk tx en a = c) : expF tx en c a g = (a, 0) := if_pos q
theorem ex_y {tx : Nat → Int32} {en : Nat} {c : Int32} {a : Nat} {g : Int32} (q : pk tx en a = c) : expF tx en c a g = (a + 1, g) := if_neg (fun n => n q)
theorem mu_y {Z : RSt} {c : Int32} (h : hrF Z = c) (g : ¬ Z.go = 0) : muF Z c = goF (atF Z) 1 := by
  have e : taF Z c = (1, atF Z) := if_pos h
  unfold muF
  rw [e]
  show goF (atF Z) (andI Z.go 1) = goF (atF Z) 1
  unfold andI
  rw [if_neg g, if_neg (by decide)]
theorem mu_n {Z : RSt} {c : Int32} (h : Z.go = 0 ∨ ¬ hrF Z = c) : (muF Z c).go = 0 := Decidable.byContradiction (fun q => h.elim (fun e => mu_go q e) (fun e => e (mu_in q)))
theorem C_ex {tx va : Nat → Int32} {en a : Nat} {Z : RSt} {c : Int32} (hn : ¬ c = -1) (h : GDs tx va en a Z) : (expF tx en c a 1 = (a + 1, 1) ∧ GDs tx va en (a + 1) (muF Z c)) ∨ ((expF tx en c a 1).2 = 0 ∧ (muF Z c).go = 0) := by
  by_cases q : pk tx en a = c
  · have lt : a < en := pk_ltE (by rw [q]; exact hn)
    refine Or.inl ⟨ex_y q, ?_⟩
    rw [mu_y (h.hr.trans q) h.1]
    exact h.st (Z' := goF (atF Z) 1) rfl (show ¬ (1 : Int32) = 0 by decide) (by show Z.at1 + 1 = a + 1; rw [h.2.1]) lt
  · exact Or.inr ⟨congrArg Prod.snd (ex_n q), mu_n (Or.inr (by rw [h.hr]; exact q))⟩
theorem B_ex {tx : Nat → Int32} {en a : Nat} {g : Int32} {Z : RSt} {c : Int32} (hc : dgt c = 0) (h : BVs tx en a g Z) : (expF tx en c a g).2 = 0 ∧ (muF Z c).go = 0 := by
  refine ⟨?_, mu_n (Or.inl h.1)⟩
  rcases h.2 with e | e
  · rw [e]; exact ex_0
  · exact congrArg Prod.snd (ex_n (dg_ne e hc))
theorem sg_y {g x : Int32} (hg : ¬ g = 0) (h : x = 60 ∨ x = 61 ∨ x = 62) : sgo g x = 1 := by
  unfold sgo
  rw [if_neg hg]
  rcases h with e | e | e <;> rw [e] <;> decide
theorem sg_n {g x : Int32} (h : g = 0 ∨ (¬ x = 60 ∧ ¬ x = 61 ∧ ¬ x = 62)) : sgo g x = 0 := by
  unfold sgo
  by_cases c : g = 0
  · rw [if_pos c]
  · obtain ⟨a, b, d⟩ := h.resolve_left c
    rw [if_neg c, if_neg a, if_neg b, if_pos d]
theorem sF_y {tx : Nat → Int32} {en a : Nat} {g : Int32} (h : pk tx en a = 60 ∨ pk tx en a = 61 ∨ pk tx en a = 62) : signF tx en a g = (pk tx en a, a + 1, g) := by
  unfold signF
  by_cases c : pk tx en a = 60
  · rw [if_pos c]
  · rw [if_neg c]
    by_cases d : pk tx en a = 61
    · rw [if_pos d]
    · rw [if_neg d, if_pos ((h.resolve_left c).resolve_left d)]
theorem sF_n {tx : Nat → Int32} {en a : Nat} {g : Int32} (h : ¬ pk tx en a = 60 ∧ ¬ pk tx en a = 61 ∧ ¬ pk tx en a = 62) : signF tx en a g = (61, a, 0) := by
  unfold signF
  rw [if_neg h.1, if_neg h.2.1, if_neg h.2.2]
theorem C_sg {tx va : Nat → Int32} {en a : Nat} {Z : RSt} (h : GDs tx va en a Z) : ((hrF Z = 60 ∨ hrF Z = 61 ∨ hrF Z = 62) ∧ signF tx en a 1 = (hrF Z, a + 1, 1) ∧ GDs tx va en (a + 1) (atF (goF Z (sgo Z.go (hrF Z))))) ∨ ((signF tx en a 1).2.2 = 0 ∧ (atF (goF Z (sgo Z.go (hrF Z)))).go = 0) := by
  rw [h.hr]
  by_cases q : pk tx en a = 60 ∨ pk tx en a = 61 ∨ pk tx en a = 62
  · have lt : a < en := pk_ltE (by rcases q with e | e | e <;> rw [e] <;> decide)
    refine Or.inl ⟨q, sF_y q, h.st (Z' := atF (goF Z (sgo Z.go (pk tx en a)))) rfl ?_ (by show Z.at1 + 1 = a + 1; rw [h.2.1]) lt⟩
    show ¬ sgo Z.go (pk tx en a) = 0
    rw [sg_y h.1 q]
    decide
  · have n : ¬ pk tx en a = 60 ∧ ¬ pk tx en a = 61 ∧ ¬ pk tx en a = 62 := ⟨fun e => q (Or.inl e), fun e => q (Or.inr (Or.inl e)), fun e => q (Or.inr (Or.inr e))⟩
    refine Or.inr ⟨congrArg (fun t => t.2.2) (sF_n n), ?_⟩
    show sgo Z.go (pk tx en a) = 0
    exact sg_n (Or.inr n)
theorem B_sg {tx : Nat → Int32} {en a : Nat} {g : Int32} {Z : RSt} (h : BVs tx en a g Z) : (signF tx en a g).2.2 = 0 ∧ (atF (goF Z (sgo Z.go (hrF Z)))).go = 0 := by
  refine ⟨?_, by show sgo Z.go (hrF Z) = 0; exact sg_n (Or.inl h.1)⟩
  rcases h.2 with e | e
  · rw [e]
    unfold signF
    repeat' split
    all_goals rfl
  · exact congrArg (fun t => t.2.2) (sF_n (g := g) ⟨dg_ne e (by decide), dg_ne e (by decide), dg_ne e (by decide)⟩)
theorem ln_dg {tx : Nat → Int32} {en : Nat} : ∀ (f : Nat) (n : Int32) (Z : RSt), TT tx en Z → Z.at1 ≤ en → lnS f n Z = ((dgN tx en f Z.at1 n).1, atN Z (dgN tx en f Z.at1 n).2) ∧ (dgN tx en f Z.at1 n).2 ≤ en
  | 0, n, Z, _, h => ⟨rfl, h⟩
  | f + 1, n, Z, hT, h => by
    have e : lnS (f + 1) n Z = if dgt (hrF Z) = 0 then (n, Z) else lnS f (10 * n + hrF Z - 48) (atF Z) := rfl
    have e2 : dgN tx en (f + 1) Z.at1 n = if dgt (pk tx en Z.at1) = 0 then (n, Z.at1) else dgN tx en f (Z.at1 + 1) (10 * n + pk tx en Z.at1 - 48) := rfl
    rw [TT_hr hT] at e
    by_cases g : dgt (pk tx en Z.at1) = 0
    · rw [if_pos g] at e e2
      rw [e, e2]
      exact ⟨rfl, h⟩
    · rw [if_neg g] at e e2
      have lt : Z.at1 < en := pk_ltE (dg_n1 g)
      have ih := ln_dg f (10 * n + pk tx en Z.at1 - 48) (atF Z) (TT_sm hT (sm_at Z)) lt
      have a1 : (atF Z).at1 = Z.at1 + 1 := rfl
      rw [a1] at ih
      rw [e, e2]
      exact ih
theorem C_ln {tx va : Nat → Int32} {en a : Nat} {Z : RSt} (h : GDs tx va en a Z) : ((lnoF tx en a 1).2.2 = 1 ∧ GDs tx va en (lnoF tx en a 1).2.1 (lnF Z).2 ∧ (lnF Z).1 = (lnoF tx en a 1).1) ∨ ((lnoF tx en a 1).2.2 = 0 ∧ (lnF Z).2.go = 0) := by
  obtain ⟨l, hl, el⟩ := lnF_in Z
  have t := ln_dg (tx := tx) (en := en) 2 0 Z h.2.2.2.1 (by rw [h.2.1]; exact h.2.2.1)
  have e1 : (lnF Z).1 = (lnS 2 0 Z).1 := rfl
  have e2 : (lnF Z).2 = goF (lnS 2 0 Z).2 (if (lnS 2 0 Z).2.go = 0 then 0 else if (lnS 2 0 Z).1 ≤ 0 then 0 else 1) := rfl
  rw [h.2.1] at t
  unfold lnoF
  revert t
  generalize dgN tx en 2 a 0 = r
  obtain ⟨r1, r2⟩ := r
  intro t
  rw [t.1] at e1 e2
  have e1 : (lnF Z).1 = r1 := e1
  have e2 : (lnF Z).2 = goF (atN Z r2) (if Z.go = 0 then 0 else if r1 ≤ 0 then 0 else 1) := e2
  rw [if_neg h.1] at e2
  have er : r1 = nI l := e1.symm.trans el
  show ((if ¬ r1 = 0 then (r1, r2, (1 : Int32)) else (r1, r2, 0)).2.2 = 1 ∧ GDs tx va en (if ¬ r1 = 0 then (r1, r2, (1 : Int32)) else (r1, r2, 0)).2.1 (lnF Z).2 ∧ (lnF Z).1 = (if ¬ r1 = 0 then (r1, r2, (1 : Int32)) else (r1, r2, 0)).1) ∨ ((if ¬ r1 = 0 then (r1, r2, (1 : Int32)) else (r1, r2, 0)).2.2 = 0 ∧ (lnF Z).2.go = 0)
  by_cases c : r1 = 0
  · rw [if_neg (fun g => g c)]
    rw [if_pos (show r1 ≤ 0 by rw [c]; decide)] at e2
    refine Or.inr ⟨rfl, ?_⟩
    rw [e2]
    rfl
  · rw [if_pos c]
    have n0 : ¬ r1 ≤ 0 := fun g => by
      rw [er] at g
      have g := (nI_leI (b := 0) (by omega) (by decide)).mp g
      exact c (by rw [er, show l = 0 by omega]; rfl)
    rw [if_neg n0] at e2
    refine Or.inl ⟨rfl, ?_, e1⟩
    rw [e2]
    exact h.st (Z' := goF (atN Z r2) 1) rfl (show ¬ (1 : Int32) = 0 by decide) rfl t.2
theorem B_ln {tx : Nat → Int32} {en a : Nat} {Z : RSt} (h : Z.go = 0) : (lnoF tx en a 0).2.2 = 0 ∧ (lnF Z).2.go = 0 := by
  refine ⟨?_, Decidable.byContradiction (fun q => ln_go q h)⟩
  unfold lnoF
  split <;> rfl
theorem fdg_i {c : Int32} : fdg c = 0 ↔ (c < 48 ∨ 55 < c) := by
  have t : (56 ≤ c) ↔ (55 < c) := by
    rw [Int32.le_iff_toInt_le, Int32.lt_iff_toInt_lt]
    have e1 : (56 : Int32).toInt = 56 := by decide
    have e2 : (55 : Int32).toInt = 55 := by decide
    omega
  unfold fdg
  by_cases a : c < 48
  · rw [if_pos a]
    exact ⟨fun _ => Or.inl a, fun _ => rfl⟩
  · rw [if_neg a]
    by_cases b : 56 ≤ c
    · rw [if_pos b]
      exact ⟨fun _ => Or.inr (t.mp b), fun _ => rfl⟩
    · rw [if_neg b]
      exact ⟨fun e => absurd e (by decide), fun e => absurd (t.mpr (e.resolve_left a)) b⟩
theorem C_fd {tx va : Nat → Int32} {en a : Nat} {Z : RSt} (h : GDs tx va en a Z) : (fileDigitF tx en a 1 = ((dgF Z).1, a + 1, 1) ∧ GDs tx va en (a + 1) (dgF Z).2) ∨ ((fileDigitF tx en a 1).2.2 = 0 ∧ (dgF Z).2.go = 0) := by
  have e1 : (dgF Z).1 = pk tx en a - 48 := by show hrF Z - 48 = _; rw [h.hr]
  have e2 : (dgF Z).2 = goF (atF Z) (if Z.go = 0 then 0 else if hrF Z < 48 then 0 else if 55 < hrF Z then 0 else 1) := rfl
  rw [if_neg h.1, h.hr] at e2
  by_cases q : fdg (pk tx en a) = 0
  · have ef : fileDigitF tx en a 1 = (0, a, 0) := if_neg (fun g => g q)
    refine Or.inr ⟨congrArg (fun t => t.2.2) ef, ?_⟩
    rw [e2]
    show (if pk tx en a < 48 then (0 : Int32) else if 55 < pk tx en a then 0 else 1) = 0
    rcases fdg_i.mp q with c | c
    · rw [if_pos c]
    · rw [if_pos c]; split <;> rfl
  · have ef : fileDigitF tx en a 1 = (pk tx en a - 48, a + 1, 1) := if_pos q
    have c1 : ¬ pk tx en a < 48 := fun e => q (fdg_i.mpr (Or.inl e))
    have c2 : ¬ 55 < pk tx en a := fun e => q (fdg_i.mpr (Or.inr e))
    have lt : a < en := pk_ltE (fun e => c1 (by rw [e]; decide))
    rw [if_neg c1, if_neg c2] at e2
    refine Or.inl ⟨by rw [ef, e1], ?_⟩
    rw [e2]
    exact h.st (Z' := goF (atF Z) 1) rfl (show ¬ (1 : Int32) = 0 by decide) (by show Z.at1 + 1 = a + 1; rw [h.2.1]) lt
theorem C_vb {tx va : Nat → Int32} {en a : Nat} {Z : RSt} (h : GDs tx va en a Z) : (variableF tx en a 1 = (hrF Z - 65, a + 1, 1) ∧ GDs tx va en (a + 1) (atF (goF Z (rgo Z.go (hrF Z))))) ∨ ((variableF tx en a 1).2.2 = 0 ∧ (atF (goF Z (rgo Z.go (hrF Z)))).go = 0) := by
  rw [h.hr]
  by_cases q : mvr (pk tx en a) = 0
  · have ef : variableF tx en a 1 = (0, a, 0) := if_neg (fun g => g (by rw [vrb_m]; exact q))
    refine Or.inr ⟨congrArg (fun t => t.2.2) ef, ?_⟩
    show rgo Z.go (pk tx en a) = 0
    unfold rgo
    rw [if_neg h.1, if_pos q]
  · have ef : variableF tx en a 1 = (pk tx en a - 65, a + 1, 1) := if_pos (by rw [vrb_m]; exact q)
    refine Or.inl ⟨ef, h.st (Z' := atF (goF Z (rgo Z.go (pk tx en a)))) rfl ?_ (by show Z.at1 + 1 = a + 1; rw [h.2.1]) (pk_ltE (mvr_n1 q))⟩
    show ¬ rgo Z.go (pk tx en a) = 0
    unfold rgo
    rw [if_neg h.1, if_neg q]
    decide
theorem B_vb {tx : Nat → Int32} {en a : Nat} {Z : RSt} (h : Z.go = 0) : (variableF tx en a 0).2.2 = 0 ∧ (atF (goF Z (rgo Z.go (hrF Z)))).go = 0 := by
  refine ⟨vb_0, ?_⟩
  show rgo Z.go (hrF Z) = 0
  unfold rgo
  rw [if_pos h]
def SOK (d : Nat) (u : RU) (Z : RSt) (K : Prop) : Prop := (rdA d u = 1 ∧ ¬ tgo Z = 0 ∧ K) ∨ (rdA d u = 0 ∧ tgo Z = 0)
theorem fin_g {tx va : Nat → Int32} {d : Nat} {u : RU} {Z : RSt} {K : Prop} (hd : d ≤ 12) (G : GDs tx va d u.2.2.2.2.2.2.1 Z) (h : u.2.2.2.2.2.2.2 = 1) (k : K) : SOK d u Z K := by
  unfold SOK rdA tgo
  rw [G.2.1, G.2.2.2.1.1, h, if_neg (show ¬ (1 : Int32) = 0 by decide), if_neg G.1]
  by_cases c : nI u.2.2.2.2.2.2.1 = nI d
  · have nc : ¬ ¬ nI u.2.2.2.2.2.2.1 = nI d := fun g => g c
    rw [if_neg nc]
    exact Or.inl ⟨rfl, by decide, k⟩
  · rw [if_pos c]
    exact Or.inr ⟨rfl, rfl⟩
theorem fin_b {tx : Nat → Int32} {d : Nat} {u : RU} {Z : RSt} {K : Prop} (hd : d ≤ 12) (h1 : Z.go = 0) (h2 : u.2.2.2.2.2.2.2 = 0 ∨ ¬ dgt (pk tx d u.2.2.2.2.2.2.1) = 0) : SOK d u Z K := by
  refine Or.inr ⟨?_, by unfold tgo; rw [if_pos h1]⟩
  unfold rdA
  by_cases c : u.2.2.2.2.2.2.2 = 0
  · rw [if_pos c]
  · rw [if_neg c]
    have lt : u.2.2.2.2.2.2.1 < d := pk_ltE (dg_n1 (h2.resolve_left c))
    rw [if_pos (fun e => absurd ((nI_eq (by omega) (by omega)).mp e) (by omega))]
