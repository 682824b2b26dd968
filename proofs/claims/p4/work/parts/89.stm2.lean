/-! a statement, whole: kinds -/
theorem rd_61 (V : Nat → Int32 → PR) (T : Nat → Int32) (en : Nat) (vr fi lf sg rt tg : Int32) (a : Nat) (g : Int32) : rdF V T en 61 vr fi lf sg rt tg a g = ((variableF T en a g).1, fi, (V (expF T en 61 (variableF T en a g).2.1 (variableF T en a g).2.2).1 (expF T en 61 (variableF T en a g).2.1 (variableF T en a g).2.2).2).1, sg, rt, tg, (V (expF T en 61 (variableF T en a g).2.1 (variableF T en a g).2.2).1 (expF T en 61 (variableF T en a g).2.1 (variableF T en a g).2.2).2).2) := rfl
theorem rd_69 (V : Nat → Int32 → PR) (T : Nat → Int32) (en : Nat) (vr fi lf sg rt tg : Int32) (a : Nat) (g : Int32) : rdF V T en 69 vr fi lf sg rt tg a g = (vr, fi, lf, sg, rt, tg, a, g) := rfl
theorem rd_71 (V : Nat → Int32 → PR) (T : Nat → Int32) (en : Nat) (vr fi lf sg rt tg : Int32) (a : Nat) (g : Int32) : rdF V T en 71 vr fi lf sg rt tg a g = (vr, fi, lf, sg, rt, (lnoF T en a g).1, (lnoF T en a g).2) := rfl
theorem rd_73 (V : Nat → Int32 → PR) (T : Nat → Int32) (en : Nat) (vr fi lf sg rt tg : Int32) (a : Nat) (g : Int32) : rdF V T en 73 vr fi lf sg rt tg a g = (vr, fi, (V a g).1, (signF T en (V a g).2.1 (V a g).2.2).1, (V (signF T en (V a g).2.1 (V a g).2.2).2.1 (signF T en (V a g).2.1 (V a g).2.2).2.2).1, (lnoF T en (expF T en 71 (V (signF T en (V a g).2.1 (V a g).2.2).2.1 (signF T en (V a g).2.1 (V a g).2.2).2.2).2.1 (V (signF T en (V a g).2.1 (V a g).2.2).2.1 (signF T en (V a g).2.1 (V a g).2.2).2.2).2.2).1 (expF T en 71 (V (signF T en (V a g).2.1 (V a g).2.2).2.1 (signF T en (V a g).2.1 (V a g).2.2).2.2).2.1 (V (signF T en (V a g).2.1 (V a g).2.2).2.1 (signF T en (V a g).2.1 (V a g).2.2).2.2).2.2).2).1, (lnoF T en (expF T en 71 (V (signF T en (V a g).2.1 (V a g).2.2).2.1 (signF T en (V a g).2.1 (V a g).2.2).2.2).2.1 (V (signF T en (V a g).2.1 (V a g).2.2).2.1 (signF T en (V a g).2.1 (V a g).2.2).2.2).2.2).1 (expF T en 71 (V (signF T en (V a g).2.1 (V a g).2.2).2.1 (signF T en (V a g).2.1 (V a g).2.2).2.2).2.1 (V (signF T en (V a g).2.1 (V a g).2.2).2.1 (signF T en (V a g).2.1 (V a g).2.2).2.2).2.2).2).2) := rfl
theorem rd_80 (V : Nat → Int32 → PR) (T : Nat → Int32) (en : Nat) (vr fi lf sg rt tg : Int32) (a : Nat) (g : Int32) : rdF V T en 80 vr fi lf sg rt tg a g = (vr, fi, (V a g).1, sg, rt, tg, (V a g).2) := rfl
theorem rd_82 (V : Nat → Int32 → PR) (T : Nat → Int32) (en : Nat) (vr fi lf sg rt tg : Int32) (a : Nat) (g : Int32) : rdF V T en 82 vr fi lf sg rt tg a g = ((variableF T en (expF T en 44 (V (expF T en 44 (fileDigitF T en a g).2.1 (fileDigitF T en a g).2.2).1 (expF T en 44 (fileDigitF T en a g).2.1 (fileDigitF T en a g).2.2).2).2.1 (V (expF T en 44 (fileDigitF T en a g).2.1 (fileDigitF T en a g).2.2).1 (expF T en 44 (fileDigitF T en a g).2.1 (fileDigitF T en a g).2.2).2).2.2).1 (expF T en 44 (V (expF T en 44 (fileDigitF T en a g).2.1 (fileDigitF T en a g).2.2).1 (expF T en 44 (fileDigitF T en a g).2.1 (fileDigitF T en a g).2.2).2).2.1 (V (expF T en 44 (fileDigitF T en a g).2.1 (fileDigitF T en a g).2.2).1 (expF T en 44 (fileDigitF T en a g).2.1 (fileDigitF T en a g).2.2).2).2.2).2).1, (fileDigitF T en a g).1, (V (expF T en 44 (fileDigitF T en a g).2.1 (fileDigitF T en a g).2.2).1 (expF T en 44 (fileDigitF T en a g).2.1 (fileDigitF T en a g).2.2).2).1, sg, rt, tg, (variableF T en (expF T en 44 (V (expF T en 44 (fileDigitF T en a g).2.1 (fileDigitF T en a g).2.2).1 (expF T en 44 (fileDigitF T en a g).2.1 (fileDigitF T en a g).2.2).2).2.1 (V (expF T en 44 (fileDigitF T en a g).2.1 (fileDigitF T en a g).2.2).1 (expF T en 44 (fileDigitF T en a g).2.1 (fileDigitF T en a g).2.2).2).2.2).1 (expF T en 44 (V (expF T en 44 (fileDigitF T en a g).2.1 (fileDigitF T en a g).2.2).1 (expF T en 44 (fileDigitF T en a g).2.1 (fileDigitF T en a g).2.2).2).2.1 (V (expF T en 44 (fileDigitF T en a g).2.1 (fileDigitF T en a g).2.2).1 (expF T en 44 (fileDigitF T en a g).2.1 (fileDigitF T en a g).2.2).2).2.2).2).2) := rfl
theorem rd_87 (V : Nat → Int32 → PR) (T : Nat → Int32) (en : Nat) (vr fi lf sg rt tg : Int32) (a : Nat) (g : Int32) : rdF V T en 87 vr fi lf sg rt tg a g = (vr, (fileDigitF T en a g).1, (V (expF T en 44 (fileDigitF T en a g).2.1 (fileDigitF T en a g).2.2).1 (expF T en 44 (fileDigitF T en a g).2.1 (fileDigitF T en a g).2.2).2).1, sg, (V (expF T en 44 (V (expF T en 44 (fileDigitF T en a g).2.1 (fileDigitF T en a g).2.2).1 (expF T en 44 (fileDigitF T en a g).2.1 (fileDigitF T en a g).2.2).2).2.1 (V (expF T en 44 (fileDigitF T en a g).2.1 (fileDigitF T en a g).2.2).1 (expF T en 44 (fileDigitF T en a g).2.1 (fileDigitF T en a g).2.2).2).2.2).1 (expF T en 44 (V (expF T en 44 (fileDigitF T en a g).2.1 (fileDigitF T en a g).2.2).1 (expF T en 44 (fileDigitF T en a g).2.1 (fileDigitF T en a g).2.2).2).2.1 (V (expF T en 44 (fileDigitF T en a g).2.1 (fileDigitF T en a g).2.2).1 (expF T en 44 (fileDigitF T en a g).2.1 (fileDigitF T en a g).2.2).2).2.2).2).1, tg, (V (expF T en 44 (V (expF T en 44 (fileDigitF T en a g).2.1 (fileDigitF T en a g).2.2).1 (expF T en 44 (fileDigitF T en a g).2.1 (fileDigitF T en a g).2.2).2).2.1 (V (expF T en 44 (fileDigitF T en a g).2.1 (fileDigitF T en a g).2.2).1 (expF T en 44 (fileDigitF T en a g).2.1 (fileDigitF T en a g).2.2).2).2.2).1 (expF T en 44 (V (expF T en 44 (fileDigitF T en a g).2.1 (fileDigitF T en a g).2.2).1 (expF T en 44 (fileDigitF T en a g).2.1 (fileDigitF T en a g).2.2).2).2.1 (V (expF T en 44 (fileDigitF T en a g).2.1 (fileDigitF T en a g).2.2).1 (expF T en 44 (fileDigitF T en a g).2.1 (fileDigitF T en a g).2.2).2).2.2).2).2) := rfl
theorem rd_no (V : Nat → Int32 → PR) (T : Nat → Int32) (en : Nat) {c : Int32} (vr fi lf sg rt tg : Int32) (a : Nat) (g : Int32) (h : ¬ c = 61 ∧ ¬ c = 69 ∧ ¬ c = 71 ∧ ¬ c = 73 ∧ ¬ c = 80 ∧ ¬ c = 82 ∧ ¬ c = 87) : rdF V T en c vr fi lf sg rt tg a g = (vr, fi, lf, sg, rt, tg, a, 0) := by
  obtain ⟨h1, h2, h3, h4, h5, h6, h7⟩ := h
  unfold rdF
  rw [if_neg h1, if_neg h2, if_neg h3, if_neg h4, if_neg h5, if_neg h6, if_neg h7]
section
variable {T W : Nat → Int32} {d : Nat} {X : RSt} {vr fi lf sg rt tg : Int32}
theorem k_P (hd : d ≤ 12) (G : GDs T W d 1 (atF X)) : SOK d (rdF (vlD T W d 12) T d 80 vr fi lf sg rt tg 1 1) (vaF (atF X)).2 ((rdF (vlD T W d 12) T d 80 vr fi lf sg rt tg 1 1).2.2.1 = (vaF (atF X)).1) := by
  rw [rd_80]
  obtain ⟨v1, a1, g1, e1, h1⟩ := C_val hd G
  rw [e1]
  rcases h1 with ⟨q1, q2, q3⟩ | q
  · exact fin_g hd q2 q1 q3.symm
  · exact fin_b hd q.1 q.2
theorem k_E (hd : d ≤ 12) (G : GDs T W d 1 (atF X)) : SOK d (rdF (vlD T W d 12) T d 69 vr fi lf sg rt tg 1 1) (atF X) True := by
  rw [rd_69]
  exact fin_g hd G rfl trivial
theorem k_G (hd : d ≤ 12) (G : GDs T W d 1 (atF X)) : SOK d (rdF (vlD T W d 12) T d 71 vr fi lf sg rt tg 1 1) (lnF (atF X)).2 ((rdF (vlD T W d 12) T d 71 vr fi lf sg rt tg 1 1).2.2.2.2.2.1 = (lnF (atF X)).1) := by
  rw [rd_71]
  rcases C_ln G with ⟨q1, q2, q3⟩ | ⟨q1, q2⟩
  · exact fin_g hd q2 q1 q3.symm
  · exact fin_b (tx := T) hd q2 (Or.inl q1)
theorem k_A (hd : d ≤ 12) (h0 : ¬ mvr (pk T d 0) = 0) (G0 : GDs T W d 0 X) (G : GDs T W d 1 (atF X)) : SOK d (rdF (vlD T W d 12) T d 61 vr fi lf sg rt tg 0 1) (vaF (muF (atF X) 61)).2 ((rdF (vlD T W d 12) T d 61 vr fi lf sg rt tg 0 1).1 = hrF X - 65 ∧ (rdF (vlD T W d 12) T d 61 vr fi lf sg rt tg 0 1).2.2.1 = (vaF (muF (atF X) 61)).1) := by
  rw [rd_61]
  have ev : variableF T d 0 1 = (hrF X - 65, 1, 1) := by
    rw [G0.hr]
    exact if_pos (by rw [vrb_m]; exact h0)
  rw [ev]
  show SOK d (hrF X - 65, fi, (vlD T W d 12 (expF T d 61 1 1).1 (expF T d 61 1 1).2).1, sg, rt, tg, (vlD T W d 12 (expF T d 61 1 1).1 (expF T d 61 1 1).2).2) _ (hrF X - 65 = hrF X - 65 ∧ (vlD T W d 12 (expF T d 61 1 1).1 (expF T d 61 1 1).2).1 = (vaF (muF (atF X) 61)).1)
  rcases C_ex (c := 61) (by decide) G with ⟨q1, q2⟩ | ⟨q1, q2⟩
  · rw [q1]
    obtain ⟨v1, a1, g1, e1, h1⟩ := C_val hd q2
    rw [e1]
    rcases h1 with ⟨q1, q2, q3⟩ | q
    · exact fin_g hd q2 q1 ⟨rfl, q3.symm⟩
    · exact fin_b hd q.1 q.2
  · refine fin_b (tx := T) hd (va_bad q2).1 (Or.inl ?_)
    show (vlD T W d 12 (expF T d 61 1 1).1 (expF T d 61 1 1).2).2.2 = 0
    rw [q1]
    exact V0 hd _
theorem k_I (hd : d ≤ 12) (G : GDs T W d 1 (atF X)) : SOK d (rdF (vlD T W d 12) T d 73 vr fi lf sg rt tg 1 1) (iI4 X).2 ((rdF (vlD T W d 12) T d 73 vr fi lf sg rt tg 1 1).2.2.1 = (vaF (atF X)).1 ∧ (rdF (vlD T W d 12) T d 73 vr fi lf sg rt tg 1 1).2.2.2.1 = hrF (vaF (atF X)).2 ∧ (hrF (vaF (atF X)).2 = 60 ∨ hrF (vaF (atF X)).2 = 61 ∨ hrF (vaF (atF X)).2 = 62) ∧ (rdF (vlD T W d 12) T d 73 vr fi lf sg rt tg 1 1).2.2.2.2.1 = (vaF (iI2 X)).1 ∧ (rdF (vlD T W d 12) T d 73 vr fi lf sg rt tg 1 1).2.2.2.2.2.1 = (iI4 X).1) := by
  rw [rd_73]
  obtain ⟨v1, a1, g1, e1, h1⟩ := C_val hd G
  generalize hw : vlD T W d 12 1 1 = w
  have ew : w = (v1, a1, g1) := hw.symm.trans e1
  subst ew
  generalize hy : signF T d (v1, a1, g1).2.1 (v1, a1, g1).2.2 = y
  generalize hz : vlD T W d 12 y.2.1 y.2.2 = z
  generalize he : expF T d 71 z.2.1 z.2.2 = e
  generalize hn : lnoF T d e.1 e.2 = n
  have hy : signF T d a1 g1 = y := hy
  have c4 : e.2 = 0 → (muF (vaF (iI2 X)).2 71).go = 0 → n.2.2 = 0 ∧ (iI4 X).2.go = 0 := fun h g => by
    rw [← hn, h]
    exact B_ln g
  have c3 : y.2.2 = 0 → (iI2 X).go = 0 → n.2.2 = 0 ∧ (iI4 X).2.go = 0 := fun h g => by
    have v0 : z.2.2 = 0 := by rw [← hz, h]; exact V0 hd _
    have b := B_ex (tx := T) (en := d) (a := z.2.1) (g := z.2.2) (c := 71) (by decide) ⟨(va_bad g).1, Or.inl v0⟩
    exact c4 (by rw [← he]; exact b.1) b.2
  rcases h1 with ⟨q1, q2, q3⟩ | q
  · subst q1
    rcases C_sg q2 with ⟨s1, s2, s3⟩ | ⟨s1, s2⟩
    · have ey : y = (hrF (vaF (atF X)).2, a1 + 1, 1) := hy.symm.trans s2
      subst ey
      have hz : vlD T W d 12 (a1 + 1) 1 = z := hz
      obtain ⟨v2, a2, g2, e2, h2⟩ := C_val hd (show GDs T W d (a1 + 1) (iI2 X) from s3)
      have ez : z = (v2, a2, g2) := hz.symm.trans e2
      subst ez
      have he : expF T d 71 a2 g2 = e := he
      rcases h2 with ⟨p1, p2, p3⟩ | p
      · subst p1
        rcases C_ex (c := 71) (by decide) p2 with ⟨x1, x2⟩ | ⟨x1, x2⟩
        · have ee : e = (a2 + 1, 1) := he.symm.trans x1
          subst ee
          have hn : lnoF T d (a2 + 1) 1 = n := hn
          have cl := C_ln x2
          rw [hn] at cl
          rcases cl with ⟨n1, n2, n3⟩ | ⟨n1, n2⟩
          · exact fin_g hd n2 n1 ⟨q3.symm, rfl, s1, p3.symm, n3.symm⟩
          · exact fin_b (tx := T) hd n2 (Or.inl n1)
        · have b := c4 (by rw [← he]; exact x1) x2
          exact fin_b (tx := T) hd b.2 (Or.inl b.1)
      · have b := B_ex (c := 71) (by decide) p
        have b := c4 (by rw [← he]; exact b.1) b.2
        exact fin_b (tx := T) hd b.2 (Or.inl b.1)
    · have b := c3 (by rw [← hy]; exact s1) s2
      exact fin_b (tx := T) hd b.2 (Or.inl b.1)
  · have b := B_sg q
    have b := c3 (by rw [← hy]; exact b.1) b.2
    exact fin_b (tx := T) hd b.2 (Or.inl b.1)
theorem pre_WR {f w : PR} {e e2 : Nat × Int32} (hd : d ≤ 12) (G : GDs T W d 1 (atF X)) (hf : fileDigitF T d 1 1 = f) (he : expF T d 44 f.2.1 f.2.2 = e) (hw : vlD T W d 12 e.1 e.2 = w) (he2 : expF T d 44 w.2.1 w.2.2 = e2) : (e2.2 = 1 ∧ GDs T W d e2.1 (iW3 X) ∧ f.1 = (dgF (atF X)).1 ∧ w.1 = (iW2 X).1) ∨ (e2.2 = 0 ∧ (iW3 X).go = 0) := by
  have ew3 : iW3 X = muF (vaF (muF (dgF (atF X)).2 44)).2 44 := rfl
  have ew2 : iW2 X = vaF (muF (dgF (atF X)).2 44) := rfl
  rw [ew3, ew2]
  have c2 : e.2 = 0 → (muF (dgF (atF X)).2 44).go = 0 → e2.2 = 0 ∧ (muF (vaF (muF (dgF (atF X)).2 44)).2 44).go = 0 := fun h g => by
    have v0 : w.2.2 = 0 := by rw [← hw, h]; exact V0 hd _
    have b := B_ex (tx := T) (en := d) (a := w.2.1) (g := w.2.2) (c := 44) (by decide) ⟨(va_bad g).1, Or.inl v0⟩
    rw [he2] at b
    exact b
  rcases C_fd G with ⟨f1, f2⟩ | ⟨f1, f2⟩
  · have ef : f = ((dgF (atF X)).1, 1 + 1, 1) := hf.symm.trans f1
    subst ef
    have he : expF T d 44 (1 + 1) 1 = e := he
    rcases C_ex (c := 44) (by decide) f2 with ⟨x1, x2⟩ | ⟨x1, x2⟩
    · have ee : e = (1 + 1 + 1, 1) := he.symm.trans x1
      subst ee
      have hw : vlD T W d 12 (1 + 1 + 1) 1 = w := hw
      obtain ⟨v2, a2, g2, e3, h2⟩ := C_val hd x2
      have ez : w = (v2, a2, g2) := hw.symm.trans e3
      subst ez
      have he2 : expF T d 44 a2 g2 = e2 := he2
      rcases h2 with ⟨p1, p2, p3⟩ | p
      · subst p1
        rcases C_ex (c := 44) (by decide) p2 with ⟨y1, y2⟩ | ⟨y1, y2⟩
        · have ee : e2 = (a2 + 1, 1) := he2.symm.trans y1
          subst ee
          exact Or.inl ⟨rfl, y2, rfl, p3.symm⟩
        · exact Or.inr ⟨by rw [← he2]; exact y1, y2⟩
      · have b := B_ex (c := 44) (by decide) p
        exact Or.inr ⟨by rw [← he2]; exact b.1, b.2⟩
    · exact Or.inr (c2 (by rw [← he]; exact x1) x2)
  · have b := B_ex (tx := T) (en := d) (a := f.2.1) (g := f.2.2) (Z := (dgF (atF X)).2) (c := 44) (by decide) ⟨f2, Or.inl (by rw [← hf]; exact f1)⟩
    exact Or.inr (c2 (by rw [← he]; exact b.1) b.2)
theorem k_W (hd : d ≤ 12) (G : GDs T W d 1 (atF X)) : SOK d (rdF (vlD T W d 12) T d 87 vr fi lf sg rt tg 1 1) (vaF (iW3 X)).2 ((rdF (vlD T W d 12) T d 87 vr fi lf sg rt tg 1 1).2.1 = (dgF (atF X)).1 ∧ (rdF (vlD T W d 12) T d 87 vr fi lf sg rt tg 1 1).2.2.1 = (iW2 X).1 ∧ (rdF (vlD T W d 12) T d 87 vr fi lf sg rt tg 1 1).2.2.2.2.1 = (vaF (iW3 X)).1) := by
  rw [rd_87]
  generalize hf : fileDigitF T d 1 1 = f
  generalize he : expF T d 44 f.2.1 f.2.2 = e
  generalize hw : vlD T W d 12 e.1 e.2 = w
  generalize he2 : expF T d 44 w.2.1 w.2.2 = e2
  generalize hz : vlD T W d 12 e2.1 e2.2 = z
  rcases pre_WR hd G hf he hw he2 with ⟨a1, a2, a3, a4⟩ | ⟨b1, b2⟩
  · rw [a1] at hz
    obtain ⟨v2, a5, g2, e3, h2⟩ := C_val hd a2
    have ez : z = (v2, a5, g2) := hz.symm.trans e3
    subst ez
    rcases h2 with ⟨p1, p2, p3⟩ | p
    · exact fin_g hd p2 p1 ⟨a3, a4, p3.symm⟩
    · exact fin_b hd p.1 p.2
  · refine fin_b (tx := T) hd (va_bad b2).1 (Or.inl ?_)
    show z.2.2 = 0
    rw [← hz, b1]
    exact V0 hd _
theorem k_R (hd : d ≤ 12) (G : GDs T W d 1 (atF X)) : SOK d (rdF (vlD T W d 12) T d 82 vr fi lf sg rt tg 1 1) (iR4 X) ((rdF (vlD T W d 12) T d 82 vr fi lf sg rt tg 1 1).2.1 = (dgF (atF X)).1 ∧ (rdF (vlD T W d 12) T d 82 vr fi lf sg rt tg 1 1).2.2.1 = (iW2 X).1 ∧ (rdF (vlD T W d 12) T d 82 vr fi lf sg rt tg 1 1).1 = hrF (iW3 X) - 65) := by
  rw [rd_82]
  generalize hf : fileDigitF T d 1 1 = f
  generalize he : expF T d 44 f.2.1 f.2.2 = e
  generalize hw : vlD T W d 12 e.1 e.2 = w
  generalize he2 : expF T d 44 w.2.1 w.2.2 = e2
  generalize hz : variableF T d e2.1 e2.2 = z
  rcases pre_WR hd G hf he hw he2 with ⟨a1, a2, a3, a4⟩ | ⟨b1, b2⟩
  · rw [a1] at hz
    rcases C_vb a2 with ⟨p1, p2⟩ | ⟨p1, p2⟩
    · have ez : z = (hrF (iW3 X) - 65, e2.1 + 1, 1) := hz.symm.trans p1
      subst ez
      exact fin_g (Z := iR4 X) hd p2 rfl ⟨a3, a4, rfl⟩
    · exact fin_b (tx := T) (Z := iR4 X) hd p2 (Or.inl (by rw [← hz]; exact p1))
  · rw [b1] at hz
    have b := B_vb (tx := T) (en := d) (a := e2.1) b2
    exact fin_b (tx := T) (Z := iR4 X) hd b.2 (Or.inl (by rw [← hz]; exact b.1))
end
