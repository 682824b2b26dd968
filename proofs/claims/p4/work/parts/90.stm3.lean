/-! a statement, whole -/
theorem SOK.imp {d : Nat} {u : RU} {Z : RSt} {K K' : Prop} (h : SOK d u Z K) (f : K → K') : SOK d u Z K' := Or.imp (fun t => ⟨t.1, t.2.1, f t.2.2⟩) id h
theorem st0_A {X : RSt} (a : ¬ asB (hrF X) (bhF X) = 0) : st0 X = (0, (vaF (muF (atF X) 61)).2) := by
  unfold st0
  rw [if_pos a]
theorem st0_P {X : RSt} (a : asB (hrF X) (bhF X) = 0) (e : hrF X = 80) : st0 X = (0, (vaF (atF X)).2) := by
  unfold st0
  rw [if_neg (fun g => g a), if_pos e]
theorem st0_I {X : RSt} (a : asB (hrF X) (bhF X) = 0) (e : hrF X = 73) : st0 X = (0, (iI4 X).2) := by
  unfold st0
  rw [if_neg (fun g => g a), if_neg (by rw [e]; decide), if_pos e]
theorem st0_G {X : RSt} (a : asB (hrF X) (bhF X) = 0) (e : hrF X = 71) : st0 X = (0, (lnF (atF X)).2) := by
  unfold st0
  rw [if_neg (fun g => g a), if_neg (by rw [e]; decide), if_neg (by rw [e]; decide), if_pos e]
theorem st0_E {X : RSt} (a : asB (hrF X) (bhF X) = 0) (e : hrF X = 69) : st0 X = (-1, atF X) := by
  unfold st0
  rw [if_neg (fun g => g a), if_neg (by rw [e]; decide), if_neg (by rw [e]; decide), if_neg (by rw [e]; decide), if_pos e]
theorem st0_N {X : RSt} (a : asB (hrF X) (bhF X) = 0) (h : ¬ hrF X = 69 ∧ ¬ hrF X = 71 ∧ ¬ hrF X = 73 ∧ ¬ hrF X = 80 ∧ ¬ hrF X = 82 ∧ ¬ hrF X = 87) : st0 X = (0, goF (atF X) 0) := by
  obtain ⟨h1, h2, h3, h4, h5, h6⟩ := h
  unfold st0
  rw [if_neg (fun g => g a), if_neg h4, if_neg h3, if_neg h2, if_neg h1, if_neg h6, if_neg h5]
theorem asB_0 {c d : Int32} (h : mvr c = 0) : asB c d = 0 := by
  unfold asB
  rw [if_pos h]
theorem snd_of {a : Int32} {p : Int32 × RSt} {W : RSt} (e : p = (a, W)) : p.2 = W := by rw [e]
def KND (X : RSt) (c : Int32) (u : RU) : Prop := (c = 61 ∧ ¬ asB (hrF X) (bhF X) = 0 ∧ ¬ mvr (hrF X) = 0 ∧ u.1 = hrF X - 65 ∧ u.2.2.1 = (vaF (muF (atF X) 61)).1) ∨ (asB (hrF X) (bhF X) = 0 ∧ ((c = 80 ∧ hrF X = 80 ∧ u.2.2.1 = (vaF (atF X)).1) ∨ (c = 73 ∧ hrF X = 73 ∧ u.2.2.1 = (vaF (atF X)).1 ∧ u.2.2.2.1 = hrF (vaF (atF X)).2 ∧ (hrF (vaF (atF X)).2 = 60 ∨ hrF (vaF (atF X)).2 = 61 ∨ hrF (vaF (atF X)).2 = 62) ∧ u.2.2.2.2.1 = (vaF (iI2 X)).1 ∧ u.2.2.2.2.2.1 = (iI4 X).1) ∨ (c = 71 ∧ hrF X = 71 ∧ u.2.2.2.2.2.1 = (lnF (atF X)).1) ∨ (c = 69 ∧ hrF X = 69) ∨ (c = 87 ∧ hrF X = 87 ∧ u.2.1 = (dgF (atF X)).1 ∧ u.2.2.1 = (iW2 X).1 ∧ u.2.2.2.2.1 = (vaF (iW3 X)).1) ∨ (c = 82 ∧ hrF X = 82 ∧ u.2.1 = (dgF (atF X)).1 ∧ u.2.2.1 = (iW2 X).1 ∧ u.1 = hrF (iW3 X) - 65)))
theorem kd_y {T : Nat → Int32} {d : Nat} (h1 : ¬ mvr (T 0) = 0) (h2 : pk T d 1 = 61) (hd : d ≤ 12) : kdT T d = 61 := by
  have lt : 1 < d := pk_ltE (by rw [h2]; decide)
  have e1 : T 1 = 61 := (if_pos lt : pk T d 1 = T 1).symm.trans h2
  have n1 : ¬ nI d ≤ 1 := fun g => absurd ((nI_leI (b := 1) (by omega) (by decide)).mp g) (by omega)
  unfold kdT
  rw [if_neg n1, if_neg (by rw [vrb_m]; exact h1), if_neg (fun g => g e1)]
theorem kd_n {T : Nat → Int32} {d : Nat} (h : mvr (T 0) = 0 ∨ ¬ pk T d 1 = 61) (hd : d ≤ 12) : kdT T d = T 0 := by
  unfold kdT
  by_cases c : nI d ≤ 1
  · rw [if_pos c]
  · rw [if_neg c, vrb_m]
    by_cases m : mvr (T 0) = 0
    · rw [if_pos m]
    · rw [if_neg m]
      have lt : 1 < d := by
        rcases Nat.lt_or_ge 1 d with g | g
        · exact g
        · exact absurd ((nI_leI (b := 1) (by omega) (by decide)).mpr g) c
      have e1 : pk T d 1 = T 1 := if_pos lt
      rw [if_pos (by rw [← e1]; exact h.resolve_left m)]
theorem STM {T W : Nat → Int32} {d : Nat} {X : RSt} {vr fi lf sg rt tg : Int32} (hd1 : 1 ≤ d) (hd : d ≤ 12) (G0 : GDs T W d 0 X) : SOK d (rdF (vlD T W d 12) T d (kdT T d) vr fi lf sg rt tg (atT (kdT T d)) 1) (st0 X).2 (KND X (kdT T d) (rdF (vlD T W d 12) T d (kdT T d) vr fi lf sg rt tg (atT (kdT T d)) 1)) := by
  have G : GDs T W d 1 (atF X) := G0.st (sm_at X) G0.1 (by show X.at1 + 1 = 1; rw [G0.2.1]) hd1
  have p0 : pk T d 0 = T 0 := if_pos hd1
  have hr : hrF X = T 0 := G0.hr.trans p0
  have bh : bhF X = pk T d 1 := by
    have e : bhF X = if X.at1 + 1 < X.en then TX X (X.at1 + 1) else -1 := rfl
    rw [e, G0.2.1, G0.2.2.2.1.1]
    unfold pk
    by_cases g : 0 + 1 < d
    · rw [if_pos g, if_pos (show 1 < d from g)]
      exact G0.2.2.2.1.2 1 g
    · rw [if_neg g, if_neg (show ¬ 1 < d from g)]
  by_cases A : ¬ mvr (T 0) = 0 ∧ pk T d 1 = 61
  · have as : ¬ asB (hrF X) (bhF X) = 0 := by
      rw [hr, bh, A.2]
      unfold asB
      rw [if_neg A.1, if_pos (show (61 : Int32) = 61 from rfl)]
      decide
    rw [kd_y A.1 A.2 hd, snd_of (st0_A as), show atT 61 = 0 by decide]
    exact (k_A hd (by rw [p0]; exact A.1) G0 G).imp (fun k => Or.inl ⟨rfl, as, by rw [hr]; exact A.1, k.1, k.2⟩)
  · have An : mvr (T 0) = 0 ∨ ¬ pk T d 1 = 61 := by
      by_cases m : mvr (T 0) = 0
      · exact Or.inl m
      · exact Or.inr (fun e => A ⟨m, e⟩)
    rw [kd_n An hd]
    by_cases c1 : T 0 = 80
    · have as : asB (hrF X) (bhF X) = 0 := asB_0 (by rw [hr, c1]; decide)
      rw [c1, snd_of (st0_P as (hr.trans c1)), show atT 80 = 1 by decide]
      exact (k_P hd G).imp (fun k => Or.inr ⟨as, Or.inl ⟨rfl, hr.trans c1, k⟩⟩)
    by_cases c2 : T 0 = 73
    · have as : asB (hrF X) (bhF X) = 0 := asB_0 (by rw [hr, c2]; decide)
      rw [c2, snd_of (st0_I as (hr.trans c2)), show atT 73 = 1 by decide]
      exact (k_I hd G).imp (fun k => Or.inr ⟨as, Or.inr (Or.inl ⟨rfl, hr.trans c2, k⟩)⟩)
    by_cases c3 : T 0 = 71
    · have as : asB (hrF X) (bhF X) = 0 := by
        rw [hr, bh]
        unfold asB
        rw [c3, if_neg (by decide), if_neg (An.resolve_left (by rw [c3]; decide)), if_neg (by decide), if_pos rfl]
      rw [c3, snd_of (st0_G as (hr.trans c3)), show atT 71 = 1 by decide]
      exact (k_G hd G).imp (fun k => Or.inr ⟨as, Or.inr (Or.inr (Or.inl ⟨rfl, hr.trans c3, k⟩))⟩)
    by_cases c4 : T 0 = 69
    · have as : asB (hrF X) (bhF X) = 0 := by
        rw [hr, bh]
        unfold asB
        rw [c4, if_neg (by decide), if_neg (An.resolve_left (by rw [c4]; decide)), if_pos rfl]
      rw [c4, snd_of (st0_E as (hr.trans c4)), show atT 69 = 1 by decide]
      exact (k_E hd G).imp (fun _ => Or.inr ⟨as, Or.inr (Or.inr (Or.inr (Or.inl ⟨rfl, hr.trans c4⟩)))⟩)
    by_cases c5 : T 0 = 87
    · have as : asB (hrF X) (bhF X) = 0 := asB_0 (by rw [hr, c5]; decide)
      rw [c5, snd_of (st0_W (hr.trans c5)), show atT 87 = 1 by decide]
      exact (k_W hd G).imp (fun k => Or.inr ⟨as, Or.inr (Or.inr (Or.inr (Or.inr (Or.inl ⟨rfl, hr.trans c5, k⟩))))⟩)
    by_cases c6 : T 0 = 82
    · have as : asB (hrF X) (bhF X) = 0 := asB_0 (by rw [hr, c6]; decide)
      rw [c6, snd_of (st0_R (hr.trans c6)), show atT 82 = 1 by decide]
      exact (k_R hd G).imp (fun k => Or.inr ⟨as, Or.inr (Or.inr (Or.inr (Or.inr (Or.inr ⟨rfl, hr.trans c6, k⟩))))⟩)
    have bad : (st0 X).2.go = 0 := by
      by_cases as : asB (hrF X) (bhF X) = 0
      · rw [snd_of (st0_N as ⟨by rw [hr]; exact c4, by rw [hr]; exact c3, by rw [hr]; exact c2, by rw [hr]; exact c1, by rw [hr]; exact c6, by rw [hr]; exact c5⟩)]
        rfl
      · rw [snd_of (st0_A as)]
        have m := asB_m as
        rw [hr] at m
        exact (va_bad (mu_n (Or.inr (by rw [G.hr]; exact An.resolve_left m)))).1
    by_cases c7 : T 0 = 61
    · rw [c7, show atT 61 = 0 by decide, rd_61]
      refine fin_b (tx := T) hd bad (Or.inl ?_)
      have ev : variableF T d 0 1 = (0, 0, 0) := if_neg (fun g => g (by rw [p0, c7]; decide))
      rw [ev]
      show (vlD T W d 12 (expF T d 61 0 0).1 (expF T d 61 0 0).2).2.2 = 0
      rw [ex_0]
      exact V0 hd _
    · rw [rd_no _ _ _ _ _ _ _ _ _ _ _ ⟨c7, c4, c3, c2, c1, c6, c5⟩]
      exact fin_b (tx := T) hd bad (Or.inl rfl)
theorem GL_1 {t : Nat → Int32} {d : Nat} (g : GL t d) : 1 ≤ d := by
  rcases Nat.eq_zero_or_pos d with e | e
  · exfalso
    apply g
    subst e
    have hr : hrF (mkT t 0) = -1 := rfl
    have as : asB (hrF (mkT t 0)) (bhF (mkT t 0)) = 0 := asB_0 (by rw [hr]; decide)
    have e0 := st0_N as (by rw [hr]; exact ⟨by decide, by decide, by decide, by decide, by decide, by decide⟩)
    show tgo (st0 (mkT t 0)).2 = 0
    rw [snd_of e0]
    rfl
  · exact e
