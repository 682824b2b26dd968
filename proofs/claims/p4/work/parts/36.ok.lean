/-! what every call keeps: at most 10 lines, at most 15 characters typed -/
def LOk (L : LSt) : Prop := L.wn ≤ 10 ∧ L.wc ≤ 15
theorem dieF_ok (L : LSt) : LOk (dieF L) := ⟨Nat.zero_le _, Nat.zero_le _⟩
theorem stF_ok {L : LSt} (q : DS) (h : LOk L) : LOk (stF L q) := ⟨h.1, h.2⟩
theorem pjF_ok {L : LSt} (x v : Int32) (h : LOk L) : LOk (pjF L x v) := ⟨h.1, h.2⟩
theorem wrA_ok {L : LSt} (b i v : Int32) (h : LOk L) : LOk (wrA L b i v) := ⟨h.1, h.2⟩
theorem roF_ok {L : LSt} (r : Nat → Int32) (h : LOk L) : LOk (roF L r) := ⟨h.1, h.2⟩
theorem nxF_ok {L : LSt} (x : Int32) (h : LOk L) : LOk (nxF L x) := ⟨h.1, h.2⟩
theorem amF_ok {L : LSt} (x : Int32) (h : LOk L) : LOk (amF L x) := ⟨h.1, h.2⟩
theorem outF_ok {L : LSt} (x : Int32) (h : LOk L) : LOk (outF L x) := ⟨h.1, h.2⟩
theorem asF_ok {L : LSt} (h : LOk L) : LOk (asF L) := ⟨h.1, h.2⟩
theorem smU_ok {L : LSt} (u : RV) (h : LOk L) : LOk (smU L u) := ⟨h.1, h.2⟩
theorem tcF_ok {L : LSt} (h : LOk L) : LOk (tcF L) := ⟨h.1, Nat.zero_le _⟩
theorem rlF_ok {L : LSt} (h : LOk L) : LOk (rlF L) := ⟨Nat.zero_le _, h.2⟩
theorem clF_ok {L : LSt} (h : LOk L) : LOk (clF L) := ⟨h.1, h.2⟩
theorem rc0_ok (L : LSt) : LOk (rc0 L) := ⟨Nat.zero_le _, Nat.zero_le _⟩
theorem cmtF_ok {L : LSt} (e0 : Nat → Int32) (h : LOk L) : LOk (cmtF e0 L).2 := by
  unfold cmtF
  generalize cmt L.ro L.hd e0 L.jt (L.ar, L.de, L.wr, L.g) = q
  by_cases c : q.1 = 0
  · rw [if_pos c]; exact dieF_ok _
  · rw [if_neg c]; exact stF_ok _ h
theorem bgL_ok {L : LSt} (f : Int32) (h : LOk L) : ∀ k, LOk (bgL L f k)
  | 0 => h
  | k + 1 => ⟨(bgL_ok f h k).1, (bgL_ok f h k).2⟩
theorem bgF_ok {L : LSt} (n : Int32) (cn : Nat) (f : Int32) (h : LOk L) : LOk (bgF L n cn f) := bgL_ok f (L := bg1 L n cn f) ⟨h.1, h.2⟩ _
theorem delF_ok {L : LSt} (e0 : Nat → Int32) (n : Int32) (h : LOk L) : LOk (delF e0 L n).2 := by
  unfold delF
  generalize cellv L.g (16 + 2 * n) = c
  by_cases h1 : c = 0
  · rw [if_neg (fun g => g h1)]; exact h
  · rw [if_pos h1]; exact cmtF_ok e0 (bgF_ok n 0 0 h)
theorem wrrF_ok {L : LSt} (e0 : Nat → Int32) (n i v : Int32) (h : LOk L) : LOk (wrrF e0 L n i v).2 := by
  unfold wrrF
  generalize rmF L.g n 1 = f
  generalize cellv L.g (16 + 2 * n + 1) * 16 / 16 = b
  generalize cellv L.g (16 + 2 * n) = c
  generalize rflF L.g n i = d
  by_cases h1 : d = 0
  · rw [if_pos h1]
    by_cases h2 : c = 0
    · rw [if_pos h2]
      by_cases h3 : f = -1
      · rw [if_neg (fun h => h h3)]; exact h
      · rw [if_pos h3]; exact cmtF_ok e0 (pjF_ok _ _ (bgF_ok n 16 f h))
    · rw [if_neg h2]; exact cmtF_ok e0 (wrA_ok b i v h)
  · rw [if_neg h1]; exact h
theorem rdrF_ok {L : LSt} (n i v : Int32) (h : LOk L) : LOk (rdrF L n i v).2 := by
  unfold rdrF
  generalize rflF L.g n i = d
  generalize cellv L.g (16 + 2 * n) = c
  by_cases h1 : d = 0
  · rw [if_pos h1]
    by_cases h2 : c = 0
    · rw [if_neg (fun h => h h2)]; exact h
    · rw [if_pos h2]; exact ⟨h.1, h.2⟩
  · rw [if_neg h1]; exact h
theorem prfF_ok {L : LSt} (e0 : Nat → Int32) (h : LOk L) : LOk (prfF e0 L).2 := by
  unfold prfF
  by_cases h1 : L.kd = 61
  · rw [if_pos h1]; exact asF_ok h
  · rw [if_neg h1]
    by_cases h2 : L.kd = 80
    · rw [if_pos h2]; exact outF_ok _ h
    · rw [if_neg h2]
      by_cases h3 : L.kd = 82
      · rw [if_pos h3]; exact rdrF_ok _ _ _ h
      · rw [if_neg h3]
        by_cases h4 : L.kd = 87
        · rw [if_pos h4]; exact wrrF_ok e0 _ _ _ h
        · rw [if_neg h4]; exact h
theorem stpF_ok {L : LSt} (e0 : Nat → Int32) (h : LOk L) : LOk (stpF e0 L).2 := by
  unfold stpF
  by_cases c : plF L.nu L.wn L.nx < L.wn
  · rw [if_pos c]
    generalize rdU L 120 L.te (nI (plF L.nu L.wn L.nx) * 12) (L.le (plF L.nu L.wn L.nx)) = q
    unfold stpG
    by_cases h1 : q.1 = 0
    · rw [if_pos h1]; exact nxF_ok _ (smU_ok _ h)
    · rw [if_neg h1]
      by_cases h2 : (smU L q.2).kd = 69
      · rw [if_neg (fun g => g h2)]; exact nxF_ok _ (smU_ok _ h)
      · rw [if_pos h2]
        have k := prfF_ok e0 (smU_ok q.2 h)
        generalize prfF e0 (smU L q.2) = s at k ⊢
        unfold stpH
        by_cases h3 : s.1 = 0
        · rw [if_pos h3]; exact nxF_ok _ k
        · rw [if_neg h3]; exact k
  · rw [if_neg c]; exact nxF_ok _ h
theorem stsL_ok (e0 : Nat → Int32) : ∀ (n : Nat) {L : LSt}, LOk L → LOk (stsL e0 n L).2
  | 0, _, h => h
  | n + 1, L, h => by
    show LOk (if (stpF e0 L).1 = 6 then stsL e0 n (stpF e0 L).2 else stpF e0 L).2
    by_cases c : (stpF e0 L).1 = 6
    · rw [if_pos c]; exact stsL_ok e0 n (stpF_ok e0 h)
    · rw [if_neg c]; exact stpF_ok e0 h
theorem stsF_ok {L : LSt} (e0 : Nat → Int32) (x : Int32) (h : LOk L) : LOk (stsF e0 L x).2 := by
  unfold stsF
  by_cases c : L.de = 0
  · rw [if_pos c]; exact stsL_ok e0 _ h
  · rw [if_neg c]; exact h
theorem thenW_ok {L : LSt} {q : Int32 × DS} {k : DS → Int32 × LSt} (h : ∀ d, LOk (k d).2) : LOk (thenW L q k).2 := by
  unfold thenW
  by_cases c : q.1 = 0
  · rw [if_pos c]; exact dieF_ok _
  · rw [if_neg c]; exact h _
theorem fmtF_ok {L : LSt} (e0 e2 : Nat → Int32) (h : LOk L) : LOk (fmtF e0 e2 L).2 := by
  unfold fmtF
  by_cases c : L.de = 0
  · rw [if_pos c]; exact thenW_ok (fun _ => thenW_ok (fun _ => thenW_ok (fun _ => stF_ok _ h)))
  · rw [if_neg c]; exact h
theorem rcvF_ok (L : LSt) (e0 : Nat → Int32) : LOk (rcvF e0 L).2 := by
  unfold rcvF
  generalize rpy e0 (L.ar, 0, L.wr, L.g) = q
  by_cases c : fmtv L.g = 0
  · rw [if_pos c]; exact amF_ok _ (rc0_ok L)
  · rw [if_neg c]
    by_cases d : q.1 = 0
    · rw [if_pos d]; exact amF_ok _ (dieF_ok _)
    · rw [if_neg d]; exact amF_ok _ (stF_ok _ (rc0_ok L))
