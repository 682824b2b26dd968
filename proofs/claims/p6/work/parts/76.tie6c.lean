theorem TIE_rwE {L : LSt} {Y : RSt} {j f : Nat} {v : Int32} {e0 : Nat → Int32} (h : TIE L Y) (ge : GE L.g Y.dk) (hd : Y.de = 0) (hj : j ≤ 15) (hf2 : f < 32) (he0 : ∀ i, i < 16 → e0 i = 0) : (cmtF e0 (wrA L (nI f) (nI j) v)).1 = (dnR (cmR (rwC (myF Y 0) f 16 (nI j) v))).1 ∧ TIE (cmtF e0 (wrA L (nI f) (nI j) v)).2 (dnR (cmR (rwC (myF Y 0) f 16 (nI j) v))).2 := by
  have hwh := rwC_wh (Y := myF Y 0) (q := f) (z := 16) (i := nI j) (v := v) hf2 (fun k hk => absurd (show k < 0 from hk) (by omega))
  have t2 := TIE_wrA (nI f) (nI j) v (TIE_rwC f 16 (nI j) v (TIE_my 0 h))
  have pro := wrA_ro L (nI f) (nI j) v
  have phd := wrA_hd L (nI f) (nI j) v
  have pjt := wrA_jt L (nI f) (nI j) v
  have yde : (rwC (myF Y 0) f 16 (nI j) v).de = 0 := by rw [rwC_de, myF_de]; exact hd
  have ymy : (rwC (myF Y 0) f 16 (nI j) v).my = 1 := by rw [rwC_my, myF_my]
  have yce := rwC_ce (myF Y 0) f 16 (nI j) v
  rw [myF_my, myF_ce] at yce
  have yhd := hdS_rw (myF Y 0) f 16 (nI j) v
  rw [myF_my, myF_w] at yhd
  revert t2 pro phd pjt yde ymy yce yhd hwh
  generalize wrA L (nI f) (nI j) v = L2
  generalize rwC (myF Y 0) f 16 (nI j) v = Y2
  intro hwh t2 pro phd pjt yde ymy yce yhd
  refine TIE_cm t2 yde (by rw [pjt, ymy]) (by rw [ymy]; decide) (fun k hk => ?_) (fun k hk => ?_) hwh he0
  · rw [ymy] at hk
    rw [pro, yce, putv_in (by omega), fl_in (by omega), rcV_1, myF_dk, show k - 16 * 0 = k by omega]
    by_cases a1 : k = j
    · have ej : ¬ ¬ nI k = nI j := fun g => g (by rw [a1])
      rw [if_neg ej, a1, pk_us]
    · have ej : ¬ nI k = nI j := fun g => a1 ((nI_eq (by omega) (by omega)).mp g)
      rw [pk_un a1, if_pos ej, tkR_in ge hf2 16 (Nat.le_refl _) k, if_pos (by omega)]
  · rw [phd, yhd k]
    by_cases a1 : k = 1
    · rw [a1, pk_us, if_neg (by decide), if_neg (by omega), show 1 - 1 = 0 from rfl, pk_us]
    · rw [pk_un a1]
      by_cases a : k = 0
      · rw [a, pk_us, if_pos rfl]
      · rw [pk_un a, if_neg a, if_pos (by omega)]
