theorem rwE_ro {g h : Nat → Int32} (ge : GE g h) {M : RSt} (hM : M.dk = h) {f j : Nat} (hf : f < 32) (hj : j ≤ 15) (v : Int32) (c : Nat → Int32) {k : Nat} (hk : k < 16) : putv (tkR g (fun _ => 0) 0 (nI f) 16) (nI j) v k = fl (16 * 0) 0 16 (rcV M f 16 (nI j) v) c k := by
  rw [putv_in (by omega), fl_in (by omega), rcV_1, hM, show k - 16 * 0 = k by omega]
  by_cases a1 : k = j
  · have ej : ¬ ¬ nI k = nI j := fun g => g (by rw [a1])
    rw [if_neg ej, a1, pk_us]
  · have ej : ¬ nI k = nI j := fun g => a1 ((nI_eq (by omega) (by omega)).mp g)
    rw [pk_un a1, if_pos ej, tkR_in ge hf 16 (Nat.le_refl _) k, if_pos (by omega)]
theorem rwE_hd (w : Nat → Int32) (x : Int32) (k : Nat) : upd (upd (fun _ => 0) 0 (nI 1)) 1 x k = if k = 0 then nI (0 + 1) else if 0 + 1 < k then 0 else upd w 0 x (k - 1) := by
  by_cases a1 : k = 1
  · have h0 : ¬ k = 0 := by omega
    have h1 : ¬ 0 + 1 < k := by omega
    rw [if_neg h0, if_neg h1, a1, pk_us, show 1 - 1 = 0 from rfl, pk_us]
  · rw [pk_un a1]
    by_cases a : k = 0
    · rw [if_pos a, a, pk_us]
    · have h1 : 0 + 1 < k := by omega
      rw [pk_un a, if_neg a, if_pos h1]
theorem myF_v (Y : RSt) : ∀ k, k < (myF Y 0).my → vp_in ((myF Y 0).wh k) 32 := fun k hk => by
  rw [myF_my] at hk
  exact absurd hk (Nat.not_lt_zero _)
theorem TIE_rwE {L : LSt} {Y : RSt} {j f : Nat} {v : Int32} {e0 : Nat → Int32} (h : TIE L Y) (ge : GE L.g Y.dk) (hd : Y.de = 0) (hj : j ≤ 15) (hf2 : f < 32) (he0 : ∀ i, i < 16 → e0 i = 0) : (cmtF e0 (wrA L (nI f) (nI j) v)).1 = (dnR (cmR (rwC (myF Y 0) f 16 (nI j) v))).1 ∧ TIE (cmtF e0 (wrA L (nI f) (nI j) v)).2 (dnR (cmR (rwC (myF Y 0) f 16 (nI j) v))).2 := by
  have dM := myF_dk Y 0
  have mM := myF_my Y 0
  have eM := myF_de Y 0
  have vM := myF_v Y
  have tM := TIE_my 0 h
  revert dM mM eM vM tM
  generalize myF Y 0 = M
  intro dM mM eM vM tM
  have hwh := rwC_wh (q := f) (z := 16) (i := nI j) (v := v) hf2 vM
  have t2 := TIE_wrA (nI f) (nI j) v (TIE_rwC f 16 (nI j) v tM)
  have yde : (rwC M f 16 (nI j) v).de = 0 := by rw [rwC_de, eM]; exact hd
  have ymy : (rwC M f 16 (nI j) v).my = 1 := by rw [rwC_my, mM]
  have yce := rwC_ce M f 16 (nI j) v
  have yhd := hdS_rw M f 16 (nI j) v
  rw [mM] at yce yhd
  refine TIE_cm t2 yde (by rw [wrA_jt, ymy]) (by rw [ymy]; decide) (fun k hk => ?_) (fun k hk => ?_) hwh he0
  · rw [ymy] at hk
    rw [wrA_ro, yce]
    exact rwE_ro ge dM hf2 hj v M.ce (by omega)
  · rw [wrA_hd, yhd k]
    exact rwE_hd M.wh (nI f) k
