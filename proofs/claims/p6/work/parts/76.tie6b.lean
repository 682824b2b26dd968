theorem rwC_de (Y : RSt) (q : Nat) (z i v : Int32) : (rwC Y q z i v).de = Y.de := rfl
theorem rwC_my (Y : RSt) (q : Nat) (z i v : Int32) : (rwC Y q z i v).my = Y.my + 1 := rfl
theorem rwC_ce (Y : RSt) (q : Nat) (z i v : Int32) : (rwC Y q z i v).ce = fl (16 * Y.my) 0 16 (rcV Y q z i v) Y.ce := rfl
theorem diR_de (Y : RSt) (n : Nat) (x y : Int32) : (diR Y n x y).de = Y.de := rfl
theorem diR_my (Y : RSt) (n : Nat) (x y : Int32) : (diR Y n x y).my = 1 := rfl
theorem diR_w (Y : RSt) (n : Nat) (x y : Int32) : (diR Y n x y).wh = upd Y.wh 0 1 := rfl
theorem myF_de (Y : RSt) (x : Nat) : (myF Y x).de = Y.de := rfl
theorem myF_my (Y : RSt) (x : Nat) : (myF Y x).my = x := rfl
theorem myF_w (Y : RSt) (x : Nat) : (myF Y x).wh = Y.wh := rfl
theorem myF_ce (Y : RSt) (x : Nat) : (myF Y x).ce = Y.ce := rfl
theorem myF_dk (Y : RSt) (x : Nat) : (myF Y x).dk = Y.dk := rfl
theorem pjF_jt (L : LSt) (x v : Int32) : (pjF L x v).jt = L.jt := rfl
theorem pjF_ro (L : LSt) (x v : Int32) : (pjF L x v).ro = putv L.ro x v := rfl
theorem pjF_hd (L : LSt) (x v : Int32) : (pjF L x v).hd = L.hd := rfl
theorem wrA_jt (L : LSt) (b i v : Int32) : (wrA L b i v).jt = 1 := rfl
theorem wrA_ro (L : LSt) (b i v : Int32) : (wrA L b i v).ro = putv (tkR L.g (fun _ => 0) 0 b 16) i v := rfl
theorem wrA_hd (L : LSt) (b i v : Int32) : (wrA L b i v).hd = upd (upd (fun _ => 0) 0 (nI 1)) 1 b := rfl
theorem rcV_0 (Y : RSt) (q : Nat) (i v : Int32) (k : Nat) : rcV Y q 0 i v k = if ¬ nI k = i then 0 else v := by
  unfold rcV
  have n0 : ¬ ¬ (0 : Int32) = 0 := fun g => g rfl
  rw [if_neg n0]
theorem rcV_1 (Y : RSt) (q : Nat) (i v : Int32) (k : Nat) : rcV Y q 16 i v k = if ¬ nI k = i then Y.dk (16 * q + k) else v := by
  unfold rcV
  rw [if_pos (show ¬ (16 : Int32) = 0 by decide)]
theorem bg_hd1 (L : LSt) (n : Int32) (b : Nat) : (bgF L n 16 (nI b)).hd = (bgL (bg1 L n 16 (nI b)) (nI b) 1).hd := rfl
theorem TIE_rwN {L : LSt} {Y : RSt} {n j b : Nat} {v : Int32} {e0 : Nat → Int32} (h : TIE L Y) (ge : GE L.g Y.dk) (hd : Y.de = 0) (hn : n < 8) (hj : j ≤ 15) (hb1 : 9 ≤ b) (hb2 : b + 1 ≤ 32) (he0 : ∀ i, i < 16 → e0 i = 0) : (cmtF e0 (pjF (bgF L (nI n) 16 (nI b)) (16 + nI j) v)).1 = (dnR (cmR (rwC (diR Y n 16 (nI b)) b 0 (nI j) v))).1 ∧ TIE (cmtF e0 (pjF (bgF L (nI n) 16 (nI b)) (16 + nI j) v)).2 (dnR (cmR (rwC (diR Y n 16 (nI b)) b 0 (nI j) v))).2 := by
  have hro := bg_ro ge (n := n) (cn := 16) (f := nI b) hn
  have hhd := bgL_hd L (nI n) 16 b 1 (by decide)
  have hce := diR_c Y n 16 (nI b)
  have hjt := bgF_jt L (nI n) 16 (nI b)
  have hwh := rwC_wh (q := b) (z := 0) (i := nI j) (v := v) (by omega) (diR_wh Y n 16 (nI b))
  have t2 := TIE_pj (16 + nI j) v (TIE_bg (nI n) 16 (nI b) (TIE_rwC b 0 (nI j) v (TIE_di n 16 (nI b) h)))
  have e16 : (16 : Int32) + nI j = nI (16 + j) := nI_add 16 j
  have pro := pjF_ro (bgF L (nI n) 16 (nI b)) (16 + nI j) v
  have phd := pjF_hd (bgF L (nI n) 16 (nI b)) (16 + nI j) v
  have pjt := pjF_jt (bgF L (nI n) 16 (nI b)) (16 + nI j) v
  rw [bg_hd1] at phd
  have yde : (rwC (diR Y n 16 (nI b)) b 0 (nI j) v).de = 0 := by rw [rwC_de, diR_de]; exact hd
  have ymy : (rwC (diR Y n 16 (nI b)) b 0 (nI j) v).my = 2 := by rw [rwC_my, diR_my]
  have yce := rwC_ce (diR Y n 16 (nI b)) b 0 (nI j) v
  rw [diR_my] at yce
  have yhd := hdS_rw (diR Y n 16 (nI b)) b 0 (nI j) v
  rw [diR_my, diR_w] at yhd
  revert t2 pro phd pjt yde ymy yce yhd hwh
  generalize pjF (bgF L (nI n) 16 (nI b)) (16 + nI j) v = L2
  generalize rwC (diR Y n 16 (nI b)) b 0 (nI j) v = Y2
  intro hwh t2 pro phd pjt yde ymy yce yhd
  refine TIE_cm t2 yde (by rw [pjt, hjt, ymy]) (by rw [ymy]; decide) (fun k hk => ?_) (fun k hk => ?_) hwh he0
  · rw [ymy] at hk
    rw [pro, yce, e16, putv_in (by omega)]
    by_cases a : k < 16
    · rw [pk_un (by omega), hro k, fl_out (by omega), hce k a]
      by_cases a1 : k = 2 * n + 1
      · rw [if_pos a1, if_neg (by omega), if_pos a1]
      · rw [if_neg a1]
        by_cases a2 : k = 2 * n
        · rw [if_pos a2, if_pos a2]; rfl
        · rw [if_neg a2, if_neg a2, if_neg a1, if_pos a]
    · rw [fl_in (by omega), rcV_0]
      by_cases a1 : k = 16 + j
      · have ej : ¬ ¬ nI (k - 16 * 1) = nI j := fun g => g (by rw [a1, show 16 + j - 16 * 1 = j by omega])
        rw [if_neg ej, a1, pk_us]
      · have ej : ¬ nI (k - 16 * 1) = nI j := fun g => a1 (by have := (nI_eq (by omega) (by omega)).mp g; omega)
        rw [pk_un a1, if_pos ej, hro k, if_neg (by omega), if_neg (by omega), if_neg a]
  · rw [phd, hhd k, yhd k]
    by_cases a : k = 0
    · rw [if_pos a, if_pos a]
    · rw [if_neg a, if_neg a]
      by_cases a1 : k = 1
      · rw [if_pos a1, if_neg (by omega), a1, show 1 - 1 = 0 from rfl, pk_un (by decide), pk_us]
      · rw [if_neg a1]
        by_cases a2 : k = 2
        · rw [if_pos (by omega), if_neg (by omega), a2, show 2 - 1 = 1 from rfl, pk_us, show b + (2 - 2) = b from rfl]
        · rw [if_neg (by omega), if_pos (by omega)]
