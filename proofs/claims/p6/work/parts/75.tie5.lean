/-! class and reference tied: transactions -/
theorem putv_in {ro : Nat → Int32} {k : Nat} {v : Int32} (h : k < 96) : putv ro (nI k) v = upd ro k v := by
  unfold putv
  have e1 : ¬ (96 : Int32) ≤ nI k := fun e => absurd ((nI_leI (a := 96) (by decide) (by omega)).mp e) (by omega)
  rw [if_neg (nI_pos (by omega)), if_neg e1, nI_clamp (by omega)]
theorem tkR_in {g h ro : Nat → Int32} (e : GE g h) {b : Nat} (hb : b < 32) : ∀ k, k ≤ 16 → ∀ i, tkR g ro 0 (nI b) k i = if i < k then h (16 * b + i) else ro i
  | 0, _, i => by rw [if_neg (by omega)]; rfl
  | k + 1, hk, i => by
    have e1 : nI 0 * 16 + nI k = nI k := by
      have a : nI 0 * 16 = nI (0 * 16) := pk_mul 0 16
      rw [a, nI_add, show 0 * 16 + k = k by omega]
    have e2 : nI b * 16 + nI k = nI (16 * b + k) := by
      have a : nI b * 16 = nI (b * 16) := pk_mul b 16
      rw [a, nI_add, Nat.mul_comm b 16]
    show putv (tkR g ro 0 (nI b) k) (nI 0 * 16 + nI k) (cellv g (nI b * 16 + nI k)) i = _
    rw [e1, e2, putv_in (by omega), cellv_in (by omega), e _ (by omega)]
    by_cases c : i = k
    · rw [c, pk_us, if_pos (by omega)]
    · rw [pk_un c, tkR_in e hb k (by omega) i]
      by_cases d : i < k
      · rw [if_pos d, if_pos (by omega)]
      · rw [if_neg d, if_neg (by omega)]
theorem bgL_ro (L : LSt) (f : Int32) : ∀ k, (bgL L f k).ro = L.ro
  | 0 => rfl
  | k + 1 => bgL_ro L f k
theorem bg_ro {L : LSt} {h : Nat → Int32} (e : GE L.g h) {n cn : Nat} {f : Int32} (hn : n < 8) : ∀ i, (bgF L (nI n) cn f).ro i = if i = 2 * n + 1 then f else if i = 2 * n then nI cn else if i < 16 then h (16 + i) else 0 := by
  intro i
  unfold bgF
  rw [bgL_ro]
  show putv (putv (tkR L.g (fun _ => 0) 0 (nI 1) 16) (2 * nI n) (nI cn)) (2 * nI n + 1) f i = _
  have e1 : (2 : Int32) * nI n = nI (2 * n) := pk_mul 2 n
  have e2 : nI (2 * n) + 1 = nI (2 * n + 1) := nI_1 _
  rw [e1, e2, putv_in (by omega), putv_in (by omega)]
  by_cases c : i = 2 * n + 1
  · rw [c, pk_us, if_pos rfl]
  · rw [pk_un c, if_neg c]
    by_cases d : i = 2 * n
    · rw [d, pk_us, if_pos rfl]
    · rw [pk_un d, if_neg d]
      exact tkR_in e (b := 1) (by decide) 16 (Nat.le_refl _) i
theorem bgL_hd (L : LSt) (n : Int32) (cn q : Nat) : ∀ k, k ≤ 5 → ∀ i, (bgL (bg1 L n cn (nI q)) (nI q) k).hd i = if i = 0 then nI (1 + k) else if i = 1 then 1 else if i < 2 + k then nI (q + (i - 2)) else 0
  | 0, _, i => by
    show upd (upd (fun _ => 0) 0 (nI 1)) 1 1 i = _
    by_cases c : i = 1
    · rw [c, pk_us, if_neg (by decide), if_pos rfl]
    · rw [pk_un c]
      by_cases d : i = 0
      · rw [d, pk_us, if_pos rfl]
      · rw [pk_un d, if_neg d, if_neg c, if_neg (by omega)]
  | k + 1, hk, i => by
    have j := bgL_jt (bg1 L n cn (nI q)) (nI q) k
    have j1 : (bgL (bg1 L n cn (nI q)) (nI q) k).jt + 1 = 1 + (k + 1) := by rw [j]; show 1 + k + 1 = _; omega
    show upd (upd (bgL (bg1 L n cn (nI q)) (nI q) k).hd 0 (nI ((bgL (bg1 L n cn (nI q)) (nI q) k).jt + 1))) ((bgL (bg1 L n cn (nI q)) (nI q) k).jt + 1) (nI q + nI k) i = _
    rw [j1, nI_add]
    by_cases c : i = 1 + (k + 1)
    · rw [c, pk_us, if_neg (by omega), if_neg (by omega), if_pos (by omega), show 1 + (k + 1) - 2 = k by omega]
    · rw [pk_un c]
      by_cases d : i = 0
      · rw [d, pk_us, if_pos rfl]
      · rw [pk_un d, bgL_hd L n cn q k (by omega) i, if_neg d, if_neg d]
        by_cases g : i = 1
        · rw [if_pos g, if_pos g]
        · rw [if_neg g, if_neg g]
          by_cases z : i < 2 + k
          · rw [if_pos z, if_pos (by omega)]
          · rw [if_neg z, if_neg (by omega)]
theorem TIE_tk {L : LSt} {Y : RSt} (b : Int32) (h : TIE L Y) : TIE (tkF L b) Y := h
theorem TIE_bg1 {L : LSt} {Y : RSt} (n : Int32) (cn : Nat) (f : Int32) (h : TIE L Y) : TIE (bg1 L n cn f) Y := h
theorem TIE_bgL {L : LSt} {Y : RSt} (f : Int32) (h : TIE L Y) : ∀ k, TIE (bgL L f k) Y
  | 0 => h
  | k + 1 => TIE_tk _ (TIE_bgL f h k)
theorem TIE_bg {L : LSt} {Y : RSt} (n : Int32) (cn : Nat) (f : Int32) (h : TIE L Y) : TIE (bgF L n cn f) Y := TIE_bgL f (TIE_bg1 n cn f h) _
theorem TIE_pj {L : LSt} {Y : RSt} (x v : Int32) (h : TIE L Y) : TIE (pjF L x v) Y := h
theorem TIE_di {L : LSt} {Y : RSt} (n : Nat) (x y : Int32) (h : TIE L Y) : TIE L (diR Y n x y) := h
theorem TIE_my {L : LSt} {Y : RSt} (x : Nat) (h : TIE L Y) : TIE L (myF Y x) := h
theorem TIE_rwC {L : LSt} {Y : RSt} (q : Nat) (z i v : Int32) (h : TIE L Y) : TIE L (rwC Y q z i v) := h
theorem TIE_wrA {L : LSt} {Y : RSt} (b i v : Int32) (h : TIE L Y) : TIE (wrA L b i v) Y := h
theorem hdS_di (Y : RSt) (n : Nat) (x y : Int32) (i : Nat) : hdS (diR Y n x y) i = if i = 0 then nI 1 else if 1 < i then 0 else upd Y.wh 0 1 (i - 1) := rfl
theorem TIE_dr {L : LSt} {Y : RSt} {n : Nat} {e0 : Nat → Int32} (h : TIE L Y) (hd : Y.de = 0) (hn : n < 8) (he0 : ∀ i, i < 16 → e0 i = 0) : (delF e0 L (nI n)).1 = (drR Y n).1 ∧ TIE (delF e0 L (nI n)).2 (drR Y n).2 := by
  have ge : GE L.g Y.dk := h.1.2.2.2
  unfold delF drR
  rw [cv16 ge hn]
  by_cases c : Y.dk (16 + 2 * n) = 0
  · have nc : ¬ ¬ Y.dk (16 + 2 * n) = 0 := fun g => g c
    rw [if_neg nc, if_neg nc]
    exact mk2 rfl h
  · rw [if_pos c, if_pos c]
    have hro := bg_ro ge (n := n) (cn := 0) (f := 0) hn
    have hhd := bgL_hd L (nI n) 0 0 0 (by decide)
    have hce := diR_c Y n 0 0
    refine TIE_cm (TIE_bg (nI n) 0 0 (TIE_di n 0 0 h)) hd (bgF_jt L (nI n) 0 0) (show 1 ≤ 6 by decide) (fun i hi => ?_) (fun i hi => ?_) (diR_wh Y n 0 0) he0
    · have hi : i < 16 * 1 := hi
      rw [hro i, hce i (by omega)]
      by_cases a : i = 2 * n + 1
      · rw [if_pos a, if_neg (by omega), if_pos a]
      · rw [if_neg a]
        by_cases b : i = 2 * n
        · rw [if_pos b, if_pos b]; rfl
        · rw [if_neg b, if_neg b, if_neg a, if_pos (by omega)]
    · have e : (bgF L (nI n) 0 0).hd i = (bgL (bg1 L (nI n) 0 (nI 0)) (nI 0) 0).hd i := rfl
      rw [e, hhd i, hdS_di]
      by_cases a : i = 0
      · rw [if_pos a, if_pos a]
      · rw [if_neg a, if_neg a]
        by_cases b : i = 1
        · rw [if_pos b, if_neg (by omega), b, show 1 - 1 = 0 from rfl, pk_us]
        · rw [if_neg b, if_neg (by omega), if_pos (by omega)]
