theorem FOK_sa {Y : RSt} {n b : Nat} (li : LI Y) (ok : FOK Y.dk) (hn : n < 8) (hc0 : 1 ≤ cnL Y.ln 99) (hb1 : 9 ≤ b) (hb2 : b + bl (cnL Y.ln 99) ≤ 32) (hu : ∀ n', n' < 8 → n' ≠ n → ∀ k, k < bl (cnL Y.ln 99) → ¬ OC Y.dk n' (b + k)) : FOK (hN Y.dk (sy6 Y n b).wh (sy6 Y n b).ce (1 + bl (cnL Y.ln 99))) := by
  have hc := li.2.1
  have ll := li.2.2
  have sp := svN_sp (sy3 (sy2 Y n b)) (sy3 (sy2 Y n b)).ce (sy3_e0 Y n b) (by rw [(sy3_ln Y n b).1]; exact hc) 99 (Nat.le_refl _)
  have c16 := sy3_16 Y n b
  have clo := fun i hi => sy3_lo Y n b (i := i) hi
  have eln := sy3_ln Y n b
  have w0 := sy6_w0 Y n b
  have wk := fun k hk => sy6_wk Y n b (k := k) hk
  rw [sy6_c]
  revert sp c16 clo eln w0 wk
  generalize (sy6 Y n b).wh = wh
  generalize sy3 (sy2 Y n b) = M
  intro sp c16 clo eln w0 wk
  rw [eln.1] at sp
  refine FOK_dir (v := svN M M.ce 99) (q := b) (m := bl (cnL Y.ln 99)) (x := nI (1 + 4 * cnL Y.ln 99)) (y := nI b) hn ok hb1 hb2 (fun i hi => ?_) (fun i _ => ?_) hu (Or.inr (Or.inr ⟨cnL Y.ln 99, hc0, hc, rfl, rfl, rfl, ?_, fun k hk => ?_⟩))
  · rw [sp.1 i (Or.inl (by omega))]
    exact clo i hi
  · refine apQ (t := fun k => (wh k).toNatClampNeg) hb1 (by show (wh 0).toNatClampNeg = 1; rw [w0]; rfl) (bl (cnL Y.ln 99)) (fun k hk => ?_) i
    show (wh (1 + k)).toNatClampNeg = b + k
    rw [wk k hk, nI_clamp (by omega)]
  · rw [sp.1 16 (Or.inl (by omega))]
    exact c16
  · obtain ⟨l, l1, l2, l3, l4⟩ := cnL_ex Y.ln 99 k hk
    obtain ⟨r1, r2⟩ := sp.2 l l1 l2 l3
    rw [l4] at r1
    rw [l4] at r2
    obtain ⟨d, d1, d2, d3⟩ := (ll l l1 (by omega)).resolve_left l3
    refine ⟨l, d, l1, by omega, d1, ?_, ?_⟩
    · rw [r1, d2, show (16 : Int32) * nI l = nI (16 * l) from pk_mul 16 l, nI_add]
    · have as := GL_asc (by omega) d3
      have cp := ch_pk (Y := M) (l := l) (d := d) (g := svN M M.ce 99) (a := 17 + 4 * k) d1 (by rw [eln.1]; exact d2) (by rw [eln.2]; exact as) r2
      rw [eln.2] at cp
      exact GL_cg (by omega) (fun i hi => (cp i hi).symm) d3
