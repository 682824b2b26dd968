theorem hN_1 (g w v : Nat → Int32) (j : Nat) : hN g w v 1 j = fl (16 * (w 0).toNatClampNeg) 0 16 (fun i => v (16 * 0 + i)) g j := rfl
theorem RI_rw {q : Nat} {Y : RSt} {n : Nat} {i v : Int32} (h : RI q Y) (hd : Y.de = 0) (hn : n < 8) : RI q (rwR Y n i v).2 ∧ ((rwR Y n i v).1 = 0 → (rwR Y n i v).2.de = 0) := by
  have ok := (DI_fok h.2.1 hd).2
  unfold rwR
  by_cases c1 : fmtv Y.dk = 0
  · rw [if_neg (fun g => g c1)]; exact ⟨h, fun _ => hd⟩
  rw [if_pos c1]
  by_cases c2 : i < 0
  · rw [if_pos c2]; exact ⟨h, fun _ => hd⟩
  rw [if_neg c2]
  by_cases c3 : i ≤ 15
  · rw [if_neg (fun g => g c3)]
    by_cases c4 : Y.dk (16 + 2 * n) = 0
    · rw [if_pos c4]
      by_cases c5 : rwB Y n = -1
      · rw [if_neg (fun g => g c5)]; exact ⟨h, fun _ => hd⟩
      · rw [if_pos c5]
        obtain ⟨b, hb1, hb2, eb, hu⟩ := rmB (m := 1) (by decide) hn c5
        have eb : rwB Y n = nI b := eb
        rw [eb, nI_clamp (by omega), c4]
        apply dn_mk
        refine RI_cm (S := rwC (diR Y n 16 (nI b)) b 0 i v) h ⟨rfl, rfl, rfl, rfl, rfl⟩ rfl c1 (show 1 + 1 ≤ 6 by decide) (rwC_t ⟨hb1, by omega⟩ (diR_t Y n 16 (nI b))) (fun _ => ?_)
        refine FOK_dir (v := (rwC (diR Y n 16 (nI b)) b 0 i v).ce) (q := b) (m := 1) (x := 16) (y := nI b) hn ok hb1 hb2 (fun i hi => ?_) (fun i _ => ?_) hu (Or.inr (Or.inl ⟨rfl, rfl, rfl⟩))
        · show fl (16 * 1) 0 16 _ (diR Y n 16 (nI b)).ce i = _
          rw [fl_out (by omega)]
          exact diR_c Y n 16 (nI b) i hi
        · refine apQ (t := fun k => ((rwC (diR Y n 16 (nI b)) b 0 _ v).wh k).toNatClampNeg) hb1 ?_ 1 (fun k hk => ?_) i
          · show (upd (upd Y.wh 0 1) 1 (nI b) 0).toNatClampNeg = 1
            rw [pk_un (by decide), pk_us]
            rfl
          · rw [show k = 0 by omega]
            show (upd (upd Y.wh 0 1) 1 (nI b) (1 + 0)).toNatClampNeg = b + 0
            rw [show 1 + 0 = 1 from rfl, pk_us, nI_clamp (by omega)]
            rfl
    · rw [if_neg c4]
      by_cases c5 : Y.dk (16 + 2 * n) = 16
      · rw [if_pos c5]
        obtain ⟨f, hf1, hf2, ef⟩ := RI_hrec h hd n hn c5
        rw [ef, nI_clamp (by omega), c5]
        apply dn_mk
        refine RI_cm (S := rwC (myF Y 0) f 16 i v) h ⟨rfl, rfl, rfl, rfl, rfl⟩ rfl c1 (show 0 + 1 ≤ 6 by decide) (rwC_t (Y := myF Y 0) ⟨hf1, hf2⟩ (fun k hk => absurd (show k < 0 from hk) (by omega))) (fun _ => ?_)
        have et : ((rwC (myF Y 0) f 16 i v).wh 0).toNatClampNeg = f := by
          show (upd Y.wh 0 (nI f) 0).toNatClampNeg = f
          rw [pk_us, nI_clamp (by omega)]
        have eh : ∀ j, (j < 16 * f ∨ 16 * f + 16 ≤ j) → Y.dk j = hN Y.dk (rwC (myF Y 0) f 16 i v).wh (rwC (myF Y 0) f 16 i v).ce (rwC (myF Y 0) f 16 i v).my j := fun j hj => by
          rw [show (rwC (myF Y 0) f 16 i v).my = 1 from rfl, hN_1, et, fl_out hj]
        refine FOK_new (n := n) (q := f) (m := 1) hn ok (fun n' hn' hne => ⟨eh _ (by omega), eh _ (by omega)⟩) (fun j a b c => eh j (by omega)) (fun n' hn' hne k hk o => ?_) (Or.inr (Or.inl ⟨f, by rw [← eh _ (by omega)]; exact c5, by rw [← eh _ (by omega)]; exact ef, hf1, hf2⟩)) (fun b o => ?_)
        · rw [show f + k = f by omega] at o
          exact ok.2 n n' f hn hn' (fun e => hne e.symm) ⟨f, ef, hf2, Or.inl ⟨c5, rfl⟩⟩ o
        · have o := OC_cg (eh _ (by omega)).symm (eh _ (by omega)).symm o
          obtain ⟨f', ef', hf', o⟩ := o
          have ff : f = f' := (nI_eq (by omega) (by omega)).mp (ef.symm.trans ef')
          rcases o with ⟨_, z⟩ | ⟨c', c1', c2', z, _⟩
          · omega
          · exact absurd ((nI_eq (a := 16) (by decide) (by omega)).mp (c5.symm.trans z)) (by omega)
      · rw [if_neg c5]; exact ⟨h, fun _ => hd⟩
  · rw [if_pos c3]; exact ⟨h, fun _ => hd⟩
