def mkT (t : Nat → Int32) (d : Nat) : RSt := (0, 0, 0, 0, 0, 0, 0, 0, 0, 0, d, 1, 0, 0, 0, fun _ => 0, fun _ => 0, fun _ => 0, fun _ => 0, fun _ => 0, t, fun _ => 0, fun _ => 0, fun _ => 0, fun _ => 0)
def GL (t : Nat → Int32) (d : Nat) : Prop := ¬ (sR0 (mkT t d)).2.go = 0
theorem GL_of {X : RSt} {t : Nat → Int32} {d : Nat} (h1 : X.at1 = 0) (h2 : X.en = d) (h3 : X.go = 1) (h4 : ∀ i, i < d → TX X i = t i) : SI X (mkT t d) := ⟨h1, h2, h3, fun i hi => by
  rw [h4 i hi]
  show t i = (if (0 : Int32) = 0 then t (0 + i) else _)
  rw [if_pos rfl, Nat.zero_add]⟩
theorem GL_cg {t t' : Nat → Int32} {d : Nat} (hd : d ≤ 15) (h : ∀ i, i < d → t i = t' i) (g : GL t d) : GL t' d := by
  have s : SI (mkT t d) (mkT t' d) := GL_of rfl rfl rfl (fun i hi => by
    show (if (0 : Int32) = 0 then t (0 + i) else _) = t' i
    rw [if_pos rfl, Nat.zero_add]
    exact h i hi)
  unfold GL at g ⊢
  rw [← (s.xsR0 hd).2]
  exact g
