theorem SI.va {X Y : RSt} (h : SI X Y) (hen : Y.en ≤ 15) : SI (vaF X).2 (vaF Y).2 := by
  have s0 : SS (vs0 X) (vs0 Y) := ⟨h, rfl, fun i hi => absurd hi (Nat.not_lt_zero _)⟩
  have hx : X.en ≤ 15 := by rw [h.2.1]; exact hen
  have t := SS.vl 20 0 1 1 s0 (fun _ => ⟨⟨rfl, Nat.le_refl _, rfl, by show 0 + 0 + (X.en - X.at1) ≤ 15; omega⟩, ⟨rfl, Nat.le_refl _, rfl, by show 0 + 0 + (Y.en - Y.at1) ≤ 15; omega⟩⟩)
  unfold vaF va2
  revert t
  generalize vlR 20 0 1 1 (vs0 X) = a
  generalize vlR 20 0 1 1 (vs0 Y) = c
  obtain ⟨a1, a2⟩ := a
  obtain ⟨c1, c2⟩ := c
  intro t
  have t1 : SS (va1 (a1, a2)) (va1 (c1, c2)) := ⟨t.2.1.go (by rw [show a1 = c1 from t.1]; rw [show a2.go = c2.go from t.2.1.2.2.1]), t.2.2⟩
  revert t1
  generalize va1 (a1, a2) = A
  generalize va1 (c1, c2) = C
  intro t1
  show SI (rdE A.sn A) (rdE C.sn C)
  rw [t1.2.1]
  exact (SS.xrdE _ t1).1
