theorem SS_pcG {X Y : RSt} (h : SS X Y) {g g' : Int32} (eg : g = g') {n n' : Nat} (en : n = n') (v v' : Int32) : SS (pcG X g n v) (pcG Y g' n' v') := ⟨⟨en, h.1.2.1, eg, h.1.2.2.2⟩, h.2⟩
theorem pc2_G (c v : Int32) (k : Nat) (Y : RSt) : pc2 c (v, k, Y) = pcG Y (pgo Y.go c k) (Y.at1 + (if mvr c = 0 then 0 else 1)) v := rfl
