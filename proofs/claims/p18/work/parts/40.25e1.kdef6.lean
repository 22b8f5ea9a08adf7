theorem DE_n {n n' : Int} {kd sl ar ir : Int → Int} (H : DEp n kd sl ar ir) (e : n' = n) : DEp n' kd sl ar ir := by
  rw [e]
  exact H
