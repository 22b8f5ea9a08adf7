def GP (h0 h1 md hi hi0 : Int) : Prop := h0 + 1 ≤ h1 ∨ (h1 = h0 ∧ (md = 3 ∨ (md = 2 ∧ hi + 1 ≤ hi0)))
def GU (md ub : Int) : Prop := md ≠ 0 → ub ≤ 64
def GH (md hi : Int) : Prop := md ≠ 3 → 1 ≤ hi
def GW (md h0 h1 : Int) : Prop := md ≠ 0 → h0 + 1 ≤ h1
