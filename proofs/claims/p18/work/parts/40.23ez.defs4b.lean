def GPc (h0 h1 md hi hi0 : Int) : Prop := h0 + 1 ≤ h1 ∨ (h1 = h0 ∧ ((md = 3 ∧ hi ≤ hi0) ∨ (md = 2 ∧ hi + 1 ≤ hi0)))
def GU (md ub : Int) : Prop := md ≠ 0 → ub ≤ 64
def GH (md hi : Int) : Prop := md ≠ 3 → 1 ≤ hi
def GW (md h0 h1 : Int) : Prop := md ≠ 0 → h0 + 1 ≤ h1
theorem GP_le {a b md hi hi0 : Int} (h : GPc a b md hi hi0) : a ≤ b := by
  unfold GPc at h
  omega
theorem GP_mu {a b md hi hi0 : Int} (h : GPc a b md hi hi0) (h1 : 0 ≤ hi ∧ hi ≤ 60) (h2 : 0 ≤ md ∧ md ≤ 3) (h3 : 0 ≤ hi0) : 200 * (4000 - b) + 3 * hi + (3 - md) < 200 * (4000 - a) + 3 * hi0 + 1 := by
  unfold GPc at h
  omega
theorem GW_g {a b md hi hi0 h0 : Int} (h : GPc a b md hi hi0) (h1 : h0 + 1 ≤ a) : GW md h0 b := fun _ => by
  have := GP_le h
  omega
