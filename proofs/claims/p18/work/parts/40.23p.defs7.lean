/-! ===== STATES that lead to others ===== -/
def LdK (et so cs cg : Int → Int) (d k u : Int) : Prop := (0 ≤ et d ∧ so (et d) = k) ∨ ∃ c, 8 * d ≤ c ∧ c < u ∧ 0 ≤ cg c ∧ so (cg c) = k
def Ld (et so cs cg : Int → Int) (d k : Int) : Prop := LdK et so cs cg d k (8 * d + cs d)
section LDS
variable {et so cs cg ex : Int → Int} {d k u de : Int}
theorem LdK_m (h : LdK et so cs cg d k u) : LdK et so cs cg d k (u + 1) := by
  rcases h with h | ⟨c, a, b, e⟩
  · exact Or.inl h
  · exact Or.inr ⟨c, a, by omega, e⟩
theorem LdK_n (h0 : 8 * d ≤ u) (h1 : 0 ≤ cg u) (h2 : so (cg u) = k) : LdK et so cs cg d k (u + 1) := Or.inr ⟨u, h0, by omega, h1, h2⟩
theorem LdK_no (h : ¬ LdK et so cs cg d k u) (hn : ¬ (0 ≤ cg u ∧ so (cg u) = k)) : ¬ LdK et so cs cg d k (u + 1) := by
  intro q
  rcases q with q | ⟨c, a, b, e⟩
  · exact h (Or.inl q)
  · by_cases ec : c = u
    · subst ec
      exact hn e
    · exact h (Or.inr ⟨c, a, by omega, e⟩)
def CLk (et so cs cg ex cm : Int → Int) (de u : Int) : Prop := ∀ k j, 0 ≤ k → k < u → 0 ≤ j → j < de → cm k = 1 → ex k ≤ 0 → Ld et so cs cg k j → cm j = 1
def NR (et so cs cg ex : Int → Int) (de d : Int) : Prop := ∃ C : Int → Int, (∀ k, 0 ≤ k → k < de → Ld et so cs cg d k → C k = 1) ∧ CLk et so cs cg ex C de de ∧ C d ≠ 1
end LDS
theorem ct_le {f : Int → Int} (hf : ∀ j, 0 ≤ f j ∧ f j ≤ 1) {n : Int} (h : 0 ≤ n) : 0 ≤ ct f n ∧ ct f n ≤ n := by
  have := ctN_le hf n.toNat
  unfold ct
  omega
