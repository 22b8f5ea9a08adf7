/-! ===== WHAT IS TOLD: the rows of statements ===== -/
def RWp (kd sl ar ir : Int) : Prop := (ar = -1 ∨ 0 ≤ ir) ∧ (kd = 327 ∨ kd = 328 → 0 ≤ ar) ∧ (kd ≠ 328 → 0 ≤ sl) ∧ (kd = 324 ∨ kd = 325 → sl ≤ 187)
def DEp (n : Int) (kd sl ar ir : Int → Int) : Prop := ∀ d, 0 ≤ d → d < n → RWp (kd d) (sl d) (ar d) (ir d)
theorem DE_g {n : Int} {kd sl ar ir kd' sl' ar' ir' : Int → Int} (H : DEp n kd sl ar ir) (a1 : agr kd kd' n) (a2 : agr sl sl' n) (a3 : agr ar ar' n) (a4 : agr ir ir' n) : DEp n kd' sl' ar' ir' := by
  intro d h0 h1
  rw [a1 d h0 h1, a2 d h0 h1, a3 d h0 h1, a4 d h0 h1]
  exact H d h0 h1
theorem DE_new {n n' : Int} {kd sl ar ir : Int → Int} (H : DEp n kd sl ar ir) (hn : n' = n + 1) (h : RWp (kd n) (sl n) (ar n) (ir n)) : DEp n' kd sl ar ir := by
  intro d h0 h1
  by_cases e : d = n
  · rw [e]
    exact h
  · exact H d h0 (by omega)
theorem DE_0 {kd sl ar ir : Int → Int} : DEp 0 kd sl ar ir := fun d a b => absurd b (by omega)
theorem RW_i {kd sl ar ir v : Int} (hk : kd = v) (h2 : (v = 327 ∨ v = 328) ∧ 0 ≤ ar ∧ 0 ≤ ir ∨ v ≠ 327 ∧ v ≠ 328 ∧ ar = -1) (h4 : (v = 324 ∨ v = 325) ∧ 0 ≤ sl ∧ sl ≤ 187 ∨ (v = 61 ∨ v = 327 ∨ v = 326) ∧ 0 ≤ sl ∨ v = 328) : RWp kd sl ar ir := by
  subst hk
  unfold RWp
  omega
theorem AcP_m {ac k k' : Int} {ft sm : Int → Int} (H : AcP ac k ft sm) (h : k ≤ k') : AcP ac k' ft sm := fun a a0 a1 => by
  have := H a a0 a1
  omega
