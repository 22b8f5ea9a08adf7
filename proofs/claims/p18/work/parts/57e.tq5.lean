/-! ===== entries of tables: class and reference side by side ===== -/
/-- row e of the class's table, row f of the reference's -/
def TR2 (t e f : Int) (K M : mR) : Prop := (∀ i, 0 ≤ i → i < M.2 51 t → K.2 85 (65536 * t + (e * 4 + i)) = M.2 142 (4 * (96 * t + f) + i) ∧ K.2 86 (65536 * t + (e * 4 + i)) = M.2 143 (4 * (96 * t + f) + i) ∧ and64 (M.2 142 (4 * (96 * t + f) + i)) (M.2 143 (4 * (96 * t + f) + i)) = M.2 142 (4 * (96 * t + f) + i)) ∧ K.2 88 (65536 * t + e) = M.2 140 (96 * t + f) ∧ K.2 89 (65536 * t + e) = M.2 141 (96 * t + f) ∧ (0 ≤ M.2 141 (96 * t + f) ∧ M.2 141 (96 * t + f) < M.1 25) ∧ ∀ i, 0 ≤ i → i < M.2 46 (M.2 141 (96 * t + f)) → K.2 87 (65536 * t + (e * 4 + i)) = M.2 144 (4 * (96 * t + f) + i) ∧ VW (M.2 144 (4 * (96 * t + f) + i)) (M.2 49 (4 * M.2 141 (96 * t + f) + i))
def DSQ (t e f : Int) (M : mR) : Prop := ∃ i, 0 ≤ i ∧ i < M.2 51 t ∧ ¬ (M.2 142 (4 * (96 * t + e) + i) = M.2 142 (4 * (96 * t + f) + i) ∧ M.2 143 (4 * (96 * t + e) + i) = M.2 143 (4 * (96 * t + f) + i))
def TQ (t : Int) (K M : mR) : Prop := K.2 78 t = M.2 139 t ∧ (0 ≤ M.2 139 t ∧ M.2 139 t ≤ 72) ∧ (M.2 58 t = 0 → M.2 139 t ≤ M.2 54 t) ∧ (∀ e, 0 ≤ e → e < M.2 139 t → TR2 t e e K M) ∧ ∀ e f, 0 ≤ e → e < f → f < M.2 139 t → DSQ t e f M
/-- operation r of the class is the first of the reference's line -/
def OPQ (r : Int) (K M : mR) : Prop := K.2 91 r = M.2 153 0 ∧ K.2 95 r = M.2 156 0 ∧ K.2 96 r = M.2 157 0 ∧ K.2 97 r = M.2 158 0 ∧ ∀ i, 0 ≤ i → i < 4 → (K.2 103 (65536 * r + i) = M.2 160 i ∧ K.2 104 (65536 * r + i) = M.2 161 i ∧ K.2 105 (65536 * r + i) = M.2 162 i) ∧ R64 (M.2 160 i) ∧ R64 (M.2 161 i) ∧ R64 (M.2 162 i)
noncomputable def srvM (t k : Int) (m : mR) : Option (Int × mR) := bnd (rf_areMasks t m) fun y => if y = 0 then some (0, m) else if k = 1 then rf_entryComes t m else if k = 2 then rf_entryChanges t m else rf_entryGoes t m
def svF : List Nat := [78, 85, 86, 87, 88, 89, 90, 103, 104]
def svG : List Nat := [139, 140, 141, 142, 143, 144, 170]
def SV (t r : Int) (K M : mR) (y z : Int × mR) : Prop := y.1 = (if z.1 = 0 then 1 else 0) ∧ TQ t y.2 z.2 ∧ fr [] svF K y.2 ∧ fr [] svG M z.2 ∧ ofK t r K y.2 ∧ ofR t M z.2
section TQ5
variable {K M K' M' : mR} {t r : Int}
/-- rows elsewhere -/
theorem TR2_s {e f e2 f2 : Int} (h : TR2 t e2 f2 K M) (hM : fr [] svG M M') (p4 : ∀ a, 0 ≤ a → a < M.1 25 → M.2 46 a ≤ 4) (h51 : M.2 51 t ≤ 4) (k85 : ∀ i, 0 ≤ i → i < 4 → K'.2 85 (65536 * t + (e * 4 + i)) = K.2 85 (65536 * t + (e2 * 4 + i)) ∧ K'.2 86 (65536 * t + (e * 4 + i)) = K.2 86 (65536 * t + (e2 * 4 + i)) ∧ K'.2 87 (65536 * t + (e * 4 + i)) = K.2 87 (65536 * t + (e2 * 4 + i))) (k88 : K'.2 88 (65536 * t + e) = K.2 88 (65536 * t + e2)) (k89 : K'.2 89 (65536 * t + e) = K.2 89 (65536 * t + e2)) (m142 : ∀ i, 0 ≤ i → i < 4 → M'.2 142 (4 * (96 * t + f) + i) = M.2 142 (4 * (96 * t + f2) + i) ∧ M'.2 143 (4 * (96 * t + f) + i) = M.2 143 (4 * (96 * t + f2) + i) ∧ M'.2 144 (4 * (96 * t + f) + i) = M.2 144 (4 * (96 * t + f2) + i)) (m140 : M'.2 140 (96 * t + f) = M.2 140 (96 * t + f2)) (m141 : M'.2 141 (96 * t + f) = M.2 141 (96 * t + f2)) : TR2 t e f K' M' := by
  obtain ⟨h1, h2, h3, h4, h5⟩ := h
  unfold TR2
  rw [show M'.2 51 = M.2 51 from fr2 hM 51 rfl, show M'.2 46 = M.2 46 from fr2 hM 46 rfl, show M'.2 49 = M.2 49 from fr2 hM 49 rfl, show M'.1 25 = M.1 25 from fr1 hM 25 rfl, k88, k89, m140, m141]
  refine ⟨fun i i0 i1 => ?_, h2, h3, h4, fun i i0 i1 => ?_⟩
  · obtain ⟨a1, a2, a3⟩ := k85 i i0 (by omega)
    obtain ⟨b1, b2, b3⟩ := m142 i i0 (by omega)
    rw [a1, a2, b1, b2]
    exact h1 i i0 i1
  · have q := p4 _ h4.1 h4.2
    obtain ⟨a1, a2, a3⟩ := k85 i i0 (by omega)
    obtain ⟨b1, b2, b3⟩ := m142 i i0 (by omega)
    rw [a3, b3]
    exact h5 i i0 i1
/-- what a table holds speaks of its own cells -/
theorem TQ_f (h : TQ t K M) (h78 : K'.2 78 t = K.2 78 t) (hK : ∀ j, 65536 * t ≤ j → j < 65536 * t + 65536 → K'.2 85 j = K.2 85 j ∧ K'.2 86 j = K.2 86 j ∧ K'.2 87 j = K.2 87 j ∧ K'.2 88 j = K.2 88 j ∧ K'.2 89 j = K.2 89 j) (h139 : M'.2 139 t = M.2 139 t) (hM1 : ∀ j, 96 * t ≤ j → j < 96 * t + 96 → M'.2 140 j = M.2 140 j ∧ M'.2 141 j = M.2 141 j) (hM2 : ∀ j, 384 * t ≤ j → j < 384 * t + 384 → M'.2 142 j = M.2 142 j ∧ M'.2 143 j = M.2 143 j ∧ M'.2 144 j = M.2 144 j) (h51 : M.2 51 t ≤ 4) (p4 : ∀ a, 0 ≤ a → a < M.1 25 → M.2 46 a ≤ 4) (e51 : M'.2 51 t = M.2 51 t) (e46 : ∀ a, 0 ≤ a → M'.2 46 a = M.2 46 a) (e49 : ∀ i, 0 ≤ i → M'.2 49 i = M.2 49 i) (e54 : M'.2 54 t = M.2 54 t) (e58 : M'.2 58 t = M.2 58 t) (e25 : M'.1 25 = M.1 25) : TQ t K' M' := by
  obtain ⟨h1, h2, h3, h4, h5⟩ := h
  unfold TQ
  rw [h139, h78, e54, e58]
  refine ⟨h1, h2, h3, fun e e0 e1 => ?_, fun e f e0 e1 f1 => ?_⟩
  · obtain ⟨q1, q2, q3, q4, q5⟩ := h4 e e0 e1
    unfold TR2
    rw [e51, e25, (hK (65536 * t + e) (by omega) (by omega)).2.2.2.1, (hK (65536 * t + e) (by omega) (by omega)).2.2.2.2, (hM1 (96 * t + e) (by omega) (by omega)).1, (hM1 (96 * t + e) (by omega) (by omega)).2, e46 _ q4.1]
    refine ⟨fun i i0 i1 => ?_, q2, q3, q4, fun i i0 i1 => ?_⟩
    · obtain ⟨a1, a2, a3, a4, a5⟩ := hK (65536 * t + (e * 4 + i)) (by omega) (by omega)
      obtain ⟨b1, b2, b3⟩ := hM2 (4 * (96 * t + e) + i) (by omega) (by omega)
      rw [a1, a2, b1, b2]
      exact q1 i i0 i1
    · have q := p4 _ q4.1 q4.2
      obtain ⟨a1, a2, a3, a4, a5⟩ := hK (65536 * t + (e * 4 + i)) (by omega) (by omega)
      obtain ⟨b1, b2, b3⟩ := hM2 (4 * (96 * t + e) + i) (by omega) (by omega)
      rw [a3, b3, e49 _ (by omega)]
      exact q5 i i0 i1
  · obtain ⟨i, i0, i1, i2⟩ := h5 e f e0 e1 f1
    refine ⟨i, i0, by rw [e51]; exact i1, ?_⟩
    rw [(hM2 (4 * (96 * t + e) + i) (by omega) (by omega)).1, (hM2 (4 * (96 * t + f) + i) (by omega) (by omega)).1, (hM2 (4 * (96 * t + e) + i) (by omega) (by omega)).2.1, (hM2 (4 * (96 * t + f) + i) (by omega) (by omega)).2.1]
    exact i2
/-- the keys that the class has cut are those that the reference asks for -/
theorem sk_sq {e : Int} (hT : TK t K M) (hQ : TQ t K M) (c103 : ∀ i, 0 ≤ i → i < M.2 51 t → K.2 104 (65536 * r + i) = and64 (M.2 161 i) (mk64 (M.2 112 (4 * t + i))) ∧ K.2 103 (65536 * r + i) = and64 (M.2 160 i) (and64 (M.2 161 i) (mk64 (M.2 112 (4 * t + i))))) (e0 : 0 ≤ e) (e1 : e < M.2 139 t) : skK t r e K ↔ sqM t e M := by
  obtain ⟨k1, -⟩ := hT
  obtain ⟨q1, -⟩ := hQ.2.2.2.1 e e0 e1
  unfold skK sqM skQ sqQ
  rw [k1]
  constructor
  · intro h i i0 i1
    obtain ⟨a1, a2⟩ := h i i0 i1
    obtain ⟨b1, b2, -⟩ := q1 i i0 i1
    obtain ⟨c1, c2⟩ := c103 i i0 i1
    exact ⟨by rw [← b2, a2, c1], by rw [← b1, a1, c2]⟩
  · intro h i i0 i1
    obtain ⟨a1, a2⟩ := h i i0 i1
    obtain ⟨b1, b2, -⟩ := q1 i i0 i1
    obtain ⟨c1, c2⟩ := c103 i i0 i1
    exact ⟨by rw [b1, a2, c2], by rw [b2, a1, c1]⟩
theorem sq_u {e f : Int} (hQ : TQ t K M) (he : sqM t e M) (hf : sqM t f M) (e0 : 0 ≤ e) (e1 : e < M.2 139 t) (f0 : 0 ≤ f) (f1 : f < M.2 139 t) : e = f := by
  have no : ∀ a b, sqM t a M → sqM t b M → 0 ≤ a → a < b → b < M.2 139 t → False := fun a b ha hb a0 ab b1 => by
    obtain ⟨i, i0, i1, i2⟩ := hQ.2.2.2.2 a b a0 ab b1
    obtain ⟨p1, p2⟩ := ha i i0 i1
    obtain ⟨s1, s2⟩ := hb i i0 i1
    exact i2 ⟨by rw [p2, s2], by rw [p1, s1]⟩
  rcases Int.lt_trichotomy e f with q | q | q
  · exact (no e f he hf e0 q f1).elim
  · exact q
  · exact (no f e hf he f0 q e1).elim
def sfP (t : Int) (M : mR) (y z : Int) : Prop := (y = -1 ∧ z = -1 ∧ ∀ e, 0 ≤ e → e < M.2 139 t → ¬ sqM t e M) ∨ (y = z ∧ 0 ≤ z ∧ z < M.2 139 t ∧ sqM t z M)
theorem same_q (t0 : 0 ≤ t) (t1 : t < 8) (hT : TK t K M) (hQ : TQ t K M) (c103 : ∀ i, 0 ≤ i → i < M.2 51 t → K.2 104 (65536 * r + i) = and64 (M.2 161 i) (mk64 (M.2 112 (4 * t + i))) ∧ K.2 103 (65536 * r + i) = and64 (M.2 160 i) (and64 (M.2 161 i) (mk64 (M.2 112 (4 * t + i))))) (hR : ∀ i, 0 ≤ i → i < 4 → R64 (M.2 161 i)) : RR (kf_tb_same_b103_b104 t r r K) (rf_findSame t M) (sfP t M) := by
  have hT0 := hT
  obtain ⟨k1, k2, k3, -⟩ := hT0
  have hQ0 := hQ
  obtain ⟨n1, ⟨n2, n3⟩, -⟩ := hQ0
  refine RR_w (RR_pr (same_k (K := K) (t := t) (r := r) (by omega) (by omega) (by omega) (by omega)) (fins_r (M := M) t0 t1 k2 k3 n2 (by omega) hR)) (fun y z h => ?_)
  obtain ⟨hy, hz⟩ := h
  rcases hz with ⟨z1, z2⟩ | ⟨z1, z2, z3⟩
  · rcases hy with ⟨y1, y2⟩ | ⟨y1, y2, y3⟩
    · exact Or.inl ⟨y1, z1, z2⟩
    · exact absurd ((sk_sq hT hQ c103 y1 (by omega)).mp y3) (z2 y y1 (by omega))
  · rcases hy with ⟨y1, y2⟩ | ⟨y1, y2, y3⟩
    · exact absurd ((sk_sq hT hQ c103 z1 z2).mpr z3) (y2 z z1 (by omega))
    · exact Or.inr ⟨sq_u hQ ((sk_sq hT hQ c103 y1 (by omega)).mp y3) z3 y1 (by omega) z1 z2, z1, z2, z3⟩
theorem lists_q {a n : Int} (t0 : 0 ≤ t) (t1 : t < 8) (hL : TL n t K M) : RR (kf_tb_lists t a K) (rf_isOf t a M) (fun y z => (y = 0 ∧ z = 0) ∨ (y = 1 ∧ z = 1 ∧ 0 ≤ a ∧ a < n)) := by
  obtain ⟨l1, l2, l3, l4⟩ := hL
  refine RR_w (RR_pr (lists_k (K := K) (t := t) (v := a) (by omega) (by omega)) (isOf_r (M := M) (a := a) t0 t1 l2 l3)) (fun y z h => ?_)
  obtain ⟨hy, hz⟩ := h
  rcases hz with ⟨z1, i, i0, i1, i2⟩ | ⟨z1, z2⟩
  · obtain ⟨b1, b2, b3⟩ := l4 i i0 i1
    rcases hy with ⟨y1, -⟩ | ⟨y1, y2⟩
    · exact Or.inr ⟨y1, z1, by omega, by omega⟩
    · exact absurd (b1.trans i2) (y2 i i0 (by omega))
  · rcases hy with ⟨y1, i, i0, i1, i2⟩ | ⟨y1, -⟩
    · obtain ⟨b1, b2, b3⟩ := l4 i i0 (by omega)
      exact absurd (b1.symm.trans i2) (z2 i i0 (by omega))
    · exact Or.inl ⟨y1, z1⟩
end TQ5
