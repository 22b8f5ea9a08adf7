/-! ===== p20: what stands between calls ===== -/
/-- keys and data that are ready -/
def KYR (K M : mR) : Prop := ∀ i, 0 ≤ i → i < 4 → K.2 2 i = M.2 145 i ∧ K.2 3 i = M.2 146 i ∧ K.2 4 i = M.2 147 i
/-- every step's stage is one of the stages -/
def HSs (M : mR) : Prop := M.1 128 = 1 → ∀ j, 0 ≤ j → j < M.1 27 → M.2 131 j < M.1 129
def PQs (K M : mR) : Prop := KYR K M ∧ HSs M ∧ (M.1 127 = 1 → PQ20 K M)
/-- only operation r is another -/
def rwO (r : Int) (K K1 : mR) : Prop := (∀ v, v ≠ r → K1.2 91 v = K.2 91 v ∧ K1.2 95 v = K.2 95 v ∧ K1.2 96 v = K.2 96 v ∧ K1.2 97 v = K.2 97 v) ∧ ∀ j, j < 65536 * r ∨ 65536 * r + 65536 ≤ j → K1.2 103 j = K.2 103 j ∧ K1.2 104 j = K.2 104 j ∧ K1.2 105 j = K.2 105 j
theorem rwO_e {r v : Int} {K K1 : mR} (h : rwO r K K1) (hv : v ≠ r) : opE K K1 v := by
  obtain ⟨a1, a2, a3, a4⟩ := h.1 v hv
  exact ⟨a1, a2, a3, a4, fun i i0 i1 => h.2 _ (rw_o hv i0 (by omega))⟩
theorem opE_r {v : Int} {K K1 : mR} (h : K1.2 91 = K.2 91 ∧ K1.2 95 = K.2 95 ∧ K1.2 96 = K.2 96 ∧ K1.2 97 = K.2 97 ∧ K1.2 103 = K.2 103 ∧ K1.2 104 = K.2 104 ∧ K1.2 105 = K.2 105) : opE K K1 v := by
  obtain ⟨a1, a2, a3, a4, a5, a6, a7⟩ := h
  unfold opE
  rw [a1, a2, a3, a4, a5, a6, a7]
  exact ⟨rfl, rfl, rfl, rfl, fun _ _ _ => ⟨rfl, rfl, rfl⟩⟩
/-- the start: no program, nothing ready -/
theorem PQs_0 {K M : mR} (hy : KYR K M) (h7 : M.1 127 = 0) (h8 : M.1 128 = 0) : PQs K M := ⟨hy, fun q => absurd q (by omega), fun q => absurd q (by omega)⟩
