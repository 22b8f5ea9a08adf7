/-! ===== the reference's line moves down ===== -/
def mvA : List Nat := [153, 154, 155, 156, 157, 158, 159, 160, 161, 162]
def MV (k : Int) (M m : mR) : Prop := fr [] mvA M m ∧ (SHF 0 k 1 (M.2 153) (m.2 153) ∧ SHF 0 k 1 (M.2 154) (m.2 154) ∧ SHF 0 k 1 (M.2 155) (m.2 155)) ∧ (SHF 0 k 1 (M.2 156) (m.2 156) ∧ SHF 0 k 1 (M.2 157) (m.2 157) ∧ SHF 0 k 1 (M.2 158) (m.2 158)) ∧ SHF 0 (128 * k) 128 (M.2 159) (m.2 159) ∧ SHF 0 (4 * k) 4 (M.2 160) (m.2 160) ∧ SHF 0 (4 * k) 4 (M.2 161) (m.2 161) ∧ SHF 0 (4 * k) 4 (M.2 162) (m.2 162)
section TP1
variable {M m : mR}
theorem mv_1 {k : Int} (k0 : 0 ≤ k) (k1 : k < 41) (h : MV k M m) : RP (rf_moveDown k m) (fun z => MV (k + 1) M z.2) := by
  obtain ⟨h0, ⟨h3, h4, h5⟩, ⟨h6, h7, h8⟩, h9, g0, g1, g2⟩ := h
  unfold rf_moveDown
  rw [cut_i (z := k + 1) (by omega) (by omega), cut_i (z := 128 * k) (by omega) (by omega)]
  refine RP_bnd (P := fun e => fr [] mvA M e ∧ (SHF 0 (k + 1) 1 (M.2 153) (e.2 153) ∧ SHF 0 (k + 1) 1 (M.2 154) (e.2 154) ∧ SHF 0 (k + 1) 1 (M.2 155) (e.2 155)) ∧ (e.2 156 = m.2 156 ∧ e.2 157 = m.2 157 ∧ e.2 158 = m.2 158) ∧ SHF 0 (128 * k + 128) 128 (M.2 159) (e.2 159) ∧ e.2 160 = m.2 160 ∧ e.2 161 = m.2 161 ∧ e.2 162 = m.2 162) (RP_whl (I := fun s : Int × mR => (128 * k ≤ s.1 ∧ s.1 ≤ 128 * k + 128) ∧ fr [] mvA M s.2 ∧ (SHF 0 (k + 1) 1 (M.2 153) (s.2.2 153) ∧ SHF 0 (k + 1) 1 (M.2 154) (s.2.2 154) ∧ SHF 0 (k + 1) 1 (M.2 155) (s.2.2 155)) ∧ (s.2.2 156 = m.2 156 ∧ s.2.2 157 = m.2 157 ∧ s.2.2 158 = m.2 158) ∧ SHF 0 s.1 128 (M.2 159) (s.2.2 159) ∧ s.2.2 160 = m.2 160 ∧ s.2.2 161 = m.2 161 ∧ s.2.2 162 = m.2 162) (fun s hs => ?_) ⟨⟨Int.le_refl _, show 128 * k ≤ 128 * k + 128 by omega⟩, fr_m h0 rfl rfl, ⟨SHF_s h3 (by decide) k0, SHF_s h4 (by decide) k0, SHF_s h5 (by decide) k0⟩, ⟨rfl, rfl, rfl⟩, h9, rfl, rfl, rfl⟩) (fun e he => ?_)
  · obtain ⟨⟨a0, a1⟩, a2, a3, a4, a5, a6, a7, a8⟩ := hs
    unfold rfb_moveDown_48
    rw [cut_i (z := 128 * k) (by omega) (by omega), cut_i (z := 128 * k + 128) (by omega) (by omega)]
    refine RP_ite (fun q => RP_some ?_) (fun q => ?_)
    · have e' : s.1 = 128 * k + 128 := by omega
      rw [e'] at a5
      exact ⟨a2, a3, a4, a5, a6, a7, a8⟩
    · rw [cut_i (z := s.1 + 128) (by omega) (by omega), cut_i (z := s.1 + 1) (by omega) (by omega)]
      exact RP_some ⟨⟨show 128 * k ≤ s.1 + 1 by omega, show s.1 + 1 ≤ 128 * k + 128 by omega⟩, fr_m a2 rfl rfl, a3, a4, SHF_s a5 (by decide) (by omega), a6, a7, a8⟩
  · obtain ⟨a2, a3, ⟨b6, b7, b8⟩, a5, b0, b1, b2⟩ := he
    unfold rfl_moveDown_83
    rw [cut_i (z := k + 1) (by omega) (by omega), cut_i (z := 4 * k) (by omega) (by omega), b6, b7, b8]
    refine RP_bnd (P := fun e => MV (k + 1) M e) (RP_whl (I := fun s : Int × mR => (4 * k ≤ s.1 ∧ s.1 ≤ 4 * k + 4) ∧ fr [] mvA M s.2 ∧ (SHF 0 (k + 1) 1 (M.2 153) (s.2.2 153) ∧ SHF 0 (k + 1) 1 (M.2 154) (s.2.2 154) ∧ SHF 0 (k + 1) 1 (M.2 155) (s.2.2 155)) ∧ (SHF 0 (k + 1) 1 (M.2 156) (s.2.2 156) ∧ SHF 0 (k + 1) 1 (M.2 157) (s.2.2 157) ∧ SHF 0 (k + 1) 1 (M.2 158) (s.2.2 158)) ∧ SHF 0 (128 * (k + 1)) 128 (M.2 159) (s.2.2 159) ∧ SHF 0 s.1 4 (M.2 160) (s.2.2 160) ∧ SHF 0 s.1 4 (M.2 161) (s.2.2 161) ∧ SHF 0 s.1 4 (M.2 162) (s.2.2 162)) (fun s hs => ?_) ⟨⟨Int.le_refl _, show 4 * k ≤ 4 * k + 4 by omega⟩, fr_m a2 rfl rfl, a3, ⟨SHF_s h6 (by decide) k0, SHF_s h7 (by decide) k0, SHF_s h8 (by decide) k0⟩, ?_, ?_, ?_, ?_⟩) (fun e he => RP_some he)
    · obtain ⟨⟨c0, c1⟩, c2, c3, c4, c5, c6, c7, c8⟩ := hs
      unfold rfb_moveDown_129
      rw [cut_i (z := 4 * k) (by omega) (by omega), cut_i (z := 4 * k + 4) (by omega) (by omega)]
      refine RP_ite (fun q => RP_some ?_) (fun q => ?_)
      · have e' : s.1 = 4 * (k + 1) := by omega
        rw [e'] at c6 c7 c8
        exact ⟨c2, c3, c4, c5, c6, c7, c8⟩
      · rw [cut_i (z := s.1 + 4) (by omega) (by omega), cut_i (z := s.1 + 1) (by omega) (by omega)]
        exact RP_some ⟨⟨show 4 * k ≤ s.1 + 1 by omega, show s.1 + 1 ≤ 4 * k + 4 by omega⟩, fr_m c2 rfl rfl, c3, c4, c5, SHF_s c6 (by decide) (by omega), SHF_s c7 (by decide) (by omega), SHF_s c8 (by decide) (by omega)⟩
    · show SHF 0 (128 * (k + 1)) 128 (M.2 159) (e.2 159)
      rw [show 128 * (k + 1) = 128 * k + 128 by omega]
      exact a5
    · show SHF 0 (4 * k) 4 (M.2 160) (e.2 160)
      rw [b0]; exact g0
    · show SHF 0 (4 * k) 4 (M.2 161) (e.2 161)
      rw [b1]; exact g1
    · show SHF 0 (4 * k) 4 (M.2 162) (e.2 162)
      rw [b2]; exact g2
/-- all move down -/
theorem mv_214 (L0 : 1 ≤ m.1 149) (L1 : m.1 149 ≤ 40) : RP (rfl_doFirst_214 m) (fun z => z.2.1 149 = m.1 149 - 1 ∧ z.2.1 150 = cut (m.1 150 + 1) ∧ fr [149, 150] mvA m z.2 ∧ MV (m.1 149 - 1) (mO m [(149, m.1 149 - 1), (150, cut (m.1 150 + 1))] []) z.2) := by
  unfold rfl_doFirst_214
  rw [cut_i (z := m.1 149 - 1) (by omega) (by omega)]
  have eM : ∃ M1, M1 = mO m [(149, m.1 149 - 1), (150, cut (m.1 150 + 1))] [] := ⟨_, rfl⟩
  obtain ⟨M1, eM⟩ := eM
  rw [← eM]
  have a149 : M1.1 149 = m.1 149 - 1 := by rw [eM]; rfl
  have a150 : M1.1 150 = cut (m.1 150 + 1) := by rw [eM]; rfl
  have f1 : fr [149, 150] mvA m M1 := by rw [eM]; exact fr_m fr_0 rfl rfl
  refine RP_bnd (P := fun e => MV (m.1 149 - 1) M1 e) (RP_whl (I := fun s : Int × mR => (0 ≤ s.1 ∧ s.1 ≤ m.1 149 - 1) ∧ MV s.1 M1 s.2) (fun s hs => ?_) ⟨⟨Int.le_refl _, show 0 ≤ m.1 149 - 1 by omega⟩, fr_0, ⟨SHF_0, SHF_0, SHF_0⟩, ⟨SHF_0, SHF_0, SHF_0⟩, SHF_0, SHF_0, SHF_0, SHF_0⟩) (fun e he => RP_some ⟨?_, ?_, fr_s he.1 f1 rfl rfl, he⟩)
  · obtain ⟨⟨a0, a1⟩, a2⟩ := hs
    unfold rfb_doFirst_236
    rw [show s.2.1 149 = m.1 149 - 1 from (fr1 a2.1 149 rfl).trans a149]
    refine RP_ite (fun q => RP_some ?_) (fun q => ?_)
    · have e' : s.1 = m.1 149 - 1 := by omega
      rw [e'] at a2
      exact a2
    · refine RP_bnd (mv_1 a0 (by omega) a2) (fun y hy => ?_)
      unfold rfl_doFirst_249
      rw [cut_i (z := s.1 + 1) (by omega) (by omega)]
      exact RP_some ⟨⟨show 0 ≤ s.1 + 1 by omega, show s.1 + 1 ≤ m.1 149 - 1 by omega⟩, hy⟩
  · show e.1 149 = _
    rw [show e.1 149 = M1.1 149 from fr1 he.1 149 rfl]
    exact a149
  · show e.1 150 = _
    rw [show e.1 150 = M1.1 150 from fr1 he.1 150 rfl]
    exact a150
end TP1
