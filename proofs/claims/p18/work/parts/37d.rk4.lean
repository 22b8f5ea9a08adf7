/-! ===== headers, instances, metas, arrays, with all that is kept ===== -/
section FB4
variable {K M : mR}
def FG (M : mR) : Int → mR → Int → mR → Prop := fun _ K2 _ M2 => FB K2 M2 ∧ dcl M2 = dcl M + 1
theorem header_fb (h : FB K M) (hw : M.1 7 = 300) : RR (kf_rd_header K) (rf_takeHeader M) (GV (FG M)) := by
  obtain ⟨hX, hS⟩ := h
  have hP := hX.2.1
  intro y z hy hz
  rcases header_s hX.1 hP.1 hP.2.2.1 hP.2.2.2.1 hw y z hy hz with ⟨q0, hL, hD, lt, e19, hU, p8, k214, n13, n16, n17⟩ | q
  · have fK := u_kf_rd_header K y hy
    have fM := (u_rf_takeHeader M z hz).1
    have h29 := hdr29_r z hz
    have hF : ∀ i, 0 ≤ i → i < M.1 20 → z.2.2 29 (z.2.2 34 i) = M.2 29 (M.2 34 i) := by
      intro i i0 i1
      rw [fr2 fM 34 rfl]
      have := (hP.2.2.2.2.1 i i0 i1).2.2
      exact h29 _ (by omega)
    obtain ⟨⟨c1, c2, c3, c4, c5, c6, c7, c8⟩, r1, r2, r3, r4, r5, r6, r7, r8, hsum⟩ := id hP.1
    have e20 : z.2.1 20 = M.1 20 := fr1 fM 20 rfl
    have e21 : z.2.1 21 = M.1 21 := fr1 fM 21 rfl
    have e22 : z.2.1 22 = M.1 22 := fr1 fM 22 rfl
    have hBP : BP y.2.2 z.2 := by
      refine ⟨?_, ?_, hD, hU, ?_, ME_f fK fM rfl rfl rfl rfl hP.2.2.2.2.2.1, PA_f fK fM rfl rfl rfl rfl hP.2.2.2.2.2.2⟩
      · unfold CNq CNx
        rw [k214, fr1 fK 215 rfl, fr1 fK 216 rfl, fr1 fK 217 rfl, fr1 fK 219 rfl, fr1 fK 221 rfl, fr1 fK 222 rfl, fr1 fK 223 rfl, n13, e19, e20, e21, e22, fr1 fM 23 rfl, fr1 fM 24 rfl, fr1 fM 25 rfl, fr1 fM 26 rfl]
        exact ⟨⟨rfl, c2, c3, c4, c5, c6, c7, c8⟩, by omega, r2, r3, r4, r5, r6, r7, r8, by omega⟩
      · unfold NC
        rw [n13, n16, n17, e19, e20, e21, e22, fr1 fM 23 rfl, fr1 fM 25 rfl, fr1 fM 26 rfl]
        exact NCx_up hP.2.1 (by omega) (by omega) (by omega) (by omega) (by omega) (by omega) (by omega) (by omega)
      · unfold IN
        rw [fr2 fK 13 rfl, e19, e20, fr2 fM 34 rfl]
        intro i i0 i1
        obtain ⟨a1, a2, a3⟩ := hP.2.2.2.2.1 i i0 i1
        exact ⟨a1, a2, by omega⟩
    refine Or.inl ⟨q0, ⟨⟨hL, hBP, AR_f fK fM rfl rfl rfl rfl hX.2.2.1, NDR_m hX.2.2.2.1 fK fM rfl rfl rfl rfl (by omega) hF, by rw [fr1 fM 64 rfl]; exact hX.2.2.2.2.1, by rw [fr1 fM 64 rfl, fr1 fM 25 rfl]; exact hX.2.2.2.2.2⟩, FBs_d hS fK fM (DE_m hS.2.1 fK fM rfl rfl rfl rfl (by omega) (by omega) (by omega) hF) (by omega) rfl rfl rfl rfl⟩, ?_⟩
    unfold dcl
    rw [e19, e20, e21, e22, fr1 fM 24 rfl, fr1 fM 25 rfl, fr1 fM 26 rfl]
    omega
  · exact Or.inr q
theorem inst_fb (h : FB K M) (hw : M.1 7 = 301) : RR (kf_rd_instance K) (rf_takeUse M) (GV (FG M)) := by
  obtain ⟨hX, hS⟩ := h
  have hP := hX.2.1
  intro y z hy hz
  rcases RR_an (RR_an (rr_instance0 hX.1 hP.1 hP.2.1 hw) (rr_instance hX.1 hP.1 hP.2.1 hP.2.2.2.2.1 hw)) (inst8 hX.1 hP.1 hw) y z hy hz with ⟨q0, ⟨⟨hL, lt, -, e20, -, b, b0, b1, -, m34⟩, -, hC, hN, hI⟩, p8⟩ | q
  · have fK := u_kf_rd_instance K y hy
    have fM := (u_rf_takeUse M z hz).1
    have hF : ∀ i, 0 ≤ i → i < M.1 20 → z.2.2 29 (z.2.2 34 i) = M.2 29 (M.2 34 i) := by
      intro i i0 i1
      rw [fr2 fM 29 rfl, m34, upI_n (by omega)]
    have e21 : z.2.1 21 = M.1 21 := fr1 fM 21 rfl
    have e22 : z.2.1 22 = M.1 22 := fr1 fM 22 rfl
    have hBP : BP y.2.2 z.2 := ⟨hC, hN, HD_f fK fM rfl rfl rfl rfl hP.2.2.1, HU_f fK fM rfl rfl rfl rfl hP.2.2.2.1, hI, ME_f fK fM rfl rfl rfl rfl hP.2.2.2.2.2.1, PA_f fK fM rfl rfl rfl rfl hP.2.2.2.2.2.2⟩
    refine Or.inl ⟨q0, ⟨⟨hL, hBP, AR_f fK fM rfl rfl rfl rfl hX.2.2.1, NDR_m hX.2.2.2.1 fK fM rfl rfl rfl rfl (by omega) hF, by rw [fr1 fM 64 rfl]; exact hX.2.2.2.2.1, by rw [fr1 fM 64 rfl, fr1 fM 25 rfl]; exact hX.2.2.2.2.2⟩, FBs_d hS fK fM (DE_m hS.2.1 fK fM rfl rfl rfl rfl (by omega) (by omega) (by omega) hF) (by omega) rfl rfl rfl rfl⟩, ?_⟩
    unfold dcl
    rw [fr1 fM 19 rfl, e20, e21, e22, fr1 fM 24 rfl, fr1 fM 25 rfl, fr1 fM 26 rfl]
    omega
  · exact Or.inr q
theorem meta_fb (h : FB K M) (hw : M.1 7 = 302) : RR (kf_rd_meta K) (rf_takeMeta M) (GV (FG M)) := by
  obtain ⟨hX, hS⟩ := h
  have hP := hX.2.1
  intro y z hy hz
  rcases RR_an (RR_an (rr_meta0 hX.1 hP.1 hw) (rr_meta hX.1 hP.1 hP.2.1 hP.2.2.2.2.2.1 hw)) (meta8 hX.1 hP.1 hw) y z hy hz with ⟨q0, ⟨⟨hL, lt, -, e21, -⟩, -, hC, hN, hM⟩, p8⟩ | q
  · have fK := u_kf_rd_meta K y hy
    have fM := (u_rf_takeMeta M z hz).1
    have hF : ∀ i, 0 ≤ i → i < M.1 20 → z.2.2 29 (z.2.2 34 i) = M.2 29 (M.2 34 i) := by
      intro i i0 i1
      rw [fr2 fM 29 rfl, fr2 fM 34 rfl]
    have e20 : z.2.1 20 = M.1 20 := fr1 fM 20 rfl
    have e22 : z.2.1 22 = M.1 22 := fr1 fM 22 rfl
    have hBP : BP y.2.2 z.2 := ⟨hC, hN, HD_f fK fM rfl rfl rfl rfl hP.2.2.1, HU_f fK fM rfl rfl rfl rfl hP.2.2.2.1, IN_f fK fM rfl rfl rfl rfl hP.2.2.2.2.1, hM, PA_f fK fM rfl rfl rfl rfl hP.2.2.2.2.2.2⟩
    refine Or.inl ⟨q0, ⟨⟨hL, hBP, AR_f fK fM rfl rfl rfl rfl hX.2.2.1, NDR_m hX.2.2.2.1 fK fM rfl rfl rfl rfl (by omega) hF, by rw [fr1 fM 64 rfl]; exact hX.2.2.2.2.1, by rw [fr1 fM 64 rfl, fr1 fM 25 rfl]; exact hX.2.2.2.2.2⟩, FBs_d hS fK fM (DE_m hS.2.1 fK fM rfl rfl rfl rfl (by omega) (by omega) (by omega) hF) (by omega) rfl rfl rfl rfl⟩, ?_⟩
    unfold dcl
    rw [fr1 fM 19 rfl, e20, e21, e22, fr1 fM 24 rfl, fr1 fM 25 rfl, fr1 fM 26 rfl]
    omega
  · exact Or.inr q
theorem arr_fb (h : FB K M) (hw : M.1 7 = 303) : RR (kf_rd_array K) (rf_takeArray M) (GV (FG M)) := by
  obtain ⟨hX, hS⟩ := h
  have hP := hX.2.1
  intro y z hy hz
  rcases RR_an (RR_an (rr_array0 hX.1 hP.1 hw) (rr_array hX.1 hP.1 hP.2.1 hX.2.2.1 hw)) (arr8 hX.1 hP.1 hw) y z hy hz with ⟨q0, ⟨⟨hL, lt, -, e22, -⟩, -, hC, hN, hA⟩, p8⟩ | q
  · have fK := u_kf_rd_array K y hy
    have fM := (u_rf_takeArray M z hz).1
    have hF : ∀ i, 0 ≤ i → i < M.1 20 → z.2.2 29 (z.2.2 34 i) = M.2 29 (M.2 34 i) := by
      intro i i0 i1
      rw [fr2 fM 29 rfl, fr2 fM 34 rfl]
    have e20 : z.2.1 20 = M.1 20 := fr1 fM 20 rfl
    have e21 : z.2.1 21 = M.1 21 := fr1 fM 21 rfl
    have hBP : BP y.2.2 z.2 := ⟨hC, hN, HD_f fK fM rfl rfl rfl rfl hP.2.2.1, HU_f fK fM rfl rfl rfl rfl hP.2.2.2.1, IN_f fK fM rfl rfl rfl rfl hP.2.2.2.2.1, ME_f fK fM rfl rfl rfl rfl hP.2.2.2.2.2.1, PA_f fK fM rfl rfl rfl rfl hP.2.2.2.2.2.2⟩
    refine Or.inl ⟨q0, ⟨⟨hL, hBP, hA, NDR_m hX.2.2.2.1 fK fM rfl rfl rfl rfl (by omega) hF, by rw [fr1 fM 64 rfl]; exact hX.2.2.2.2.1, by rw [fr1 fM 64 rfl, fr1 fM 25 rfl]; exact hX.2.2.2.2.2⟩, FBs_d hS fK fM (DE_m hS.2.1 fK fM rfl rfl rfl rfl (by omega) (by omega) (by omega) hF) (by omega) rfl rfl rfl rfl⟩, ?_⟩
    unfold dcl
    rw [fr1 fM 19 rfl, e20, e21, e22, fr1 fM 24 rfl, fr1 fM 25 rfl, fr1 fM 26 rfl]
    omega
  · exact Or.inr q
end FB4
