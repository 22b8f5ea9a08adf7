/-! ===== states, actions, tables, with all that is kept ===== -/
section FB5
variable {K M K' M' : mR} {F A G C : List Nat}
theorem SGd_f2 (h : SGd (M.1 23) (M.1 24) K M) (hK : fr F A K K') (hM : fr G C M M') (c2 : chk [26, 30, 33, 34] A = true) (c3 : chk [23, 24] G = true) (c4 : chk [39, 41, 42, 44, 45] C = true) : SGd (M'.1 23) (M'.1 24) K' M' := by
  unfold SGd
  rw [fr2 hK 26 (chk_1 c2 (by decide)), fr2 hK 30 (chk_1 c2 (by decide)), fr2 hK 33 (chk_1 c2 (by decide)), fr2 hK 34 (chk_1 c2 (by decide)), fr1 hM 23 (chk_1 c3 (by decide)), fr1 hM 24 (chk_1 c3 (by decide)), fr2 hM 39 (chk_1 c4 (by decide)), fr2 hM 41 (chk_1 c4 (by decide)), fr2 hM 42 (chk_1 c4 (by decide)), fr2 hM 44 (chk_1 c4 (by decide)), fr2 hM 45 (chk_1 c4 (by decide))]
  exact h
theorem TBn_f2 {n' : Int} (h : TBn (M.1 26) K M) (hK : fr F A K K') (hM : fr G C M M') (hn : M.1 25 ≤ M'.1 25) (he : n' = M.1 26) (c2 : chk [72, 73, 74, 75, 76, 77, 79, 80, 81, 82, 83] A = true) (c4 : chk [51, 52, 53, 54, 55, 56, 57, 58, 110, 111, 112, 113, 114] C = true) : TBn n' K' M' := by
  intro t t0 t1
  rw [he] at t1
  exact TB1_n (TB1_c (h t t0 t1) (AT_f hK hM c2 c4)) hn
theorem state_fb (h : FB K M) (hw : M.1 7 = 304) : RR (kf_rd_state K) (rf_takeState M) (GV (FG M)) := by
  obtain ⟨hX, h1, h2, h3, h4, h5, h6, h7, h8, h9, h10, h11⟩ := h
  have hP := hX.2.1
  obtain ⟨-, r1, r2, r3, r4, r5, r6, r7, r8, hsum⟩ := id hP.1
  intro y z hy hz
  rcases state_s ⟨hX.1, hP, hX.2.2.2.1, h5, h6, h1⟩ hw y z hy hz with ⟨q0, ⟨p1, p2, p3, p4, p5, p6⟩, p8⟩ | q
  · have fK := u_kf_rd_state K y hy
    have fM := (u_rf_takeState M z hz).1
    have e24 : z.2.1 24 = M.1 24 + 1 := by
      rcases state24_r (by omega) (by omega) z hz with q | q
      · have := p1.2.2.2.2
        omega
      · exact q
    have e25 : z.2.1 25 = M.1 25 := fr1 fM 25 rfl
    have e26 : z.2.1 26 = M.1 26 := fr1 fM 26 rfl
    have e99 : z.2.1 99 = M.1 99 := fr1 fM 99 rfl
    refine Or.inl ⟨q0, ⟨⟨p1, p2, AR_f fK fM rfl rfl rfl rfl hX.2.2.1, p3, by omega, by omega⟩, p6, DE_f fK fM rfl rfl rfl rfl h2, AC_f fK fM rfl rfl rfl rfl h3, by omega, p4, p5, TBn_f2 h7 fK fM (by omega) e26 rfl rfl, ?_, (fr1 fK 218 rfl).trans h9, (fr1 fK 225 rfl).trans h10, (fr1 fM 27 rfl).trans h11⟩, ?_⟩
    · rw [e26, fr2 fM 59 rfl]
      exact h8
    · unfold dcl
      rw [fr1 fM 19 rfl, fr1 fM 20 rfl, fr1 fM 21 rfl, fr1 fM 22 rfl, e24, e25, e26]
      omega
  · exact Or.inr q
theorem action_fb (h : FB K M) (hw : M.1 7 = 309) : RR (kf_rd_action K) (rf_takeAction M) (GV (FG M)) := by
  obtain ⟨hX, h1, h2, h3, h4, h5, h6, h7, h8, h9, h10, h11⟩ := h
  have hP := hX.2.1
  obtain ⟨-, r1, r2, r3, r4, r5, r6, r7, r8, hsum⟩ := id hP.1
  intro y z hy hz
  rcases action_s ⟨hX, h1, h2, h3, h4⟩ hw y z hy hz with ⟨q0, ⟨p1, p2, p3, p4, p5⟩, p8⟩ | q
  · have fK := u_kf_rd_action K y hy
    have fM := (u_rf_takeAction M z hz).1
    have e25 : z.2.1 25 = M.1 25 + 1 := by
      rcases act25_r (by omega) (by omega) z hz with q | q
      · have := p1.1.2.2.2.2
        omega
      · exact q
    have e26 : z.2.1 26 = M.1 26 := fr1 fM 26 rfl
    refine Or.inl ⟨q0, ⟨p1, p2, p3, p4, p5, SO_f fK fM rfl rfl rfl rfl h5, SGd_f2 h6 fK fM rfl rfl rfl, TBn_f2 h7 fK fM (by omega) e26 rfl rfl, ?_, (fr1 fK 218 rfl).trans h9, (fr1 fK 225 rfl).trans h10, (fr1 fM 27 rfl).trans h11⟩, ?_⟩
    · rw [e26, fr2 fM 59 rfl]
      exact h8
    · unfold dcl
      rw [fr1 fM 19 rfl, fr1 fM 20 rfl, fr1 fM 21 rfl, fr1 fM 22 rfl, fr1 fM 24 rfl, e25, e26]
      omega
  · exact Or.inr q
theorem table_fb (h : FB K M) (hw : M.1 7 = 310) : RR (kf_rd_table K) (rf_takeTable M) (GV (FG M)) := by
  obtain ⟨hX, h1, h2, h3, h4, h5, h6, h7, h8, h9, h10, h11⟩ := h
  have hP := hX.2.1
  obtain ⟨-, r1, r2, r3, r4, r5, r6, r7, r8, hsum⟩ := id hP.1
  intro y z hy hz
  rcases table_s ⟨hX, h1, h7⟩ hw y z hy hz with ⟨q0, ⟨p1, p2, p3⟩, p8⟩ | q
  · have fK := u_kf_rd_table K y hy
    have fM := (u_rf_takeTable M z hz).1
    have e26 : z.2.1 26 = M.1 26 + 1 := by
      rcases tab26_r (by omega) (by omega) z hz with q | q
      · have := p1.1.2.2.2.2
        omega
      · exact q
    have e99 : z.2.1 99 = M.1 99 := fr1 fM 99 rfl
    refine Or.inl ⟨q0, ⟨p1, p2, DE_f fK fM rfl rfl rfl rfl h2, AC_f fK fM rfl rfl rfl rfl h3, by omega, SO_f fK fM rfl rfl rfl rfl h5, SGd_f2 h6 fK fM rfl rfl rfl, p3, tab59_r (by omega) (by omega) h8 z hz, (fr1 fK 218 rfl).trans h9, (fr1 fK 225 rfl).trans h10, (fr1 fM 27 rfl).trans h11⟩, ?_⟩
    unfold dcl
    rw [fr1 fM 19 rfl, fr1 fM 20 rfl, fr1 fM 21 rfl, fr1 fM 22 rfl, fr1 fM 24 rfl, fr1 fM 25 rfl, e26]
    omega
  · exact Or.inr q
end FB5
