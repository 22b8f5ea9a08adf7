/-! ===== the control: an if, a block's end ===== -/
section CT3
variable {K M K' M' : mR} {n kd : Int}
theorem bit_s {a p : Int} (hop : OP K a (M.1 69) (M.1 71) (M.1 72)) (hL : LR K M) : RR (kf_fm_mustFit a 1 K) (rf_wantBit (M.1 69) (M.1 71) (M.1 72) p M) (GV (fun _ K2 _ M2 => LR K2 M2 ∧ fr [] [22] K K2 ∧ M2 = M)) := by
  obtain ⟨o0, o1, o2, o3⟩ := OP_r hop
  unfold kf_fm_mustFit
  refine RR_l (fits_k (w := 1) hop) (fun y hy => ?_)
  obtain ⟨f1, f2, f3⟩ := hy
  intro u z hu hz
  rcases f3 with ⟨g1, g2, g3⟩ | ⟨g1, g2⟩
  · rw [if_neg (by omega)] at hu
    cases hu
    rcases wantBit_r o0 z hz with ⟨-, z2⟩ | ⟨z1, -⟩
    · have hl : LR y.2 z.2 := by
        rw [z2]
        exact LR_g hL f1 (G := []) (B := []) fr_0 rfl rfl rfl rfl ((fr1 f1 213 rfl).trans hL.2.2.2.1) hL.2.2.2.2
      exact Or.inl ⟨rfl, hl, f1, z2⟩
    · exact absurd g2 z1
  · rw [if_pos g1] at hu
    rcases wantBit_r o0 z hz with ⟨z1, -⟩ | ⟨-, z2⟩
    · exact absurd z1 g2
    · exact Or.inr ⟨thr_l (A := fun y5 => some (0, 0, y5.2.2)) (fail_1 _ _ _) u hu, z2⟩
theorem if90_d {v : Int} (h : K.1 213 = 1) : RP (kfl_rd_openIf_90 v K) (fun y => y.1 ≠ 0) := by
  unfold kfl_rd_openIf_90
  refine RP_bnd (exp_d h) (fun y hy => ?_)
  rw [if_neg hy]
  exact RP_some hy
theorem openIf_s (h : SBg 1 n K M) (hw : M.1 7 = 321) : RR (kf_rd_openIf n K) (rfl_takeControl_170 n M) (IG (M.1 8 + 1)) := by
  have h0 := h
  have hL := h.1.1.1
  unfold kf_rd_openIf rfl_takeControl_170
  refine RR_gq (FB := FV5) (G := fun _ K1 _ M1 => LR K1 M1 ∧ fr kF_tx_advance kA_tx_advance K K1 ∧ fr rF_next rA_next M M1 ∧ M.1 8 + 1 ≤ M1.1 8) (adv_s hL (by omega)) (fun y v hy hv => Or.inr ⟨hy, hv⟩) (fun z hz => FV5_u (u_rfl_takeControl_175 n z.2) hz) (fun _ K1 _ M1 hG => ?_)
  obtain ⟨g1, g2, g3, g4⟩ := hG
  have h1 : SBg 1 n K1 M1 := SBg_f h0 g1 g2 g3 (by omega) rfl rfl rfl rfl
  obtain ⟨⟨hX, h64, hD, h99⟩, ⟨c1, c2, c3, c4, c5⟩, ⟨e1, e2, e3, e4, e5, e6, e7, e8, e9⟩, hB, hd, hA⟩ := h1
  have n220 : K1.1 220 = M1.1 28 := hX.2.2.2.1.1.1
  unfold rfl_takeControl_175
  dsimp only
  rw [if_pos g1.2.2.2.2]
  have f57 : fr [] [57] K1 (mO K1 [] [(57, upI (K1.2 57) n (K1.1 220))]) := fr_m fr_0 rfl rfl
  have f121 : fr [] [121] M1 (mO M1 [] [(121, upI (M1.2 121) n (M1.1 28))]) := fr_m fr_0 rfl rfl
  have hX2 : XP (mO K1 [] [(57, upI (K1.2 57) n (K1.1 220))]) (mO M1 [] [(121, upI (M1.2 121) n (M1.1 28))]) := XP_f hX g1 f57 f121 rfl rfl rfl rfl
  refine RR_gx (FB := FV5) (A := fun q => fr kF_fm_whole kA_fm_whole (mO K1 [] [(57, upI (K1.2 57) n (K1.1 220))]) q) (B := fun q => UR rF_readExpr rA_readExpr (mO M1 [] [(121, upI (M1.2 121) n (M1.1 28))]) q) (whole_s (v := -1) hX2.1 hX2.2.2.2.1 hX2.2.1 h64.symm hX2.2.2.2.2.1 hX2.2.2.2.2.2) (u_kf_fm_whole _ _) (u_rf_readExpr _) (fun y v hy hv => Or.inr ⟨hy, hv⟩) (fun z hz => FV5_u (u_rfl_takeControl_196 n z.2) hz) (fun a K1 hd => ?_) (fun a K2 b2 M2 hG uK uM => ?_)
  · dsimp only
    refine RP_bnd (u_kf_fm_mustFit _ _ _) (fun y hy => RP_ite (fun e => ?_) (fun e => RP_some e))
    have q213 : y.2.2.1 213 = 1 := by
      rw [fr1 hy 213 rfl]
      exact hd.1
    refine RP_ite (fun _ => RP_ite (fun _ => if90_d q213) (fun _ => thr_l (A := fun y15 => kfl_rd_openIf_90 n y15.2.2) (fail_1 _ _ _))) (fun _ => if90_d q213)
  · obtain ⟨x1, x2, x3, x4, x5, x6⟩ := hG
    unfold rfl_takeControl_196
    dsimp only
    rw [if_pos x1.2.2.2.2]
    have f58 : fr [] [58] K2 (mO K2 [] [(58, upI (K2.2 58) n a)]) := fr_m fr_0 rfl rfl
    have f122 : fr [] [122] M2 (mO M2 [] [(122, upI (M2.2 122) n (M2.1 28))]) := fr_m fr_0 rfl rfl
    have hL2 : LR (mO K2 [] [(58, upI (K2.2 58) n a)]) (mO M2 [] [(122, upI (M2.2 122) n (M2.1 28))]) := x1
    refine RR_gq (FB := FV5) (bit_s (K := mO K2 [] [(58, upI (K2.2 58) n a)]) (M := mO M2 [] [(122, upI (M2.2 122) n (M2.1 28))]) (p := M2.1 70) x5 hL2) (fun y v hy hv => Or.inr ⟨hy, hv⟩) (fun z hz => FV5_u (u_rfl_takeControl_233 n z.2) hz) (fun _ K3 _ M3 hG => ?_)
    obtain ⟨y1, y2, y3⟩ := hG
    have y2 : fr [] [22] (mO K2 [] [(58, upI (K2.2 58) n a)]) K3 := y2
    have y3 : M3 = mO M2 [] [(122, upI (M2.2 122) n (M2.1 28))] := y3
    have fKa : fr [] [22, 58] K2 K3 := fr_s y2 (fr_m fr_0 rfl rfl) rfl rfl
    have fMa : fr [] [122] M2 M3 := by rw [y3]; exact f122
    have k58 : K3.2 58 = upI (K2.2 58) n a := fr2 y2 58 rfl
    have m122 : M3.2 122 = upI (M2.2 122) n (M2.1 28) := by rw [y3]; rfl
    clear y2 y3 hL2 f58 f122
    have fK3 : fr kF_fm_whole [18, 19, 20, 21, 22, 23, 24, 57, 58, 68, 69, 70] K1 K3 := fr_s fKa (fr_s uK (fr_s f57 fr_0 rfl rfl) rfl rfl) rfl rfl
    have fM3 : fr rF_readExpr [65, 66, 67, 68, 76, 77, 78, 79, 80, 81, 82, 83, 84, 85, 86, 87, 88, 89, 90, 91, 92, 121, 122] M1 M3 := fr_s fMa (fr_s uM.1 (fr_s f121 fr_0 rfl rfl) rfl rfl) rfl rfl
    have hX3 : XP K3 M3 := XP_x hX y1 (BP_f fKa fMa rfl rfl rfl rfl x3) (NDR_f fKa fMa rfl rfl rfl rfl x2) fK3 fM3 rfl rfl rfl
    have k57 : K3.2 57 = upI (K1.2 57) n (K1.1 220) := (fr2 fKa 57 rfl).trans (fr2 uK 57 rfl)
    have k58' : K3.2 58 = upI (K1.2 58) n a := by
      have q : K2.2 58 = K1.2 58 := fr2 uK 58 rfl
      rw [k58, q]
    have m121 : M3.2 121 = upI (M1.2 121) n (M1.1 28) := (fr2 fMa 121 rfl).trans (fr2 uM.1 121 rfl)
    have m122' : M3.2 122 = upI (M1.2 122) n (M2.1 28) := by
      have q : M2.2 122 = M1.2 122 := fr2 uM.1 122 rfl
      rw [m122, q]
    have x6 : M1.1 8 ≤ M2.1 8 := x6
    have m8 : M3.1 8 = M2.1 8 := fr1 fMa 8 rfl
    have hB3 : CBd n K3 M3 := CBd_f hB fK3 fM3 rfl rfl rfl rfl
    have m119 : M3.1 119 = M1.1 119 := fr1 fM3 119 rfl
    have hf := y1.2.2.2.2
    have hY := y1.2.1
    unfold rfl_takeControl_233 rf_openBlock
    dsimp only
    rw [if_pos hf, hY.1]
    -- the block is opened
    have go : M3.1 119 < 8 → RR (kfl_rd_openIf_90 n K3) (bnd (rfl_openBlock_34 n 1 M3) fun y3 => some (Sum.inl y3.2)) (IG (M.1 8 + 1)) := by
      intro hd8
      unfold kfl_rd_openIf_90 rfl_openBlock_34
      rw [bnd_a]
      refine RR_gq (FB := FV5) (G := fun _ K4 _ M4 => LR K4 M4 ∧ fr kF_tx_expect kA_tx_expect K3 K4 ∧ fr rF_need rA_need M3 M4 ∧ M3.1 8 + 1 ≤ M4.1 8) (exp_s y1 (c := 123) (by omega)) (fun y v hy hv => Or.inr ⟨hy, hv⟩) (fun z hz => RP_bnd (u_rfl_openBlock_40 n 1 z.2) (fun w hw => RP_some (show FV5 (Sum.inl w.2) from hw.2 hz))) (fun _ K4 _ M4 hG => ?_)
      obtain ⟨d1, d2, d3, d4⟩ := hG
      have hB4 : CBd n K4 M4 := CBd_f hB3 d2 d3 rfl rfl rfl rfl
      have n119 : M4.1 119 = M3.1 119 := fr1 d3 119 rfl
      unfold rfl_openBlock_40
      dsimp only
      rw [if_pos (show M4.1 10 ≤ 0 by have := d1.2.2.2.2; omega), bnd_some, hB4.1.1, cut_i (z := M4.1 119 + 1) (by omega) (by omega)]
      have ed : ∃ d, d = M4.1 119 := ⟨_, rfl⟩
      obtain ⟨d, ed⟩ := ed
      rw [← ed]
      have fL : fr [227] [66, 67] K4 (mO K4 [(227, d + 1)] [(66, upI (K4.2 66) (d + 1) n), (67, upI (K4.2 67) (d + 1) 1)]) := fr_m fr_0 rfl rfl
      have fN : fr [119] [117, 118] M4 (mO M4 [(119, d + 1)] [(117, upI (M4.2 117) d n), (118, upI (M4.2 118) d 1)]) := fr_m fr_0 rfl rfl
      have gK : fr [205, 206, 207, 208, 209, 210, 211, 212, 213, 220, 227, 228, 229, 230, 231] [18, 19, 20, 21, 22, 23, 24, 57, 58, 66, 67, 68, 69, 70] K1 (mO K4 [(227, d + 1)] [(66, upI (K4.2 66) (d + 1) n), (67, upI (K4.2 67) (d + 1) 1)]) := fr_s fL (fr_s d2 (fr_s fK3 fr_0 rfl rfl) rfl rfl) rfl rfl
      have gM : fr [7, 8, 9, 10, 11, 12, 28, 69, 70, 71, 72, 73, 74, 75, 119] [65, 66, 67, 68, 76, 77, 78, 79, 80, 81, 82, 83, 84, 85, 86, 87, 88, 89, 90, 91, 92, 117, 118, 121, 122] M1 (mO M4 [(119, d + 1)] [(117, upI (M4.2 117) d n), (118, upI (M4.2 118) d 1)]) := fr_s fN (fr_s d3 (fr_s fM3 fr_0 rfl rfl) rfl rfl) rfl rfl
      have hLL : LR (mO K4 [(227, d + 1)] [(66, upI (K4.2 66) (d + 1) n), (67, upI (K4.2 67) (d + 1) 1)]) (mO M4 [(119, d + 1)] [(117, upI (M4.2 117) d n), (118, upI (M4.2 118) d 1)]) := LR_g d1 fL fN rfl rfl rfl rfl ((fr1 fL 213 rfl).trans d1.2.2.2.1) ((fr1 fN 10 rfl).trans d1.2.2.2.2)
      have hXL := XP_f (XP_f hX3 d1 d2 d3 rfl rfl rfl rfl) hLL fL fN rfl rfl rfl rfl
      have hDL := DE_f gK gM rfl rfl rfl rfl hD
      have m27 : M4.1 27 = n + 1 := (fr1 gM 27 rfl).trans c2
      have m63 : M4.2 63 n = -1 := by
        have q : M4.2 63 = M1.2 63 := fr2 gM 63 rfl
        rw [q]; exact e6
      have q99 : M4.1 99 = M1.1 99 := fr1 gM 99 rfl
      refine RR_some (Or.inl ⟨rfl, _, rfl, ⟨⟨hXL, (fr1 gM 64 rfl).trans h64, hDL, by show M4.1 99 ≤ M4.1 8; omega⟩, ⟨?_, by show 0 ≤ M4.1 27; omega, by show M4.1 27 ≤ 48; omega, ?_⟩, ?_, ?_⟩, by show M.1 8 + 1 ≤ M4.1 8; omega⟩)
      · show K4.1 225 = M4.1 27
        rw [m27]
        exact (fr1 gK 225 rfl).trans c1
      · show CSn (M4.1 27) _ _
        rw [m27]
        have v57 : K4.2 57 = upI (K1.2 57) n (K1.1 220) := (fr2 d2 57 rfl).trans k57
        have v58 : K4.2 58 = upI (K1.2 58) n a := (fr2 d2 58 rfl).trans k58'
        have v121 : M4.2 121 = upI (M1.2 121) n (M1.1 28) := (fr2 d3 121 rfl).trans m121
        have v122 : M4.2 122 = upI (M1.2 122) n (M2.1 28) := (fr2 d3 122 rfl).trans m122'
        refine CSn_1 (CSn_u c5 (fun s s1 => ?_) (fun s s1 => ?_) (fr1 gM 26 rfl) (by show M1.1 99 ≤ M4.1 99; omega)) ?_
        · rw [fr2 gK 52 rfl, fr2 gK 53 rfl, fr2 gK 54 rfl, fr2 gK 55 rfl, fr2 gK 56 rfl]
          refine ⟨rfl, rfl, rfl, rfl, rfl, ?_, ?_⟩
          · show K4.2 57 s = _
            rw [v57, upI_n (by omega)]
          · show K4.2 58 s = _
            rw [v58, upI_n (by omega)]
        · rw [fr2 gM 60 rfl, fr2 gM 61 rfl, fr2 gM 62 rfl, fr2 gM 63 rfl, fr2 gM 120 rfl]
          refine ⟨rfl, rfl, rfl, rfl, rfl, ?_, ?_⟩
          · show M4.2 121 s = _
            rw [v121, upI_n (by omega)]
          · show M4.2 122 s = _
            rw [v122, upI_n (by omega)]
        · rw [fr2 gK 52 rfl, fr2 gK 53 rfl, fr2 gK 54 rfl, fr2 gK 55 rfl, fr2 gK 56 rfl, fr2 gM 60 rfl, fr2 gM 61 rfl, fr2 gM 62 rfl, fr2 gM 63 rfl]
          refine ⟨e1.trans e2.symm, e3, e4, e5.trans e6.symm, e9, Or.inr (Or.inl ⟨e2, e6, e7, ?_⟩)⟩
          show EXR (K4.2 57 n) (K4.2 58 n) (M4.2 121 n) (M4.2 122 n)
          rw [v57, v58, v121, v122, upI_s, upI_s, upI_s, upI_s]
          exact ⟨n220, x4.1, x4.2⟩
      · show CBd (M4.1 27) _ _
        rw [m27]
        obtain ⟨⟨b1, b2, b3⟩, b4⟩ := hB4
        refine ⟨⟨rfl, by show 0 ≤ d + 1; omega, by show d + 1 ≤ 8; omega⟩, fun j j0 j1 => ?_⟩
        have j1 : j < d + 1 := j1
        show upI (K4.2 66) (d + 1) n (j + 1) = upI (M4.2 117) d n j ∧ upI (K4.2 67) (d + 1) 1 (j + 1) = upI (M4.2 118) d 1 j ∧ ((j = 0 ∧ upI (M4.2 117) d n j = -1 ∧ upI (M4.2 118) d 1 j = -1) ∨ (1 ≤ j ∧ 0 ≤ upI (M4.2 117) d n j ∧ upI (M4.2 117) d n j < n + 1 ∧ (upI (M4.2 118) d 1 j = 0 ∨ upI (M4.2 118) d 1 j = 1)))
        by_cases e : j = d
        · subst e
          rw [upI_s, upI_s, upI_s, upI_s]
          exact ⟨rfl, rfl, Or.inr ⟨by omega, c3, by omega, Or.inr rfl⟩⟩
        · rw [upI_n (show j + 1 ≠ d + 1 by omega), upI_n (show j + 1 ≠ d + 1 by omega), upI_n e, upI_n e]
          obtain ⟨q1, q2, q3⟩ := b4 j j0 (by omega)
          refine ⟨q1, q2, ?_⟩
          rcases q3 with q3 | ⟨p1, p2, p3, p4⟩
          · exact Or.inl q3
          · exact Or.inr ⟨p1, p2, by omega, p4⟩
      · show CAn (M4.1 27) _
        rw [m27]
        exact CAn_1 (CAn_f hA gM rfl rfl) m63
    by_cases w123 : M3.1 7 = 123
    · rw [if_pos ((wm_big hY.2.1 (by omega)).mpr w123), if_pos w123, hB3.1.1]
      by_cases d8 : M3.1 119 = 8
      · rw [if_neg (by omega), if_pos d8, bnd_a]
        refine RR_w (RR_pr (A := fun y : Int × Int × mR => y.1 ≠ 0) (B := FV5) (thr_l (A := fun y => kfl_rd_openIf_90 n y.2.2) (fail_1 _ _ _)) (RP_bnd (wrong_1 (by decide)) (fun z hz => RP_bnd (u_rfl_openBlock_34 n 1 z.2) (fun w hw => RP_some (show FV5 (Sum.inl w.2) from hw.2 hz))))) (fun _ _ q => Or.inr q)
      · have := hB3.1.2.2
        rw [if_pos (by omega), if_neg d8]
        exact go (by omega)
    · rw [if_neg (fun q => w123 ((wm_big hY.2.1 (by omega)).mp q)), if_neg w123]
      by_cases d8 : M3.1 119 < 8
      · exact go d8
      · refine RR_w (RR_pr (A := fun y : Int × Int × mR => y.1 ≠ 0) (B := FV5) ?_ ?_) (fun _ _ q => Or.inr q)
        · unfold kfl_rd_openIf_90
          refine RP_bnd (exp_x y1 (c := 123) (by omega) w123) (fun y hy => ?_)
          rw [if_neg hy]
          exact RP_some hy
        · unfold rfl_openBlock_34 rf_need
          rw [if_pos (show M3.1 10 ≤ 0 by omega), if_neg w123, bnd_a, bnd_a]
          refine RP_bnd (bad_1 M3) (fun z hz => RP_bnd (P := fun z : Int × mR => 0 < z.2.1 10) (RP_some hz) (fun z hz => RP_bnd (u_rfl_openBlock_40 n 1 z.2) (fun w hw => RP_some (show FV5 (Sum.inl w.2) from hw.2 hz))))
end CT3
