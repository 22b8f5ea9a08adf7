section DEC2
variable {K M : mR}
theorem rr_meta0 (h : LR K M) (hC : CNq K M) (h7 : M.1 7 = 302) : RR (kf_rd_meta K) (rf_takeMeta M) (GV (fun _ K2 _ M2 => LR K2 M2 ∧ M.1 21 < 16 ∧ K2.1 216 = M.1 21 + 1 ∧ M2.1 21 = M.1 21 + 1 ∧ (M2.1 13 = M.1 13 + 1 ∧ M2.2 16 = upI (M.2 16) (M.1 13) 3 ∧ M2.2 17 = upI (M.2 17) (M.1 13) (M.1 21)) ∧ ∃ b, 1 ≤ b ∧ b ≤ 64 ∧ K2.2 14 = upI (K.2 14) (M.1 21) b ∧ M2.2 35 = upI (M.2 35) (M.1 21) b)) := by
  obtain ⟨⟨c1, c2, c3, c4, c5, c6, c7, c8⟩, r1, r2, r3, r4, r5, r6, r7, r8, hsum⟩ := id hC
  unfold kf_rd_meta rf_takeMeta
  refine RR_sq (A := fun q => fr kF_tx_advance kA_tx_advance K q) (B := fun q => UR rF_next rA_next M q) (LV_G (rr_adv h (by omega))) (u_kf_tx_advance K) (u_rf_next M) (fun z hz => RP_w (u_rfl_takeMeta_4 z.2) (fun w hw => hw.2 hz)) (fun a K1 b M1 hG fK fM => ?_)
  obtain ⟨-, hL1⟩ := hG
  unfold rfl_takeMeta_4
  dsimp only
  have q1 : K1.1 216 = M.1 21 := (fr1 fK 216 rfl).trans c3
  have q2 : M1.1 21 = M.1 21 := fr1 fM.1 21 rfl
  have q3 : M1.1 13 = M.1 13 := fr1 fM.1 13 rfl
  rw [q1, q2, show (302 : Int) = smp 3 from rfl]
  refine RR_sq (A := fun q => fr kF_tx_makeNew kA_tx_makeNew K1 q) (B := fun q => UR rF_newName rA_newName M1 q) (rr_newG hL1 (s := 3) (n := M.1 21) (b := 16) (by omega) (by omega) (by omega)) (u_kf_tx_makeNew _ _ _ K1) (u_rf_newName _ _ _ M1) (fun z hz => RP_w (u_rfl_takeMeta_15 z.1 z.2) (fun w hw => hw.2 hz)) (fun a2 K2 b2 M2 hG fK2 fM2 => ?_)
  obtain ⟨hb, hlt, hL2, n1, n2, n3⟩ := hG
  unfold rfl_takeMeta_15
  dsimp only
  have q4 : K2.1 216 = M.1 21 := (fr1 fK2 216 rfl).trans q1
  have q5 : M2.1 21 = M.1 21 := (fr1 fM2.1 21 rfl).trans q2
  rw [if_neg (by omega), q4]
  have hL2' : LR (mO K2 [(216, cut (M.1 21 + 1))] []) M2 := hL2
  rw [cut_i (by omega) (by omega)] at hL2' ⊢
  refine RR_sq (A := fun q => fr kF_tx_expect kA_tx_expect (mO K2 [(216, M.1 21 + 1)] []) q) (B := fun q => UR rF_need rA_need M2 q) (LV_G (rr_exp hL2' (c := 58) (by omega))) (u_kf_tx_expect _ _) (u_rf_need _ M2) (fun z hz => RP_w (u_rfl_takeMeta_25 z.2) (fun w hw => hw.2 hz)) (fun a3 K3 b3 M3 hG fK3 fM3 => ?_)
  obtain ⟨-, hL3⟩ := hG
  unfold rfl_takeMeta_25
  dsimp only
  have q6 : M3.1 21 = M.1 21 := (fr1 fM3.1 21 rfl).trans q5
  rw [q6]
  refine RR_sq (A := fun q => fr kF_tx_within kA_tx_within K3 q) (B := fun q => UR rF_number rA_number M3 q) (LV_G (rr_num hL3 (a := 1) (b := 64) (by omega))) (u_kf_tx_within _ _ K3) (u_rf_number _ _ M3) (fun z hz => RP_w (u_rfl_takeMeta_40 (M.1 21) z.1 z.2) (fun w hw => hw.2 hz)) (fun a4 K4 b4 M4 hG fK4 fM4 => ?_)
  obtain ⟨⟨e4, g1, g2⟩, hL4⟩ := hG
  unfold rfl_takeMeta_40
  dsimp only
  rw [← e4]
  have hL4' : LR (mO K4 [] [(14, upI (K4.2 14) (M.1 21) a4)]) (mO M4 [] [(35, upI (M4.2 35) (M.1 21) a4)]) := hL4
  refine RR_sq (A := fun q => fr kF_tx_expect kA_tx_expect (mO K4 [] [(14, upI (K4.2 14) (M.1 21) a4)]) q) (B := fun q => UR rF_need rA_need (mO M4 [] [(35, upI (M4.2 35) (M.1 21) a4)]) q) (LV_G (rr_exp hL4' (c := 59) (by omega))) (u_kf_tx_expect _ _) (u_rf_need _ _) (fun z hz => RP_w (u_rfl_takeMeta_47 z.2) (fun w hw => hw.2 hz)) (fun a5 K5 b5 M5 hG fK5 fM5 => ?_)
  obtain ⟨-, hL5⟩ := hG
  unfold rfl_takeMeta_47
  dsimp only
  have m21 : M5.1 21 = M.1 21 := (fr1 fM5.1 21 rfl).trans ((fr1 fM4.1 21 rfl).trans q6)
  have m5 : M5.1 13 = M.1 13 + 1 ∧ M5.2 16 = upI (M.2 16) (M.1 13) 3 ∧ M5.2 17 = upI (M.2 17) (M.1 13) (M.1 21) := by
    have x1 : M5.1 13 = M2.1 13 := (fr1 fM5.1 13 rfl).trans ((fr1 fM4.1 13 rfl).trans (fr1 fM3.1 13 rfl))
    have x2 : M5.2 16 = M2.2 16 := (fr2 fM5.1 16 rfl).trans ((fr2 fM4.1 16 rfl).trans (fr2 fM3.1 16 rfl))
    have x3 : M5.2 17 = M2.2 17 := (fr2 fM5.1 17 rfl).trans ((fr2 fM4.1 17 rfl).trans (fr2 fM3.1 17 rfl))
    rw [x1, x2, x3, n1, n2, n3, q3, fr2 fM.1 16 rfl, fr2 fM.1 17 rfl]
    exact ⟨rfl, rfl, rfl⟩
  rw [m21, cut_i (by omega) (by omega)]
  refine RR_some (Or.inl ⟨rfl, hL5, hlt, ?_, rfl, m5, a4, g1, g2, ?_, ?_⟩)
  · exact (fr1 fK5 216 rfl).trans ((fr1 fK4 216 rfl).trans (fr1 fK3 216 rfl))
  · have e1 : K4.2 14 = K.2 14 := (fr2 fK4 14 rfl).trans ((fr2 fK3 14 rfl).trans ((fr2 fK2 14 rfl).trans (fr2 fK 14 rfl)))
    have e2 : K5.2 14 = upI (K4.2 14) (M.1 21) a4 := fr2 fK5 14 rfl
    exact e2.trans (by rw [e1])
  · have e1 : M4.2 35 = M.2 35 := (fr2 fM4.1 35 rfl).trans ((fr2 fM3.1 35 rfl).trans ((fr2 fM2.1 35 rfl).trans (fr2 fM.1 35 rfl)))
    have e2 : M5.2 35 = upI (M4.2 35) (M.1 21) a4 := fr2 fM5.1 35 rfl
    exact e2.trans (by rw [e1])
theorem rr_meta (h : LR K M) (hC : CNq K M) (hN : NC K M) (hI : ME K M) (h7 : M.1 7 = 302) : RR (kf_rd_meta K) (rf_takeMeta M) (GV (fun _ K2 _ M2 => LR K2 M2 ∧ CNq K2 M2 ∧ NC K2 M2 ∧ ME K2 M2)) := by
  intro y z hy hz
  have f1 := u_kf_rd_meta K y hy
  have f2 := (u_rf_takeMeta M z hz).1
  rcases rr_meta0 h hC h7 y z hy hz with ⟨e, hL, rI, a1, a2, ⟨a3, a4, a5⟩, b, b0, b1, b2, b3⟩ | q
  · obtain ⟨⟨c1, c2, c3, c4, c5, c6, c7, c8⟩, r1, r2, r3, r4, r5, r6, r7, r8, hsum⟩ := hC
    refine Or.inl ⟨e, hL, ?_, ?_, ?_⟩
    · unfold CNq CNx
      rw [fr1 f1 214 rfl, fr1 f1 215 rfl, a1, fr1 f1 217 rfl, fr1 f1 219 rfl, fr1 f1 221 rfl, fr1 f1 222 rfl, fr1 f1 223 rfl, a3, fr1 f2 19 rfl, fr1 f2 20 rfl, a2, fr1 f2 22 rfl, fr1 f2 23 rfl, fr1 f2 24 rfl, fr1 f2 25 rfl, fr1 f2 26 rfl]
      exact ⟨⟨c1, c2, rfl, c4, c5, c6, c7, c8⟩, r1, r2, by omega, r4, r5, r6, r7, r8, by omega⟩
    · unfold NC
      rw [a3, a4, a5, fr1 f2 19 rfl, fr1 f2 20 rfl, a2, fr1 f2 22 rfl, fr1 f2 23 rfl, fr1 f2 25 rfl, fr1 f2 26 rfl]
      exact NCx_up hN (by omega) (by omega) (by omega) (by omega) (by omega) (by omega) (by omega) (by omega)
    · unfold ME
      rw [b2, b3, a2]
      refine ⟨fun i i0 i1 => ?_, fun i i0 i1 => ?_⟩
      · by_cases e9 : i = M.1 21
        · rw [e9, upI_s, upI_s]
          exact ⟨rfl, b0, b1⟩
        · rw [upI_n e9, upI_n e9]
          exact hI.1 i i0 (by omega)
      · rw [upI_n (by omega)]
        exact hI.2 i i0 i1
  · exact Or.inr q
theorem rr_array0 (h : LR K M) (hC : CNq K M) (h7 : M.1 7 = 303) : RR (kf_rd_array K) (rf_takeArray M) (GV (fun _ K2 _ M2 => LR K2 M2 ∧ M.1 22 < 8 ∧ K2.1 217 = M.1 22 + 1 ∧ M2.1 22 = M.1 22 + 1 ∧ (M2.1 13 = M.1 13 + 1 ∧ M2.2 16 = upI (M.2 16) (M.1 13) 4 ∧ M2.2 17 = upI (M.2 17) (M.1 13) (M.1 22)) ∧ ∃ b c, (1 ≤ b ∧ b ≤ 64) ∧ (1 ≤ c ∧ c ≤ 64) ∧ (K2.2 15 = upI (K.2 15) (M.1 22) b ∧ M2.2 36 = upI (M.2 36) (M.1 22) b) ∧ K2.2 16 = upI (K.2 16) (M.1 22) c ∧ M2.2 93 = upI (M.2 93) (M.1 22) c)) := by
  obtain ⟨⟨c1, c2, c3, c4, c5, c6, c7, c8⟩, r1, r2, r3, r4, r5, r6, r7, r8, hsum⟩ := id hC
  unfold kf_rd_array rf_takeArray
  refine RR_sq (A := fun q => fr kF_tx_advance kA_tx_advance K q) (B := fun q => UR rF_next rA_next M q) (LV_G (rr_adv h (by omega))) (u_kf_tx_advance K) (u_rf_next M) (fun z hz => RP_w (u_rfl_takeArray_4 z.2) (fun w hw => hw.2 hz)) (fun a K1 b M1 hG fK fM => ?_)
  obtain ⟨-, hL1⟩ := hG
  unfold rfl_takeArray_4
  dsimp only
  have q1 : K1.1 217 = M.1 22 := (fr1 fK 217 rfl).trans c4
  have q2 : M1.1 22 = M.1 22 := fr1 fM.1 22 rfl
  have q3 : M1.1 13 = M.1 13 := fr1 fM.1 13 rfl
  rw [q1, q2, show (303 : Int) = smp 4 from rfl]
  refine RR_sq (A := fun q => fr kF_tx_makeNew kA_tx_makeNew K1 q) (B := fun q => UR rF_newName rA_newName M1 q) (rr_newG hL1 (s := 4) (n := M.1 22) (b := 8) (by omega) (by omega) (by omega)) (u_kf_tx_makeNew _ _ _ K1) (u_rf_newName _ _ _ M1) (fun z hz => RP_w (u_rfl_takeArray_15 z.1 z.2) (fun w hw => hw.2 hz)) (fun a2 K2 b2 M2 hG fK2 fM2 => ?_)
  obtain ⟨hb, hlt, hL2, n1, n2, n3⟩ := hG
  unfold rfl_takeArray_15
  dsimp only
  have q4 : K2.1 217 = M.1 22 := (fr1 fK2 217 rfl).trans q1
  have q5 : M2.1 22 = M.1 22 := (fr1 fM2.1 22 rfl).trans q2
  rw [if_neg (by omega), q4]
  have hL2' : LR (mO K2 [(217, cut (M.1 22 + 1))] []) M2 := hL2
  rw [cut_i (by omega) (by omega)] at hL2' ⊢
  refine RR_sq (A := fun q => fr kF_tx_expect kA_tx_expect (mO K2 [(217, M.1 22 + 1)] []) q) (B := fun q => UR rF_need rA_need M2 q) (LV_G (rr_exp hL2' (c := 58) (by omega))) (u_kf_tx_expect _ _) (u_rf_need _ M2) (fun z hz => RP_w (u_rfl_takeArray_25 z.2) (fun w hw => hw.2 hz)) (fun a3 K3 b3 M3 hG fK3 fM3 => ?_)
  obtain ⟨-, hL3⟩ := hG
  unfold rfl_takeArray_25
  dsimp only
  have q6 : M3.1 22 = M.1 22 := (fr1 fM3.1 22 rfl).trans q5
  rw [q6]
  refine RR_sq (A := fun q => fr kF_tx_within kA_tx_within K3 q) (B := fun q => UR rF_number rA_number M3 q) (LV_G (rr_num hL3 (a := 1) (b := 64) (by omega))) (u_kf_tx_within _ _ K3) (u_rf_number _ _ M3) (fun z hz => RP_w (u_rfl_takeArray_40 (M.1 22) z.1 z.2) (fun w hw => hw.2 hz)) (fun a4 K4 b4 M4 hG fK4 fM4 => ?_)
  obtain ⟨⟨e4, g1, g2⟩, hL4⟩ := hG
  unfold rfl_takeArray_40
  dsimp only
  rw [← e4]
  have hL4' : LR (mO K4 [] [(15, upI (K4.2 15) (M.1 22) a4)]) (mO M4 [] [(36, upI (M4.2 36) (M.1 22) a4)]) := hL4
  refine RR_sq (A := fun q => fr kF_tx_expect kA_tx_expect (mO K4 [] [(15, upI (K4.2 15) (M.1 22) a4)]) q) (B := fun q => UR rF_need rA_need (mO M4 [] [(36, upI (M4.2 36) (M.1 22) a4)]) q) (LV_G (rr_exp hL4' (c := 91) (by omega))) (u_kf_tx_expect _ _) (u_rf_need _ _) (fun z hz => RP_w (u_rfl_takeArray_47 z.2) (fun w hw => hw.2 hz)) (fun a5 K5 b5 M5 hG fK5 fM5 => ?_)
  obtain ⟨-, hL5⟩ := hG
  unfold rfl_takeArray_47
  dsimp only
  have q7 : M5.1 22 = M.1 22 := (fr1 fM5.1 22 rfl).trans ((fr1 fM4.1 22 rfl).trans q6)
  rw [q7]
  refine RR_sq (A := fun q => fr kF_tx_within kA_tx_within K5 q) (B := fun q => UR rF_number rA_number M5 q) (LV_G (rr_num hL5 (a := 1) (b := 64) (by omega))) (u_kf_tx_within _ _ K5) (u_rf_number _ _ M5) (fun z hz => RP_w (u_rfl_takeArray_62 (M.1 22) z.1 z.2) (fun w hw => hw.2 hz)) (fun a6 K6 b6 M6 hG fK6 fM6 => ?_)
  obtain ⟨⟨e6, g3, g4⟩, hL6⟩ := hG
  unfold rfl_takeArray_62
  dsimp only
  rw [← e6]
  have hL6' : LR (mO K6 [] [(16, upI (K6.2 16) (M.1 22) a6)]) (mO M6 [] [(93, upI (M6.2 93) (M.1 22) a6)]) := hL6
  refine RR_sq (A := fun q => fr kF_tx_expect kA_tx_expect (mO K6 [] [(16, upI (K6.2 16) (M.1 22) a6)]) q) (B := fun q => UR rF_need rA_need (mO M6 [] [(93, upI (M6.2 93) (M.1 22) a6)]) q) (LV_G (rr_exp hL6' (c := 93) (by omega))) (u_kf_tx_expect _ _) (u_rf_need _ _) (fun z hz => RP_w (u_rfl_takeArray_69 z.2) (fun w hw => hw.2 hz)) (fun a7 K7 b7 M7 hG fK7 fM7 => ?_)
  obtain ⟨-, hL7⟩ := hG
  unfold rfl_takeArray_69
  dsimp only
  refine RR_sq (A := fun q => fr kF_tx_expect kA_tx_expect K7 q) (B := fun q => UR rF_need rA_need M7 q) (LV_G (rr_exp hL7 (c := 59) (by omega))) (u_kf_tx_expect _ _) (u_rf_need _ _) (fun z hz => RP_w (u_rfl_takeArray_75 z.2) (fun w hw => hw.2 hz)) (fun a8 K8 b8 M8 hG fK8 fM8 => ?_)
  obtain ⟨-, hL8⟩ := hG
  unfold rfl_takeArray_75
  dsimp only
  have m22 : M8.1 22 = M.1 22 := (fr1 fM8.1 22 rfl).trans ((fr1 fM7.1 22 rfl).trans ((fr1 fM6.1 22 rfl).trans q7))
  have m5 : M8.1 13 = M.1 13 + 1 ∧ M8.2 16 = upI (M.2 16) (M.1 13) 4 ∧ M8.2 17 = upI (M.2 17) (M.1 13) (M.1 22) := by
    have x1 : M8.1 13 = M2.1 13 := (fr1 fM8.1 13 rfl).trans ((fr1 fM7.1 13 rfl).trans ((fr1 fM6.1 13 rfl).trans ((fr1 fM5.1 13 rfl).trans ((fr1 fM4.1 13 rfl).trans (fr1 fM3.1 13 rfl)))))
    have x2 : M8.2 16 = M2.2 16 := (fr2 fM8.1 16 rfl).trans ((fr2 fM7.1 16 rfl).trans ((fr2 fM6.1 16 rfl).trans ((fr2 fM5.1 16 rfl).trans ((fr2 fM4.1 16 rfl).trans (fr2 fM3.1 16 rfl)))))
    have x3 : M8.2 17 = M2.2 17 := (fr2 fM8.1 17 rfl).trans ((fr2 fM7.1 17 rfl).trans ((fr2 fM6.1 17 rfl).trans ((fr2 fM5.1 17 rfl).trans ((fr2 fM4.1 17 rfl).trans (fr2 fM3.1 17 rfl)))))
    rw [x1, x2, x3, n1, n2, n3, q3, fr2 fM.1 16 rfl, fr2 fM.1 17 rfl]
    exact ⟨rfl, rfl, rfl⟩
  rw [m22, cut_i (by omega) (by omega)]
  refine RR_some (Or.inl ⟨rfl, hL8, hlt, ?_, rfl, m5, a4, a6, ⟨g1, g2⟩, ⟨g3, g4⟩, ⟨?_, ?_⟩, ?_, ?_⟩)
  · exact (fr1 fK8 217 rfl).trans ((fr1 fK7 217 rfl).trans ((fr1 fK6 217 rfl).trans ((fr1 fK5 217 rfl).trans ((fr1 fK4 217 rfl).trans (fr1 fK3 217 rfl)))))
  · have e1 : K4.2 15 = K.2 15 := (fr2 fK4 15 rfl).trans ((fr2 fK3 15 rfl).trans ((fr2 fK2 15 rfl).trans (fr2 fK 15 rfl)))
    have e2 : K8.2 15 = upI (K4.2 15) (M.1 22) a4 := (fr2 fK8 15 rfl).trans ((fr2 fK7 15 rfl).trans ((fr2 fK6 15 rfl).trans (fr2 fK5 15 rfl)))
    exact e2.trans (by rw [e1])
  · have e1 : M4.2 36 = M.2 36 := (fr2 fM4.1 36 rfl).trans ((fr2 fM3.1 36 rfl).trans ((fr2 fM2.1 36 rfl).trans (fr2 fM.1 36 rfl)))
    have e2 : M8.2 36 = upI (M4.2 36) (M.1 22) a4 := (fr2 fM8.1 36 rfl).trans ((fr2 fM7.1 36 rfl).trans ((fr2 fM6.1 36 rfl).trans (fr2 fM5.1 36 rfl)))
    exact e2.trans (by rw [e1])
  · have e1 : K6.2 16 = K.2 16 := (fr2 fK6 16 rfl).trans ((fr2 fK5 16 rfl).trans ((fr2 fK4 16 rfl).trans ((fr2 fK3 16 rfl).trans ((fr2 fK2 16 rfl).trans (fr2 fK 16 rfl)))))
    have e2 : K8.2 16 = upI (K6.2 16) (M.1 22) a6 := (fr2 fK8 16 rfl).trans (fr2 fK7 16 rfl)
    exact e2.trans (by rw [e1])
  · have e1 : M6.2 93 = M.2 93 := (fr2 fM6.1 93 rfl).trans ((fr2 fM5.1 93 rfl).trans ((fr2 fM4.1 93 rfl).trans ((fr2 fM3.1 93 rfl).trans ((fr2 fM2.1 93 rfl).trans (fr2 fM.1 93 rfl)))))
    have e2 : M8.2 93 = upI (M6.2 93) (M.1 22) a6 := (fr2 fM8.1 93 rfl).trans (fr2 fM7.1 93 rfl)
    exact e2.trans (by rw [e1])
theorem rr_array (h : LR K M) (hC : CNq K M) (hN : NC K M) (hI : AR K M) (h7 : M.1 7 = 303) : RR (kf_rd_array K) (rf_takeArray M) (GV (fun _ K2 _ M2 => LR K2 M2 ∧ CNq K2 M2 ∧ NC K2 M2 ∧ AR K2 M2)) := by
  intro y z hy hz
  have f1 := u_kf_rd_array K y hy
  have f2 := (u_rf_takeArray M z hz).1
  rcases rr_array0 h hC h7 y z hy hz with ⟨e, hL, rI, a1, a2, ⟨a3, a4, a5⟩, b, c, b0, b1, ⟨b2, b3⟩, b4, b5⟩ | q
  · obtain ⟨⟨c1, c2, c3, c4, c5, c6, c7, c8⟩, r1, r2, r3, r4, r5, r6, r7, r8, hsum⟩ := hC
    refine Or.inl ⟨e, hL, ?_, ?_, ?_⟩
    · unfold CNq CNx
      rw [fr1 f1 214 rfl, fr1 f1 215 rfl, fr1 f1 216 rfl, a1, fr1 f1 219 rfl, fr1 f1 221 rfl, fr1 f1 222 rfl, fr1 f1 223 rfl, a3, fr1 f2 19 rfl, fr1 f2 20 rfl, fr1 f2 21 rfl, a2, fr1 f2 23 rfl, fr1 f2 24 rfl, fr1 f2 25 rfl, fr1 f2 26 rfl]
      exact ⟨⟨c1, c2, c3, rfl, c5, c6, c7, c8⟩, r1, r2, r3, by omega, r5, r6, r7, r8, by omega⟩
    · unfold NC
      rw [a3, a4, a5, fr1 f2 19 rfl, fr1 f2 20 rfl, fr1 f2 21 rfl, a2, fr1 f2 23 rfl, fr1 f2 25 rfl, fr1 f2 26 rfl]
      exact NCx_up hN (by omega) (by omega) (by omega) (by omega) (by omega) (by omega) (by omega) (by omega)
    · unfold AR
      rw [b2, b3, b4, b5, a2]
      intro i i0 i1
      by_cases e9 : i = M.1 22
      · rw [e9, upI_s, upI_s, upI_s, upI_s]
        exact ⟨rfl, b0.1, b0.2, rfl, b1.1, b1.2⟩
      · rw [upI_n e9, upI_n e9, upI_n e9, upI_n e9]
        exact hI i i0 (by omega)
  · exact Or.inr q
end DEC2
