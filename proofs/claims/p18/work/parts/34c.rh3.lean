/-! ===== tables: a key, and all keys ===== -/
section KE3
variable {K M : mR} {t : Int}
theorem FV3_u {m : mR} {F A : List Nat} {X : Option (Sum (Int × Int × mR) (Sum mR (Int × Int × mR)))} (h : RP X (sel (fun z : Int × Int × mR => UR F A m z.2.2) (sel (fun z : mR => UR F A m z) (fun z : Int × Int × mR => UR F A m z.2.2)))) (hf : 0 < m.1 10) : RP X FV3 := RP_w h (fun v hv => by
  cases v with
  | inl s => exact hv.2 hf
  | inr r =>
    cases r with
    | inl q => exact hv.2 hf
    | inr q => exact hv.2 hf)
theorem key_s {i p q : Int} (h : TX t K M) (hi : i = M.2 51 t) (i4 : i < 4) (hpq : PM t p q M) (hw : M.1 7 = 311) : RR (kf_rd_keyLine t i K) (rfl_takeTable_137 t p q M) (KG t i (M.1 8 + 1)) := by
  have h0 := h
  obtain ⟨hXP, h64, ⟨t0, t1⟩, hTB, hTK⟩ := h
  have hX := hXP.1.2.1
  have hf := hXP.1.2.2.2.2
  have t8 := hXP.2.1.1.2.2.2.2.2.2.2.2.1
  have r7 := hXP.2.1.1.2.2.2.2.2.2.2.1
  have i0 : 0 ≤ i := by have := hTK.2.1; omega
  unfold kf_rd_keyLine kfl_rd_keyLine_33 rfl_takeTable_137
  rw [hX.1, if_pos ((wm_big hX.2.1 (by omega)).mpr hw), if_pos i4, if_pos (show M.1 10 ≤ 0 by omega), cut_i (z := 4 * t) (by omega) (by omega), ← hi, cut_i (z := 4 * t + i) (by omega) (by omega)]
  refine RR_gq (FB := FV3) (G := fun _ K1 _ M1 => LR K1 M1 ∧ fr kF_tx_advance kA_tx_advance K K1 ∧ fr rF_next rA_next M M1 ∧ M.1 8 + 1 ≤ M1.1 8) (exw_s hXP.1 (c := 311) (by omega) hw) (fun y v hy hv => Or.inr ⟨hy, hv⟩) (fun z hz => FV3_u (u_rfl_takeTable_161 t p q _ z.2) hz) (fun _ K1 _ M1 hG => ?_)
  obtain ⟨g1, g2, g3, g4⟩ := hG
  have hX1 : XP K1 M1 := XP_f hXP g1 g2 g3 rfl rfl rfl rfl
  have n220 : K1.1 220 = M1.1 28 := hX1.2.2.2.1.1.1
  unfold rfl_takeTable_161
  dsimp only
  rw [if_pos g1.2.2.2.2]
  have f79 : fr [] [79] K1 (mO K1 [] [(79, upI (K1.2 79) (65536 * t + i) (K1.1 220))]) := fr_m fr_0 rfl rfl
  have f110 : fr [] [110] M1 (mO M1 [] [(110, upI (M1.2 110) (4 * t + i) (M1.1 28))]) := fr_m fr_0 rfl rfl
  have hX2 : XP (mO K1 [] [(79, upI (K1.2 79) (65536 * t + i) (K1.1 220))]) (mO M1 [] [(110, upI (M1.2 110) (4 * t + i) (M1.1 28))]) := XP_f hX1 g1 f79 f110 rfl rfl rfl rfl
  have e64 : M1.1 64 = -1 := (fr1 g3 64 rfl).trans h64
  refine RR_gx (FB := FV3) (A := fun q => fr kF_fm_whole kA_fm_whole (mO K1 [] [(79, upI (K1.2 79) (65536 * t + i) (K1.1 220))]) q) (B := fun q => UR rF_readExpr rA_readExpr (mO M1 [] [(110, upI (M1.2 110) (4 * t + i) (M1.1 28))]) q) (whole_s (v := -1) hX2.1 hX2.2.2.2.1 hX2.2.1 e64.symm hX2.2.2.2.2.1 hX2.2.2.2.2.2) (u_kf_fm_whole _ _) (u_rf_readExpr _) (fun y v hy hv => Or.inr ⟨hy, hv⟩) (fun z hz => FV3_u (u_rfl_takeTable_183 t p q _ z.2) hz) (fun a K1 hd => ?_) (fun a K2 b2 M2 hG uK uM => ?_)
  · dsimp only
    refine RP_bnd (exp_d (show (mO K1 [] [(80, upI (K1.2 80) (65536 * t + i) a), (82, upI (K1.2 82) (65536 * t + i) ((K1.2 22) a))]).1 213 = 1 from hd.1)) (fun y hy => ?_)
    rw [if_neg hy]
    exact RP_some hy
  · obtain ⟨x1, x2, x3, x4, x5, x6⟩ := hG
    obtain ⟨o0, o1, o2, o3⟩ := OP_r x5
    unfold rfl_takeTable_183
    dsimp only
    have hL2 : LR (mO K2 [] [(80, upI (K2.2 80) (65536 * t + i) a), (82, upI (K2.2 82) (65536 * t + i) ((K2.2 22) a))]) (mO M2 [] [(111, upI (M2.2 111) (4 * t + i) (M2.1 28)), (112, upI (M2.2 112) (4 * t + i) (M2.1 69))]) := x1
    refine RR_gq (FB := FV3) (G := fun _ K3 _ M3 => LR K3 M3 ∧ fr kF_tx_expect kA_tx_expect (mO K2 [] [(80, upI (K2.2 80) (65536 * t + i) a), (82, upI (K2.2 82) (65536 * t + i) ((K2.2 22) a))]) K3 ∧ fr rF_need rA_need (mO M2 [] [(111, upI (M2.2 111) (4 * t + i) (M2.1 28)), (112, upI (M2.2 112) (4 * t + i) (M2.1 69))]) M3 ∧ M2.1 8 + 1 ≤ M3.1 8) (exp_s hL2 (c := 58) (by omega)) (fun y v hy hv => Or.inr ⟨hy, hv⟩) (fun z hz => FV3_u (u_rfl_takeTable_215 t p q _ _ z.2) hz) (fun _ K3 _ M3 hG => ?_)
    obtain ⟨y1, y2, y3, y4⟩ := hG
    have hY := y1.2.1
    unfold rfl_takeTable_215
    dsimp only
    rw [if_pos y1.2.2.2.2, hY.1]
    have fKa : fr kF_tx_expect [80, 82] K2 K3 := fr_s y2 (fr_m fr_0 rfl rfl) rfl rfl
    have fMa : fr rF_need [111, 112] M2 M3 := fr_s y3 (fr_m fr_0 rfl rfl) rfl rfl
    have fK3 : fr kF_fm_whole [18, 19, 20, 21, 22, 23, 24, 68, 69, 70, 79, 80, 82] K K3 := fr_s fKa (fr_s uK (fr_s f79 (fr_s g2 fr_0 rfl rfl) rfl rfl) rfl rfl) rfl rfl
    have fM3 : fr rF_readExpr [65, 66, 67, 68, 76, 77, 78, 79, 80, 81, 82, 83, 84, 85, 86, 87, 88, 89, 90, 91, 92, 110, 111, 112] M M3 := fr_s fMa (fr_s uM.1 (fr_s f110 (fr_s g3 fr_0 rfl rfl) rfl rfl) rfl rfl) rfl rfl
    have hX3 : XP K3 M3 := XP_x hXP y1 (BP_f fKa fMa rfl rfl rfl rfl x3) (NDR_f fKa fMa rfl rfl rfl rfl x2) fK3 fM3 rfl rfl rfl
    have x6 : M1.1 8 ≤ M2.1 8 := x6
    have k79 : K3.2 79 = upI (K.2 79) (65536 * t + i) (K1.1 220) := by
      have q : K3.2 79 = upI (K1.2 79) (65536 * t + i) (K1.1 220) := (fr2 fKa 79 rfl).trans (fr2 uK 79 rfl)
      rw [q, fr2 g2 79 rfl]
    have k80 : K3.2 80 = upI (K.2 80) (65536 * t + i) a := by
      have q : K3.2 80 = upI (K2.2 80) (65536 * t + i) a := fr2 y2 80 rfl
      have q2 : K2.2 80 = K1.2 80 := fr2 uK 80 rfl
      rw [q, q2, fr2 g2 80 rfl]
    have k82 : K3.2 82 = upI (K.2 82) (65536 * t + i) (M2.1 69) := by
      have q : K3.2 82 = upI (K2.2 82) (65536 * t + i) (K2.2 22 a) := fr2 y2 82 rfl
      have q2 : K2.2 82 = K1.2 82 := fr2 uK 82 rfl
      rw [q, q2, fr2 g2 82 rfl, o3]
    have m110 : M3.2 110 = upI (M.2 110) (4 * t + i) (K1.1 220) := by
      have q : M3.2 110 = upI (M1.2 110) (4 * t + i) (M1.1 28) := (fr2 fMa 110 rfl).trans (fr2 uM.1 110 rfl)
      rw [q, fr2 g3 110 rfl, n220]
    have m111 : M3.2 111 = upI (M.2 111) (4 * t + i) (a + 1) := by
      have q : M3.2 111 = upI (M2.2 111) (4 * t + i) (M2.1 28) := fr2 y3 111 rfl
      have q2 : M2.2 111 = M1.2 111 := fr2 uM.1 111 rfl
      rw [q, q2, fr2 g3 111 rfl, x4.2]
    have m112 : M3.2 112 = upI (M.2 112) (4 * t + i) (M2.1 69) := by
      have q : M3.2 112 = upI (M2.2 112) (4 * t + i) (M2.1 69) := fr2 y3 112 rfl
      have q2 : M2.2 112 = M1.2 112 := fr2 uM.1 112 rfl
      rw [q, q2, fr2 g3 112 rfl]
    -- the kind
    have kinds : (M3.1 7 = 312 ∨ M3.1 7 = 313 ∨ M3.1 7 = 314) → RR (kfl_rd_keyLine_151 t i (M3.1 7) (K3.1 207) K3) (rfl_takeTable_262 t p q (4 * t + i) (M2.1 69) (M3.1 8) (M3.1 7) M3) (KG t i (M.1 8 + 1)) := by
      intro hkd
      unfold kfl_rd_keyLine_151 rfl_takeTable_262
      refine RR_gq (FB := FV3) (G := fun _ K4 _ M4 => LR K4 M4 ∧ fr kF_tx_advance kA_tx_advance K3 K4 ∧ fr rF_next rA_next M3 M4 ∧ M3.1 8 + 1 ≤ M4.1 8) (adv_s y1 (by omega)) (fun y v hy hv => Or.inr ⟨hy, hv⟩) (fun z hz => FV3_u (u_rfl_takeTable_266 t p q _ _ _ _ z.2) hz) (fun _ K4 _ M4 hG => ?_)
      obtain ⟨z1, z2, z3, z4⟩ := hG
      dsimp only
      unfold rfl_takeTable_266
      rw [if_pos z1.2.2.2.2]
      have fK4 : fr kF_fm_whole [18, 19, 20, 21, 22, 23, 24, 68, 69, 70, 79, 80, 82] K K4 := fr_s z2 (fr_s fK3 fr_0 rfl rfl) rfl rfl
      have fM4 : fr rF_readExpr [65, 66, 67, 68, 76, 77, 78, 79, 80, 81, 82, 83, 84, 85, 86, 87, 88, 89, 90, 91, 92, 110, 111, 112] M M4 := fr_s z3 (fr_s fM3 fr_0 rfl rfl) rfl rfl
      have k72 : K4.2 72 t = i := by rw [fr2 fK4 72 rfl, hTK.1]; exact hi.symm
      have hasK : ∀ v, RP (kf_tb_hasKey t v K4) (fun r => (r = 1 ∧ ∃ j, 0 ≤ j ∧ j < M.2 51 t ∧ M.2 113 (4 * t + j) = v) ∨ (r = 0 ∧ ∀ j, 0 ≤ j → j < M.2 51 t → M.2 113 (4 * t + j) ≠ v)) := by
        intro v
        refine RP_w (hasKey_k (t := t) (v := v) (by omega) (by omega)) (fun r hr => ?_)
        rw [k72, hi, fr2 fK4 81 rfl] at hr
        rcases hr with ⟨r1, j, j0, j1, j2⟩ | ⟨r1, r2⟩
        · obtain ⟨-, -, -, -, -, -, e, -⟩ := hTK.2.2.2.1 j j0 j1
          exact Or.inl ⟨r1, j, j0, j1, by rw [← e]; exact j2⟩
        · refine Or.inr ⟨r1, fun j j0 j1 => ?_⟩
          obtain ⟨-, -, -, -, -, -, e, -⟩ := hTK.2.2.2.1 j j0 j1
          rw [← e]
          exact r2 j j0 j1
      have has3 : RP (kf_tb_hasKey t 313 K4) (fun r => r = p) := RP_w (hasK 313) (fun r hr => by
        rcases hr with ⟨r1, j, j0, j1, j2⟩ | ⟨r1, r2⟩
        · rcases hpq.1 with ⟨p1, -⟩ | ⟨p1, p2⟩
          · omega
          · exact absurd j2 (p2 j j0 j1)
        · rcases hpq.1 with ⟨p1, j, j0, j1, j2⟩ | ⟨p1, p2⟩
          · exact absurd j2 (r2 j j0 j1)
          · omega)
      have has4 : RP (kf_tb_hasKey t 314 K4) (fun r => r = q) := RP_w (hasK 314) (fun r hr => by
        rcases hr with ⟨r1, j, j0, j1, j2⟩ | ⟨r1, r2⟩
        · rcases hpq.2 with ⟨p1, -⟩ | ⟨p1, p2⟩
          · omega
          · exact absurd j2 (p2 j j0 j1)
        · rcases hpq.2 with ⟨p1, j, j0, j1, j2⟩ | ⟨p1, p2⟩
          · exact absurd j2 (r2 j j0 j1)
          · omega)
      have pr : p = 0 ∨ p = 1 := by rcases hpq.1 with ⟨p1, -⟩ | ⟨p1, -⟩ <;> omega
      have qr : q = 0 ∨ q = 1 := by rcases hpq.2 with ⟨p1, -⟩ | ⟨p1, -⟩ <;> omega
      -- clash
      have no : RR (kfl_rd_keyLine_194 t i (M3.1 7) (K3.1 207) K4) (rfl_takeTable_301 t p q (4 * t + i) (M2.1 69) (M3.1 8) (M3.1 7) M4) (KG t i (M.1 8 + 1)) := by
        unfold kfl_rd_keyLine_194 kfl_rd_keyLine_199 rfl_takeTable_301
        rw [if_neg (by decide)]
        refine RR_w (RR_pr (thr_l (A := fun y5 => kfl_rd_keyLine_217 t i (M3.1 7) y5.2.2) (fail_1 _ _ _)) (RP_bnd (wrong_1 (by decide)) (fun z hz => FV3_u (u_rfl_takeTable_309 t p q _ _ _ z.2) hz))) (fun y v hv => Or.inr hv)
      -- no clash
      have ok : RR (kfl_rd_keyLine_198 t i (M3.1 7) (K3.1 207) K4) (rfl_takeTable_309 t p q (4 * t + i) (M2.1 69) (M3.1 7) M4) (KG t i (M.1 8 + 1)) := by
        unfold kfl_rd_keyLine_198 kfl_rd_keyLine_199
        rw [if_pos rfl]
        have f113 : fr [] [113] M4 (mO M4 [] [(113, upI (M4.2 113) (4 * t + i) (M3.1 7))]) := fr_m fr_0 rfl rfl
        have hL5 : LR K4 (mO M4 [] [(113, upI (M4.2 113) (4 * t + i) (M3.1 7))]) := z1
        have hX4 : XP K4 M4 := XP_f hX3 z1 z2 z3 rfl rfl rfl rfl
        have main : ∀ p' q', p' = (if M3.1 7 = 313 then 1 else p) → q' = (if M3.1 7 = 314 then 1 else q) → RR (kfl_rd_keyLine_217 t i (M3.1 7) K4) (rfl_takeTable_353 t p' (M2.1 69) q' (mO M4 [] [(113, upI (M4.2 113) (4 * t + i) (M3.1 7))])) (KG t i (M.1 8 + 1)) := by
          intro p' q' hp' hq'
          refine key217_s (K0 := K) (M0 := M) (a := a) (p := p) (q := q) (r79 := K1.1 220) i0 i4 h0 hi (XP_f (F := []) (A := []) hX4 hL5 fr_0 f113 rfl rfl rfl rfl) ((fr1 fM4 64 rfl).trans h64) (fr1 fM4 26 rfl) (fr1 fM4 25 rfl) (by show M.1 8 + 1 ≤ M4.1 8; omega) ⟨o1, o2⟩ x4.1 hkd hpq hp' hq' rfl (fr2 fK4 72 rfl) ((fr2 z2 79 rfl).trans k79) ((fr2 z2 80 rfl).trans k80) (fr2 fK4 81 rfl) ((fr2 z2 82 rfl).trans k82) (fr2 fK4 73 rfl) (fr2 fK4 74 rfl) (fr2 fK4 75 rfl) (fr2 fK4 76 rfl) (fr2 fK4 77 rfl) (fr2 fK4 83 rfl) (fr2 fM4 51 rfl) (fr2 fM4 52 rfl) ((fr2 z3 110 rfl).trans m110) ((fr2 z3 111 rfl).trans m111) ((fr2 z3 112 rfl).trans m112) ?_ (fr2 fM4 53 rfl) (fr2 fM4 54 rfl) (fr2 fM4 55 rfl) (fr2 fM4 56 rfl) (fr2 fM4 57 rfl) (fr2 fM4 58 rfl) (fr2 fM4 114 rfl)
          show upI (M4.2 113) (4 * t + i) (M3.1 7) = _
          rw [fr2 fM4 113 rfl]
        unfold rfl_takeTable_309 rfl_takeTable_330 rfl_takeTable_335 rfl_takeTable_348
        have q14 : ∀ p', p' = (if M3.1 7 = 313 then 1 else p) → RR (kfl_rd_keyLine_217 t i (M3.1 7) K4) (if q = 0 then if M3.1 7 = 314 then rfl_takeTable_353 t p' (M2.1 69) 1 (mO M4 [] [(113, upI (M4.2 113) (4 * t + i) (M3.1 7))]) else rfl_takeTable_353 t p' (M2.1 69) 0 (mO M4 [] [(113, upI (M4.2 113) (4 * t + i) (M3.1 7))]) else rfl_takeTable_353 t p' (M2.1 69) 1 (mO M4 [] [(113, upI (M4.2 113) (4 * t + i) (M3.1 7))])) (KG t i (M.1 8 + 1)) := by
          intro p' hp'
          refine RR_ir (fun q0 => RR_ir (fun e => main p' 1 hp' (by rw [if_pos e])) (fun e => main p' 0 hp' (by rw [if_neg e]; exact q0.symm))) (fun q0 => main p' 1 hp' ?_)
          by_cases e : M3.1 7 = 314
          · rw [if_pos e]
          · rw [if_neg e]; omega
        refine RR_ir (fun p0 => RR_ir (fun e => q14 1 (by rw [if_pos e])) (fun e => q14 0 (by rw [if_neg e]; exact p0.symm))) (fun p0 => q14 1 ?_)
        by_cases e : M3.1 7 = 313
        · rw [if_pos e]
        · rw [if_neg e]; omega
      rcases hkd with e | e | e
      · refine RR_il (fun _ => ?_) (fun n => absurd e n)
        refine RR_ir (fun n => absurd (e.symm.trans n) (by decide)) (fun _ => ?_)
        unfold kfl_rd_keyLine_176 rfl_takeTable_289
        refine RR_il (fun n => absurd (e.symm.trans n) (by decide)) (fun _ => ?_)
        refine RR_ir (fun n => absurd (e.symm.trans n) (by decide)) (fun _ => ?_)
        exact ok
      · refine RR_il (fun n => absurd (e.symm.trans n) (by decide)) (fun _ => ?_)
        refine RR_ir (fun _ => ?_) (fun n => absurd e n)
        refine RR_l has3 (fun r hr => ?_)
        rcases pr with p0 | p1
        · refine RR_il (fun _ => ?_) (fun n => by omega)
          refine RR_ir (fun _ => ?_) (fun n => absurd p0 n)
          unfold kfl_rd_keyLine_176
          refine RR_il (fun _ => ?_) (fun n => absurd e n)
          refine RR_l has4 (fun r2 hr2 => ?_)
          rcases qr with q0 | q1
          · refine RR_il (fun _ => ?_) (fun n => by omega)
            refine RR_ir (fun _ => ?_) (fun n => absurd q0 n)
            unfold rfl_takeTable_289
            refine RR_ir (fun n => absurd (e.symm.trans n) (by decide)) (fun _ => ?_)
            exact ok
          · refine RR_il (fun n => by omega) (fun _ => ?_)
            exact RR_ir (fun n => by omega) (fun _ => no)
        · refine RR_il (fun n => by omega) (fun _ => ?_)
          exact RR_ir (fun n => by omega) (fun _ => no)
      · refine RR_il (fun n => absurd (e.symm.trans n) (by decide)) (fun _ => ?_)
        refine RR_ir (fun n => absurd (e.symm.trans n) (by decide)) (fun _ => ?_)
        unfold rfl_takeTable_289
        refine RR_ir (fun _ => ?_) (fun n => absurd e n)
        refine RR_l has3 (fun r hr => ?_)
        rcases pr with p0 | p1
        · refine RR_il (fun _ => ?_) (fun n => by omega)
          refine RR_ir (fun _ => ?_) (fun n => absurd p0 n)
          unfold kfl_rd_keyLine_176
          refine RR_il (fun n => absurd (e.symm.trans n) (by decide)) (fun _ => ?_)
          exact ok
        · refine RR_il (fun n => by omega) (fun _ => ?_)
          exact RR_ir (fun n => by omega) (fun _ => no)
    have e7 : (M3.1 7 = 312 ∨ M3.1 7 = 313 ∨ M3.1 7 = 314) → wm (M3.1 7) = M3.1 7 := fun hk => (wm_big hY.2.1 (c := M3.1 7) (by omega)).mpr rfl
    refine RR_ii (wm_big hY.2.1 (by omega)) (fun e _ => ?_) (fun _ n1 => RR_ii (wm_big hY.2.1 (by omega)) (fun e _ => ?_) (fun _ n2 => RR_ii (wm_big hY.2.1 (by omega)) (fun e _ => ?_) (fun _ n3 => ?_)))
    · have q := (wm_big hY.2.1 (c := 312) (by omega)).mp e
      rw [e7 (Or.inl q)]
      exact kinds (Or.inl q)
    · have q := (wm_big hY.2.1 (c := 313) (by omega)).mp e
      rw [e7 (Or.inr (Or.inl q))]
      exact kinds (Or.inr (Or.inl q))
    · have q := (wm_big hY.2.1 (c := 314) (by omega)).mp e
      rw [e7 (Or.inr (Or.inr q))]
      exact kinds (Or.inr (Or.inr q))
    · refine RR_w (RR_pr (thr_l (A := fun y33 => kfl_rd_keyLine_151 t i (wm (M3.1 7)) (K3.1 207) y33.2.2) (refuse_1 _)) (RP_bnd (bad_1 M3) (fun z hz => FV3_u (u_rfl_takeTable_262 t p q _ _ _ _ z.2) hz))) (fun y v hv => Or.inr hv)
end KE3
