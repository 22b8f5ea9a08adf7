/-! ===== how far arrays come ===== -/
section PR8
variable {K M : mR}
theorem arr8 (h : LR K M) (hC : CNq K M) (h7 : M.1 7 = 303) : RR (kf_rd_array K) (rf_takeArray M) (GV (fun _ _ _ M2 => M.1 8 + 1 ≤ M2.1 8)) := by
  obtain ⟨⟨c1, c2, c3, c4, c5, c6, c7, c8⟩, r1, r2, r3, r4, r5, r6, r7, r8, hsum⟩ := id hC
  unfold kf_rd_array rf_takeArray rfl_takeArray_4
  refine nam8 (s := 4) (b := 8) (n := fun m => m.1 22) (kn := fun m => m.1 217) (k1 := fun q y4 => bnd (kf_tx_expect 58 (mO y4.2.2 [(217, cut ((y4.2.2.1 217) + 1))] [])) fun y7 => if y7.1 = 0 then bnd (kf_tx_within 1 64 y7.2.2) fun y10 => if y10.1 = 0 then bnd (kf_tx_expect 91 (mO y10.2.2 [] [(15, upI (y10.2.2.2 15) (q.1 217) y10.2.1)])) fun y13 => if y13.1 = 0 then bnd (kf_tx_within 1 64 y13.2.2) fun y16 => if y16.1 = 0 then bnd (kf_tx_expect 93 (mO y16.2.2 [] [(16, upI (y16.2.2.2 16) (q.1 217) y16.2.1)])) fun y19 => if y19.1 = 0 then bnd (kf_tx_expect 59 y19.2.2) fun y22 => if y22.1 = 0 then some (0, 0, y22.2.2) else some (y22.1, 0, y22.2.2) else some (y19.1, 0, y19.2.2) else some (y16.1, 0, y16.2.2) else some (y13.1, 0, y13.2.2) else some (y10.1, 0, y10.2.2) else some (y7.1, 0, y7.2.2)) h h7 (by omega) (by omega) (fun K1 M1 f1 f2 => ?_) (fun z hz => RP_w (u_rfl_takeArray_15 z.1 z.2) (fun w hw => hw.2 hz)) (fun K1 a K2 b2 M2 hb hL2 h8 => ?_)
  · have q1 : M1.1 22 = M.1 22 := fr1 f2 22 rfl
    have q2 : M1.1 13 = M.1 13 := fr1 f2 13 rfl
    exact ⟨by show K1.1 217 = M1.1 22; rw [fr1 f1 217 rfl, q1]; exact c4, ⟨by show 0 ≤ M1.1 22; omega, by show M1.1 22 ≤ 8; omega, by omega⟩, fun q => by have q : M1.1 22 < 8 := q; omega⟩
  · unfold rfl_takeArray_15
    dsimp only
    rw [if_neg (by omega)]
    have hL3 : LR (mO K2 [(217, cut (K2.1 217 + 1))] []) M2 := hL2
    refine RR_sq (A := fun _ => True) (B := fun _ => True) (exp8 hL3 (c := 58) (by omega)) (RP_T _) (RP_T _) (fun z hz => RP_w (u_rfl_takeArray_25 z.2) (fun w hw => hw.2 hz)) (fun _ K3 _ M3 hG _ _ => ?_)
    unfold rfl_takeArray_25
    dsimp only
    refine RR_sq (A := fun _ => True) (B := fun _ => True) (num8 hG.1) (RP_T _) (RP_T _) (fun z hz => RP_w (u_rfl_takeArray_40 _ z.1 z.2) (fun w hw => hw.2 hz)) (fun a4 K4 b4 M4 hG2 _ _ => ?_)
    unfold rfl_takeArray_40
    dsimp only
    refine RR_sq (A := fun _ => True) (B := fun _ => True) (exp8 (K' := mO K4 [] [(15, upI (K4.2 15) (K1.1 217) a4)]) (M := mO M4 [] [(36, upI (M4.2 36) (M3.1 22) b4)]) hG2.1 (c := 91) (by omega)) (RP_T _) (RP_T _) (fun z hz => RP_w (u_rfl_takeArray_47 z.2) (fun w hw => hw.2 hz)) (fun _ K5 _ M5 hG3 _ _ => ?_)
    unfold rfl_takeArray_47
    dsimp only
    refine RR_sq (A := fun _ => True) (B := fun _ => True) (num8 hG3.1) (RP_T _) (RP_T _) (fun z hz => RP_w (u_rfl_takeArray_62 _ z.1 z.2) (fun w hw => hw.2 hz)) (fun a6 K6 b6 M6 hG4 _ _ => ?_)
    unfold rfl_takeArray_62
    dsimp only
    refine RR_sq (A := fun _ => True) (B := fun _ => True) (exp8 (K' := mO K6 [] [(16, upI (K6.2 16) (K1.1 217) a6)]) (M := mO M6 [] [(93, upI (M6.2 93) (M5.1 22) b6)]) hG4.1 (c := 93) (by omega)) (RP_T _) (RP_T _) (fun z hz => RP_w (u_rfl_takeArray_69 z.2) (fun w hw => hw.2 hz)) (fun _ K7 _ M7 hG5 _ _ => ?_)
    unfold rfl_takeArray_69
    dsimp only
    refine RR_sq (A := fun _ => True) (B := fun _ => True) (exp8 hG5.1 (c := 59) (by omega)) (RP_T _) (RP_T _) (fun z hz => RP_w (u_rfl_takeArray_75 z.2) (fun w hw => hw.2 hz)) (fun _ K8 _ M8 hG6 _ _ => ?_)
    obtain ⟨-, i1⟩ := hG
    obtain ⟨-, i2⟩ := hG2
    obtain ⟨-, i3⟩ := hG3
    obtain ⟨-, i4⟩ := hG4
    obtain ⟨-, i5⟩ := hG5
    obtain ⟨-, i6⟩ := hG6
    have i3 : M4.1 8 + 1 ≤ M5.1 8 := i3
    have i5 : M6.1 8 + 1 ≤ M7.1 8 := i5
    unfold rfl_takeArray_75
    exact RR_some (Or.inl ⟨rfl, by show M.1 8 + 1 ≤ M8.1 8; omega⟩)
/-- the marks of tables that are applied stay clear -/
theorem tab59_r (b0 : 0 ≤ M.1 26) (b1 : M.1 26 ≤ 8) (h : ∀ t, 0 ≤ t → t < M.1 26 → M.2 59 t = 0) : RP (rf_takeTable M) (fun z => ∀ t, 0 ≤ t → t < z.2.1 26 → z.2.2 59 t = 0) := by
  unfold rf_takeTable rfl_takeTable_4 rfl_takeTable_16
  refine RP_bnd (u_rf_next M) (fun y hy => RP_bnd (u_rf_newName 7 (y.2.1 26) 8 y.2) (fun z hz => ?_))
  have f : fr [7, 8, 9, 10, 11, 12, 13] [14, 15, 16, 17] M z.2 := fr_s hz.1 (fr_s hy.1 fr_0 rfl rfl) rfl rfl
  refine RP_ite (fun g => RP_some (fun t t0 t1 => ?_)) (fun g => ?_)
  · rw [fr2 f 59 rfl]
    exact h t t0 (by rw [← fr1 f 26 rfl]; exact t1)
  · refine RP_bnd (u_rf_need 123 _) (fun w hw => RP_w (u_rfl_takeTable_76 (z.2.1 26) w.2) (fun q hq t t0 t1 => ?_))
    rw [fr1 hq.1 26 rfl, fr1 hw.1 26 rfl] at t1
    have t1 : t < cut (z.2.1 26 + 1) := t1
    rw [fr2 hq.1 59 rfl, fr2 hw.1 59 rfl]
    show upI (z.2.2 59) (z.2.1 26) (nar1 0) t = 0
    have e26 : z.2.1 26 = M.1 26 := fr1 f 26 rfl
    rw [e26, cut_i (by omega) (by omega)] at t1
    rw [e26, fr2 f 59 rfl]
    by_cases e : t = M.1 26
    · rw [e, upI_s]; rfl
    · rw [upI_n e]
      exact h t t0 (by omega)
end PR8
