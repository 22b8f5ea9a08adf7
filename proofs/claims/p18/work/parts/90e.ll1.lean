set_option maxHeartbeats 4000000 in
theorem lw_3 {w : wX} {L : Nat} {xs : Nat → Int32} {Q : ag_Re af_T → Prop} {K m : mR} {c : Nat → Option am_C} {N nc ns : Nat} {i : Int} (hX : w.1 = (some L, fun j => some (xs j))) (h0 : 0 ≤ i) (h1 : i + 6 ≤ L) (hL : L ≤ 3072) (hI : LI5 i K m c N nc ns) (H : ∀ K m c N nc ns, LI5 (i + 6) K m c N nc ns → TT w 17 pm_0 (955, LV i, [], (khp K c, N), nc, ns) Q) : TT w 17 pm_0 (248, LV i, [], (khp K c, N), nc, ns) Q := by
  obtain ⟨⟨hK, hM, hIK, hIM, hm, hc, hF, hN, hN2, hn1, hn2⟩, hRel, hTM, hPQ, hPJ⟩ := hI
  obtain ⟨m_ct, m_pth, m_pld, m_hNM0, m_hFA0, m_hPA0, m_hHB0, m_wCN, m_wSO, m_wSt, m_wTd, m_wAc, m_wTb, m_wIN, m_wHO, m_wAR, m_wSp, m_wEM, m_wNA, m_hEMp, m_hEAp, m_hLT, m_pin, m_pou⟩ := id hIM
  refine T_ld 249 (.ref 0) rfl (fun _ => rfl) ?_
  refine T_ld 250 (.ref 1000000) rfl (fun _ => rfl) ?_
  refine T_ld 252 (.int (i32 i)) rfl (fun _ => rfl) ?_
  refine T_ld 253 (.int (i32 1)) rfl (fun _ => rfl) ?_
  refine T_iadd 254 rfl rfl ?_
  refine L_sl 255 rfl hX (by omega) (by omega) hL rfl ?_
  refine T_callx 258 26 [.ref 0, .int (i32 (sx xs (i + 1)))] [] rfl (fun _ => rfl) rfl rfl (c_pw_fault w K c N 17 (by omega) hK (sx xs (i + 1)) (sx_r _ _)) (fun rr1 hr2 => ?_)
  obtain ⟨r1, g1, rfl⟩ := hr2
  refine Or.inl ⟨_, _, _, _, rfl, ?_⟩
  refine T_ns (st' := [.int (i32 r1)]) rfl ?_
  refine T_pop 259 rfl (fun _ => rfl) ?_
  refine T_ld 260 (.ref 189) rfl (fun _ => rfl) ?_
  refine T_ld 261 (.ref 1000000) rfl (fun _ => rfl) ?_
  refine T_ld 263 (.int (i32 i)) rfl (fun _ => rfl) ?_
  refine T_ld 264 (.int (i32 1)) rfl (fun _ => rfl) ?_
  refine T_iadd 265 rfl rfl ?_
  refine L_sl 266 rfl hX (by omega) (by omega) hL rfl ?_
  refine L_ref (m := m) 269 287 [.int (i32 (sx xs (i + 1)))] [] rfl rfl rfl rfl rfl rfl rfl hK hm (c_fault w m (khp K c) N 17 (by omega) hM (sx xs (i + 1)) (sx_r _ _) ) (fun rr3 hr4 => ?_)
  obtain ⟨M2, r2, TM, FM, g2, rfl⟩ := hr4
  refine ⟨_, M2, rfl, ?_⟩
  refine T_ns (st' := [.int (i32 r2)]) rfl ?_
  refine T_pop 270 rfl (fun _ => rfl) ?_
  refine T_goto 955 rfl (fun _ => rfl) ?_
  refine Tm_lv (a := LV i) (b := [(4, .int (i32 i)), (3, .ref 326), (2, .ref 189), (1, .ref 0), (0, .ref 1000000)]) rfl rfl ⟨rfl, rfl, rfl, rfl, rfl, trivial⟩ (H K M2 (mhp M2 c) N _ _ ⟨⟨hK, TM, (IK_i hIK (show i ≤ i + 6 by omega)), (IM_f hIM (show i ≤ i + 6 by omega) FM rfl), mhp_id, (show ∃ F, mhp M2 c 326 = some (ocl F) from by rw [mhp_lo (by omega)]; exact hc), hF, by omega, by omega, by omega, by omega⟩, (RX_f hRel (fr_0 (u := []) (v := [])) hK FM TM rfl rfl rfl rfl), (TM_fr hTM (fr_0 (u := []) (v := [])) FM rfl rfl rfl rfl), (PQs_fr hRel hM hIM hPQ (fr_0 (u := []) (v := [])) FM rfl rfl rfl rfl), (PJs_fr hPJ (hM.1 151).1 m_pld (fr_0 (u := []) (v := [])) hK FM TM (by decide +kernel) (by decide +kernel) (by decide +kernel) (by decide +kernel) (by decide +kernel) (by decide +kernel) (by decide +kernel) (by decide +kernel))⟩)
set_option maxHeartbeats 4000000 in
theorem lw_4 {w : wX} {L : Nat} {xs : Nat → Int32} {Q : ag_Re af_T → Prop} {K m : mR} {c : Nat → Option am_C} {N nc ns : Nat} {i : Int} (hX : w.1 = (some L, fun j => some (xs j))) (h0 : 0 ≤ i) (h1 : i + 6 ≤ L) (hL : L ≤ 3072) (hI : LI5 i K m c N nc ns) (H : ∀ K m c N nc ns, LI5 (i + 6) K m c N nc ns → TT w 17 pm_0 (955, LV i, [], (khp K c, N), nc, ns) Q) : TT w 17 pm_0 (273, LV i, [], (khp K c, N), nc, ns) Q := by
  obtain ⟨⟨hK, hM, hIK, hIM, hm, hc, hF, hN, hN2, hn1, hn2⟩, hRel, hTM, hPQ, hPJ⟩ := hI
  obtain ⟨m_ct, m_pth, m_pld, m_hNM0, m_hFA0, m_hPA0, m_hHB0, m_wCN, m_wSO, m_wSt, m_wTd, m_wAc, m_wTb, m_wIN, m_wHO, m_wAR, m_wSp, m_wEM, m_wNA, m_hEMp, m_hEAp, m_hLT, m_pin, m_pou⟩ := id hIM
  refine T_ld 274 (.ref 0) rfl (fun _ => rfl) ?_
  refine T_ld 275 (.ref 1000000) rfl (fun _ => rfl) ?_
  refine T_ld 277 (.int (i32 i)) rfl (fun _ => rfl) ?_
  refine T_ld 278 (.int (i32 1)) rfl (fun _ => rfl) ?_
  refine T_iadd 279 rfl rfl ?_
  refine L_sl 280 rfl hX (by omega) (by omega) hL rfl ?_
  refine T_callx 283 27 [.ref 0, .int (i32 (sx xs (i + 1)))] [] rfl (fun _ => rfl) rfl rfl (c_pw_size w K c N 17 (by omega) hK (sx xs (i + 1)) (sx_r _ _)) (fun rr1 hr2 => ?_)
  obtain ⟨r1, g1, rfl⟩ := hr2
  refine Or.inl ⟨_, _, _, _, rfl, ?_⟩
  refine T_ns (st' := [.int (i32 r1)]) rfl ?_
  refine T_pop 284 rfl (fun _ => rfl) ?_
  refine T_ld 285 (.ref 189) rfl (fun _ => rfl) ?_
  refine T_ld 286 (.ref 1000000) rfl (fun _ => rfl) ?_
  refine T_ld 288 (.int (i32 i)) rfl (fun _ => rfl) ?_
  refine T_ld 289 (.int (i32 1)) rfl (fun _ => rfl) ?_
  refine T_iadd 290 rfl rfl ?_
  refine L_sl 291 rfl hX (by omega) (by omega) hL rfl ?_
  refine L_ref (m := m) 294 288 [.int (i32 (sx xs (i + 1)))] [] rfl rfl rfl rfl rfl rfl rfl hK hm (c_size w m (khp K c) N 17 (by omega) hM (sx xs (i + 1)) (sx_r _ _) ) (fun rr3 hr4 => ?_)
  obtain ⟨M2, r2, TM, FM, g2, rfl⟩ := hr4
  refine ⟨_, M2, rfl, ?_⟩
  refine T_ns (st' := [.int (i32 r2)]) rfl ?_
  refine T_pop 295 rfl (fun _ => rfl) ?_
  refine T_goto 955 rfl (fun _ => rfl) ?_
  refine Tm_lv (a := LV i) (b := [(4, .int (i32 i)), (3, .ref 326), (2, .ref 189), (1, .ref 0), (0, .ref 1000000)]) rfl rfl ⟨rfl, rfl, rfl, rfl, rfl, trivial⟩ (H K M2 (mhp M2 c) N _ _ ⟨⟨hK, TM, (IK_i hIK (show i ≤ i + 6 by omega)), (IM_f hIM (show i ≤ i + 6 by omega) FM rfl), mhp_id, (show ∃ F, mhp M2 c 326 = some (ocl F) from by rw [mhp_lo (by omega)]; exact hc), hF, by omega, by omega, by omega, by omega⟩, (RX_f hRel (fr_0 (u := []) (v := [])) hK FM TM rfl rfl rfl rfl), (TM_fr hTM (fr_0 (u := []) (v := [])) FM rfl rfl rfl rfl), (PQs_fr hRel hM hIM hPQ (fr_0 (u := []) (v := [])) FM rfl rfl rfl rfl), (PJs_fr hPJ (hM.1 151).1 m_pld (fr_0 (u := []) (v := [])) hK FM TM (by decide +kernel) (by decide +kernel) (by decide +kernel) (by decide +kernel) (by decide +kernel) (by decide +kernel) (by decide +kernel) (by decide +kernel))⟩)
set_option maxHeartbeats 4000000 in
theorem lw_5 {w : wX} {L : Nat} {xs : Nat → Int32} {Q : ag_Re af_T → Prop} {K m : mR} {c : Nat → Option am_C} {N nc ns : Nat} {i : Int} (hX : w.1 = (some L, fun j => some (xs j))) (h0 : 0 ≤ i) (h1 : i + 6 ≤ L) (hL : L ≤ 3072) (hI : LI5 i K m c N nc ns) (H : ∀ K m c N nc ns, LI5 (i + 6) K m c N nc ns → TT w 17 pm_0 (955, LV i, [], (khp K c, N), nc, ns) Q) : TT w 17 pm_0 (298, LV i, [], (khp K c, N), nc, ns) Q := by
  obtain ⟨⟨hK, hM, hIK, hIM, hm, hc, hF, hN, hN2, hn1, hn2⟩, hRel, hTM, hPQ, hPJ⟩ := hI
  obtain ⟨Kp, mp, hA, hB, hR, hG⟩ := id hRel
  obtain ⟨Kj, mj, hAj, hBj, hJ⟩ := id hPJ
  obtain ⟨m_ct, m_pth, m_pld, m_hNM0, m_hFA0, m_hPA0, m_hHB0, m_wCN, m_wSO, m_wSt, m_wTd, m_wAc, m_wTb, m_wIN, m_wHO, m_wAR, m_wSp, m_wEM, m_wNA, m_hEMp, m_hEAp, m_hLT, m_pin, m_pou⟩ := id hIM
  refine T_ld 299 (.ref 0) rfl (fun _ => rfl) ?_
  refine T_ld 300 (.ref 1000000) rfl (fun _ => rfl) ?_
  refine T_ld 302 (.int (i32 i)) rfl (fun _ => rfl) ?_
  refine T_ld 303 (.int (i32 1)) rfl (fun _ => rfl) ?_
  refine T_iadd 304 rfl rfl ?_
  refine L_sl 305 rfl hX (by omega) (by omega) hL rfl ?_
  refine T_ld 306 (.ref 1000000) rfl (fun _ => rfl) ?_
  refine T_ld 308 (.int (i32 i)) rfl (fun _ => rfl) ?_
  refine T_ld 309 (.int (i32 2)) rfl (fun _ => rfl) ?_
  refine T_iadd 310 rfl rfl ?_
  refine L_sl 311 rfl hX (by omega) (by omega) hL rfl ?_
  refine T_ld 312 (.ref 1000000) rfl (fun _ => rfl) ?_
  refine T_ld 314 (.int (i32 i)) rfl (fun _ => rfl) ?_
  refine T_ld 315 (.int (i32 3)) rfl (fun _ => rfl) ?_
  refine T_iadd 316 rfl rfl ?_
  refine L_sl 317 rfl hX (by omega) (by omega) hL rfl ?_
  refine T_ld 318 (.ref 326) rfl (fun _ => rfl) ?_
  refine T_callx 321 148 [.ref 0, .int (i32 (sx xs (i + 1))), .int (i32 (sx xs (i + 2))), .int (i32 (sx xs (i + 3))), .ref 326] [] rfl (fun _ => rfl) rfl rfl (h_lay w K c N 17 (by omega) hK i (i + 6) h0 (by omega) hIK rfl hc hF ⟨by omega, by omega⟩ Kp hA Kj (fun _ => khp_AG2 hAj) (KCo_j hAj hK) (sx xs (i + 1)) (sx_r _ _) (sx xs (i + 2)) (sx_r _ _) (sx xs (i + 3)) (sx_r _ _)) (fun rr1 hr2 => ?_)
  obtain ⟨K1, c1, N1, k1, n1, r1, TK1, IK1, oc1, F1, b1, ⟨g1, P1⟩, rfl⟩ := hr2
  refine Or.inl ⟨_, _, _, _, rfl, ?_⟩
  obtain ⟨g1a, g1b⟩ := g1
  refine T_ns (st' := [.int (i32 r1)]) rfl ?_
  obtain ⟨⟨yj, hyj, cKj, hkj⟩, y, hy, cK, hk, fK, hout⟩ := P1
  refine Tm_step (S' := (323, [(5, .int (i32 r1)), (4, .int (i32 i)), (3, .ref 326), (2, .ref 189), (1, .ref 0), (0, .ref 1000000)], [], (khp K1 c1, N1), _, _)) rfl (fun _ => rfl) ?_
  refine T_ld 324 (.ref 189) rfl (fun _ => rfl) ?_
  refine T_ld 325 (.ref 1000000) rfl (fun _ => rfl) ?_
  refine T_ld 327 (.int (i32 i)) rfl (fun _ => rfl) ?_
  refine T_ld 328 (.int (i32 1)) rfl (fun _ => rfl) ?_
  refine T_iadd 329 rfl rfl ?_
  refine L_sl 330 rfl hX (by omega) (by omega) hL rfl ?_
  refine T_ld 331 (.ref 1000000) rfl (fun _ => rfl) ?_
  refine T_ld 333 (.int (i32 i)) rfl (fun _ => rfl) ?_
  refine T_ld 334 (.int (i32 2)) rfl (fun _ => rfl) ?_
  refine T_iadd 335 rfl rfl ?_
  refine L_sl 336 rfl hX (by omega) (by omega) hL rfl ?_
  refine T_ld 337 (.ref 1000000) rfl (fun _ => rfl) ?_
  refine T_ld 339 (.int (i32 i)) rfl (fun _ => rfl) ?_
  refine T_ld 340 (.int (i32 3)) rfl (fun _ => rfl) ?_
  refine T_iadd 341 rfl rfl ?_
  refine L_sl 342 rfl hX (by omega) (by omega) hL rfl ?_
  refine L_ref (m := m) 345 289 [.int (i32 (sx xs (i + 3))), .int (i32 (sx xs (i + 2))), .int (i32 (sx xs (i + 1)))] [] rfl rfl rfl rfl rfl rfl rfl TK1 (OC_m oc1 hm) (Tc_a (Tc_a (c_lay w m (khp K1 c1) N1 17 (by omega) hM (sx xs (i + 1)) (sx xs (i + 2)) (sx xs (i + 3)) (sx_r _ _) (sx_r _ _) (sx_r _ _) m_wCN m_wSO m_wSt m_wTd m_wAc m_wTb m_wIN m_wHO m_wAR m_wSp m_wEM m_wNA m_pth m_pld) (D_m hB (D_lay w mp (khp K1 c1) N1 17 (AGm_C hB hM) (sx xs (i + 1)) (sx xs (i + 2)) (sx xs (i + 3)) (sx_r _ _) (sx_r _ _) (sx_r _ _)))) (D_m2 hBj (D_lay w mj (khp K1 c1) N1 17 (AGm_C2 hBj hM) (sx xs (i + 1)) (sx xs (i + 2)) (sx xs (i + 3)) (sx_r _ _) (sx_r _ _) (sx_r _ _)))) (fun rr3 hr4 => ?_)
  obtain ⟨hr4, zj, hzj, hzrj⟩ := hr4
  obtain ⟨hr4, z, hz, hzr⟩ := hr4
  obtain ⟨M2, r2, TM, FM, g2, pq0, rfl⟩ := hr4
  refine ⟨_, M2, rfl, ?_⟩
  refine T_ns (st' := [.int (i32 r2)]) rfl ?_
  obtain ⟨zj1, hmmj, cMj⟩ := FR1_n (a := r2) ⟨by omega, by omega⟩ hzrj
  obtain ⟨z1, hmm, cM⟩ := FR1_n (a := r2) ⟨by omega, by omega⟩ hzr
  obtain ⟨hRX, hcmp⟩ := RX_lay (sx_r _ _) (sx_r _ _) hM hIM hA hB hR hG hy hz cK cM hk hmm fK TK1 FM TM
  have hth : M2.1 1 = r1 := by
    rcases hout with ⟨u1, u2, -⟩ | ⟨u1, u2⟩ | ⟨u1, u2⟩ | ⟨u1, u2⟩ <;> rcases hcmp with ⟨t1, t2, -⟩ | ⟨t1, t2⟩ | ⟨t1, t2⟩ | ⟨t1, t2⟩ <;> omega
  have hval : r1 = 0 → ∃ F, c1 326 = some (ocl F) ∧ F 0 = i64 r2 ∧ R64 r2 := fun e9 => by
    rcases hout with ⟨u1, u2, Fo, o1, o2, o3⟩ | ⟨u1, u2⟩ | ⟨u1, u2⟩ | ⟨u1, u2⟩
    · rcases hcmp with ⟨t1, t2, t3⟩ | ⟨t1, t2⟩ | ⟨t1, t2⟩ | ⟨t1, t2⟩
      · rw [t3, z1] at o2 o3
        exact ⟨Fo, o1, o2, o3⟩
      · exact absurd (u2.symm.trans t1) (by decide)
      · exact absurd (u2.symm.trans t1) (by decide)
      · exact absurd (u2.symm.trans t1) (by decide)
    · exact absurd (u1.symm.trans e9) (by decide)
    · exact absurd (u1.symm.trans e9) (by decide)
    · exact absurd (u1.symm.trans e9) (by decide)
  have him : IM (i + 6) M2 := ⟨(show (M2.1 148) ≤ (i + 6) ∧ (M2.1 152) ≤ 20 * (i + 6) by rw [fr1 FM 148 rfl, fr1 FM 152 rfl]; omega), (show (M2.1 127) = 0 ∨ (M2.1 127) = 1 by rw [fr1 FM 127 rfl]; omega), (show (M2.1 128) = 1 → (M2.1 127) = 1 by rw [fr1 FM 127 rfl]; omega), (show ∀ k, (M2.2 14) k + (M2.2 15) k ≤ 4000 by rw [fr2 FM 14 rfl, fr2 FM 15 rfl]; exact m_hNM0), (show ∀ k, (M2.2 31) k + (M2.2 32) k ≤ 4000 by rw [fr2 FM 31 rfl, fr2 FM 32 rfl]; exact m_hFA0), (show ∀ k, (M2.2 47) k + (M2.2 48) k ≤ 4000 by rw [fr2 FM 47 rfl, fr2 FM 48 rfl]; exact m_hPA0), (show HBi (M2.2 29) (M2.2 30) (M2.2 33) by rw [fr2 FM 29 rfl, fr2 FM 30 rfl, fr2 FM 33 rfl]; exact m_hHB0), (show (M2.1 127) = 1 → CN (M2.2 65) (M2.2 67) (M2.1 28) by rw [fr1 FM 127 rfl, fr2 FM 65 rfl, fr2 FM 67 rfl, fr1 FM 28 rfl]; exact m_wCN), (show (M2.1 127) = 1 → SOp (M2.2 38) (M2.1 23) (M2.1 24) by rw [fr1 FM 127 rfl, fr2 FM 38 rfl, fr1 FM 23 rfl, fr1 FM 24 rfl]; exact m_wSO), (show (M2.1 127) = 1 → StP (M2.2 65) (M2.1 28) (M2.1 23) (M2.1 24) (M2.2 42) (M2.2 95) (M2.2 96) (M2.2 44) (M2.2 45) by rw [fr1 FM 127 rfl, fr2 FM 65 rfl, fr1 FM 28 rfl, fr1 FM 23 rfl, fr1 FM 24 rfl, fr2 FM 42 rfl, fr2 FM 95 rfl, fr2 FM 96 rfl, fr2 FM 44 rfl, fr2 FM 45 rfl]; exact m_wSt), (show (M2.1 127) = 1 → TdP (M2.2 65) (M2.1 28) (M2.1 22) (M2.1 99) (M2.2 101) (M2.2 103) (M2.2 105) (M2.2 106) (M2.2 107) (M2.2 108) by rw [fr1 FM 127 rfl, fr2 FM 65 rfl, fr1 FM 28 rfl, fr1 FM 22 rfl, fr1 FM 99 rfl, fr2 FM 101 rfl, fr2 FM 103 rfl, fr2 FM 105 rfl, fr2 FM 106 rfl, fr2 FM 107 rfl, fr2 FM 108 rfl]; exact m_wTd), (show (M2.1 127) = 1 → AcP (M2.1 25) (M2.1 99) (M2.2 109) (M2.2 50) by rw [fr1 FM 127 rfl, fr1 FM 25 rfl, fr1 FM 99 rfl, fr2 FM 109 rfl, fr2 FM 50 rfl]; exact m_wAc), (show (M2.1 127) = 1 → TbP (M2.2 65) (M2.1 28) (M2.1 25) (M2.1 26) (M2.2 51) (M2.2 110) (M2.2 111) (M2.2 57) (M2.2 53) (M2.2 114) (M2.2 58) (M2.2 54) by rw [fr1 FM 127 rfl, fr2 FM 65 rfl, fr1 FM 28 rfl, fr1 FM 25 rfl, fr1 FM 26 rfl, fr2 FM 51 rfl, fr2 FM 110 rfl, fr2 FM 111 rfl, fr2 FM 57 rfl, fr2 FM 53 rfl, fr2 FM 114 rfl, fr2 FM 58 rfl, fr2 FM 54 rfl]; exact m_wTb), (show (M2.1 127) = 1 → ∀ k, 0 ≤ k → k < (M2.1 20) → (M2.2 34) k < (M2.1 19) by rw [fr1 FM 127 rfl, fr1 FM 20 rfl, fr2 FM 34 rfl, fr1 FM 19 rfl]; exact m_wIN), (show (M2.1 127) = 1 → ∀ g, 0 ≤ g → g < (M2.1 19) → (M2.2 30) g ≤ 512 by rw [fr1 FM 127 rfl, fr1 FM 19 rfl, fr2 FM 30 rfl]; exact m_wHO), (show (M2.1 127) = 1 → ∀ k, 0 ≤ k → k < (M2.1 22) → 1 ≤ (M2.2 93) k ∧ 1 ≤ (M2.2 36) k by rw [fr1 FM 127 rfl, fr1 FM 22 rfl, fr2 FM 93 rfl, fr2 FM 36 rfl]; exact m_wAR), (show (M2.1 127) = 1 → SpP (M2.2 65) (M2.1 28) (M2.1 99) (M2.1 26) (M2.1 27) (M2.2 60) (M2.2 61) (M2.2 120) (M2.2 121) (M2.2 122) (M2.2 63) by rw [fr1 FM 127 rfl, fr2 FM 65 rfl, fr1 FM 28 rfl, fr1 FM 99 rfl, fr1 FM 26 rfl, fr1 FM 27 rfl, fr2 FM 60 rfl, fr2 FM 61 rfl, fr2 FM 120 rfl, fr2 FM 121 rfl, fr2 FM 122 rfl, fr2 FM 63 rfl]; exact m_wSp), (show (M2.1 127) = 1 → ∀ j, 0 ≤ j → j < (M2.1 125) → (M2.2 124) j < (M2.1 20) by rw [fr1 FM 127 rfl, fr1 FM 125 rfl, fr2 FM 124 rfl, fr1 FM 20 rfl]; exact m_wEM), (show (M2.1 127) = 1 → ∀ q, 0 ≤ q → q < (M2.1 24) → 0 < (M2.2 41) q ∨ NR (M2.2 44) (M2.2 38) (M2.2 42) (M2.2 45) (M2.2 41) (M2.1 24) q by rw [fr1 FM 127 rfl, fr1 FM 24 rfl, fr2 FM 41 rfl, fr2 FM 44 rfl, fr2 FM 38 rfl, fr2 FM 42 rfl, fr2 FM 45 rfl]; exact m_wNA), (show EMp (M2.1 26) (M2.2 139) (M2.2 58) (M2.2 54) by rw [fr1 FM 26 rfl, fr2 FM 139 rfl, fr2 FM 58 rfl, fr2 FM 54 rfl]; exact m_hEMp), (show EAp (M2.1 25) (M2.2 139) (M2.2 141) by rw [fr1 FM 25 rfl, fr2 FM 139 rfl, fr2 FM 141 rfl]; exact m_hEAp), (show ∀ k, 0 ≤ k → k < (M2.1 149) → 0 < (M2.2 153) k → (M2.2 156) k < (M2.1 26) by rw [fr1 FM 149 rfl, fr2 FM 153 rfl, fr2 FM 156 rfl, fr1 FM 26 rfl]; exact m_hLT), (show (M2.1 150) + (M2.1 149) = (M2.1 148) by rw [fr1 FM 150 rfl, fr1 FM 149 rfl, fr1 FM 148 rfl]; omega), (show (M2.1 151) ≤ (M2.1 150) by rw [fr1 FM 151 rfl, fr1 FM 150 rfl]; omega)⟩
  refine Tm_step (S' := (347, [(6, .int (i32 r2)), (5, .int (i32 r1)), (4, .int (i32 i)), (3, .ref 326), (2, .ref 189), (1, .ref 0), (0, .ref 1000000)], [], (khp K1 (mhp M2 c1), N1), _, _)) rfl (fun _ => rfl) ?_
  refine T_goto 955 rfl (fun _ => rfl) ?_
  have hPQ2 : PQs K1 M2 := (PQs_lay hM hIM hRel hTM hPQ hA hB hy hz cK cM hk hmm TK1 TM fK FM rfl rfl rfl rfl)
  refine Tm_lv (a := LV i) (b := [(6, .int (i32 r2)), (5, .int (i32 r1)), (4, .int (i32 i)), (3, .ref 326), (2, .ref 189), (1, .ref 0), (0, .ref 1000000)]) rfl rfl ⟨rfl, rfl, rfl, rfl, rfl, trivial⟩ (H K1 M2 (mhp M2 c1) N1 _ _ ⟨⟨TK1, TM, IK1, him, mhp_id, (show ∃ F, mhp M2 c1 326 = some (ocl F) from by rw [mhp_lo (by omega)]; exact oc1.2), F1, by omega, by omega, by omega, by omega⟩, hRX, (TM_lay (Kp := Kp) hTM hB hz cM hmm fK FM TM rfl rfl rfl rfl (RX_12 hRX)), hPQ2, (PJs_lay hM hIM hRel hAj hBj hJ hyj hzj cKj cMj hkj hmmj fK TK1 FM TM hRX hPQ2 (lay_y0 hRel hRX hAj hyj cKj hkj TK1))⟩)
