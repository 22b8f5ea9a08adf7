set_option maxHeartbeats 4000000 in
theorem lw_6 {w : wX} {L : Nat} {xs : Nat → Int32} {Q : ag_Re af_T → Prop} {K m : mR} {c : Nat → Option am_C} {N nc ns : Nat} {i : Int} (hX : w.1 = (some L, fun j => some (xs j))) (h0 : 0 ≤ i) (h1 : i + 6 ≤ L) (hL : L ≤ 3072) (hI : LI5 i K m c N nc ns) (H : ∀ K m c N nc ns, LI5 (i + 6) K m c N nc ns → TT w 17 pm_0 (955, LV i, [], (khp K c, N), nc, ns) Q) : TT w 17 pm_0 (350, LV i, [], (khp K c, N), nc, ns) Q := by
  obtain ⟨⟨hK, hM, hIK, hIM, hm, hc, hF, hN, hN2, hn1, hn2⟩, hRel, hTM, hPQ, hPJ⟩ := hI
  obtain ⟨m_ct, m_pth, m_pld, m_hNM0, m_hFA0, m_hPA0, m_hHB0, m_wCN, m_wSO, m_wSt, m_wTd, m_wAc, m_wTb, m_wIN, m_wHO, m_wAR, m_wSp, m_wEM, m_wNA, m_hEMp, m_hEAp, m_hLT, m_pin, m_pou⟩ := id hIM
  refine T_ld 351 (.ref 0) rfl (fun _ => rfl) ?_
  refine T_callx 354 30 [.ref 0] [] rfl (fun _ => rfl) rfl rfl (c_pw_homeless w K c N 17 (by omega) hK ) (fun rr1 hr2 => ?_)
  obtain ⟨r1, g1, rfl⟩ := hr2
  refine Or.inl ⟨_, _, _, _, rfl, ?_⟩
  refine T_ns (st' := [.int (i32 r1)]) rfl ?_
  refine T_pop 355 rfl (fun _ => rfl) ?_
  refine T_ld 356 (.ref 189) rfl (fun _ => rfl) ?_
  refine L_ref (m := m) 359 303 [] [] rfl rfl rfl rfl rfl rfl rfl hK hm (c_homeless w m (khp K c) N 17 (by omega) hM  ) (fun rr3 hr4 => ?_)
  obtain ⟨M2, r2, TM, FM, g2, rfl⟩ := hr4
  refine ⟨_, M2, rfl, ?_⟩
  refine T_ns (st' := [.int (i32 r2)]) rfl ?_
  refine T_pop 360 rfl (fun _ => rfl) ?_
  refine T_goto 955 rfl (fun _ => rfl) ?_
  refine Tm_lv (a := LV i) (b := [(4, .int (i32 i)), (3, .ref 326), (2, .ref 189), (1, .ref 0), (0, .ref 1000000)]) rfl rfl ⟨rfl, rfl, rfl, rfl, rfl, trivial⟩ (H K M2 (mhp M2 c) N _ _ ⟨⟨hK, TM, (IK_i hIK (show i ≤ i + 6 by omega)), (IM_f hIM (show i ≤ i + 6 by omega) FM rfl), mhp_id, (show ∃ F, mhp M2 c 326 = some (ocl F) from by rw [mhp_lo (by omega)]; exact hc), hF, by omega, by omega, by omega, by omega⟩, (RX_f hRel (fr_0 (u := []) (v := [])) hK FM TM rfl rfl rfl rfl), (TM_fr hTM (fr_0 (u := []) (v := [])) FM rfl rfl rfl rfl), (PQs_fr hRel hM hIM hPQ (fr_0 (u := []) (v := [])) FM rfl rfl rfl rfl), (PJs_fr hPJ (hM.1 151).1 m_pld (fr_0 (u := []) (v := [])) hK FM TM (by decide +kernel) (by decide +kernel) (by decide +kernel) (by decide +kernel) (by decide +kernel) (by decide +kernel) (by decide +kernel) (by decide +kernel))⟩)
set_option maxHeartbeats 4000000 in
theorem lw_7 {w : wX} {L : Nat} {xs : Nat → Int32} {Q : ag_Re af_T → Prop} {K m : mR} {c : Nat → Option am_C} {N nc ns : Nat} {i : Int} (hX : w.1 = (some L, fun j => some (xs j))) (h0 : 0 ≤ i) (h1 : i + 6 ≤ L) (hL : L ≤ 3072) (hI : LI5 i K m c N nc ns) (H : ∀ K m c N nc ns, LI5 (i + 6) K m c N nc ns → TT w 17 pm_0 (955, LV i, [], (khp K c, N), nc, ns) Q) : TT w 17 pm_0 (363, LV i, [], (khp K c, N), nc, ns) Q := by
  obtain ⟨⟨hK, hM, hIK, hIM, hm, hc, hF, hN, hN2, hn1, hn2⟩, hRel, hTM, hPQ, hPJ⟩ := hI
  obtain ⟨m_ct, m_pth, m_pld, m_hNM0, m_hFA0, m_hPA0, m_hHB0, m_wCN, m_wSO, m_wSt, m_wTd, m_wAc, m_wTb, m_wIN, m_wHO, m_wAR, m_wSp, m_wEM, m_wNA, m_hEMp, m_hEAp, m_hLT, m_pin, m_pou⟩ := id hIM
  refine T_ld 364 (.ref 0) rfl (fun _ => rfl) ?_
  refine T_ld 365 (.ref 1000000) rfl (fun _ => rfl) ?_
  refine T_ld 367 (.int (i32 i)) rfl (fun _ => rfl) ?_
  refine T_ld 368 (.int (i32 1)) rfl (fun _ => rfl) ?_
  refine T_iadd 369 rfl rfl ?_
  refine L_sl 370 rfl hX (by omega) (by omega) hL rfl ?_
  refine T_ld 371 (.ref 1000000) rfl (fun _ => rfl) ?_
  refine T_ld 373 (.int (i32 i)) rfl (fun _ => rfl) ?_
  refine T_ld 374 (.int (i32 2)) rfl (fun _ => rfl) ?_
  refine T_iadd 375 rfl rfl ?_
  refine L_sl 376 rfl hX (by omega) (by omega) hL rfl ?_
  refine T_callx 379 31 [.ref 0, .int (i32 (sx xs (i + 1))), .int (i32 (sx xs (i + 2)))] [] rfl (fun _ => rfl) rfl rfl (c_pw_step w K c N 17 (by omega) hK (sx xs (i + 1)) (sx xs (i + 2)) (sx_r _ _) (sx_r _ _)) (fun rr1 hr2 => ?_)
  obtain ⟨r1, g1, rfl⟩ := hr2
  refine Or.inl ⟨_, _, _, _, rfl, ?_⟩
  refine T_ns (st' := [.int (i32 r1)]) rfl ?_
  refine T_pop 380 rfl (fun _ => rfl) ?_
  refine T_ld 381 (.ref 189) rfl (fun _ => rfl) ?_
  refine T_ld 382 (.ref 1000000) rfl (fun _ => rfl) ?_
  refine T_ld 384 (.int (i32 i)) rfl (fun _ => rfl) ?_
  refine T_ld 385 (.int (i32 1)) rfl (fun _ => rfl) ?_
  refine T_iadd 386 rfl rfl ?_
  refine L_sl 387 rfl hX (by omega) (by omega) hL rfl ?_
  refine T_ld 388 (.ref 1000000) rfl (fun _ => rfl) ?_
  refine T_ld 390 (.int (i32 i)) rfl (fun _ => rfl) ?_
  refine T_ld 391 (.int (i32 2)) rfl (fun _ => rfl) ?_
  refine T_iadd 392 rfl rfl ?_
  refine L_sl 393 rfl hX (by omega) (by omega) hL rfl ?_
  refine L_ref (m := m) 396 304 [.int (i32 (sx xs (i + 2))), .int (i32 (sx xs (i + 1)))] [] rfl rfl rfl rfl rfl rfl rfl hK hm (c_step w m (khp K c) N 17 (by omega) hM (sx xs (i + 1)) (sx xs (i + 2)) (sx_r _ _) (sx_r _ _) ) (fun rr3 hr4 => ?_)
  obtain ⟨M2, r2, TM, FM, g2, rfl⟩ := hr4
  refine ⟨_, M2, rfl, ?_⟩
  refine T_ns (st' := [.int (i32 r2)]) rfl ?_
  refine T_pop 397 rfl (fun _ => rfl) ?_
  refine T_goto 955 rfl (fun _ => rfl) ?_
  refine Tm_lv (a := LV i) (b := [(4, .int (i32 i)), (3, .ref 326), (2, .ref 189), (1, .ref 0), (0, .ref 1000000)]) rfl rfl ⟨rfl, rfl, rfl, rfl, rfl, trivial⟩ (H K M2 (mhp M2 c) N _ _ ⟨⟨hK, TM, (IK_i hIK (show i ≤ i + 6 by omega)), (IM_f hIM (show i ≤ i + 6 by omega) FM rfl), mhp_id, (show ∃ F, mhp M2 c 326 = some (ocl F) from by rw [mhp_lo (by omega)]; exact hc), hF, by omega, by omega, by omega, by omega⟩, (RX_f hRel (fr_0 (u := []) (v := [])) hK FM TM rfl rfl rfl rfl), (TM_fr hTM (fr_0 (u := []) (v := [])) FM rfl rfl rfl rfl), (PQs_fr hRel hM hIM hPQ (fr_0 (u := []) (v := [])) FM rfl rfl rfl rfl), (PJs_fr hPJ (hM.1 151).1 m_pld (fr_0 (u := []) (v := [])) hK FM TM (by decide +kernel) (by decide +kernel) (by decide +kernel) (by decide +kernel) (by decide +kernel) (by decide +kernel) (by decide +kernel) (by decide +kernel))⟩)
set_option maxHeartbeats 4000000 in
theorem lw_8 {w : wX} {L : Nat} {xs : Nat → Int32} {Q : ag_Re af_T → Prop} {K m : mR} {c : Nat → Option am_C} {N nc ns : Nat} {i : Int} (hX : w.1 = (some L, fun j => some (xs j))) (h0 : 0 ≤ i) (h1 : i + 6 ≤ L) (hL : L ≤ 3072) (hI : LI5 i K m c N nc ns) (H : ∀ K m c N nc ns, LI5 (i + 6) K m c N nc ns → TT w 17 pm_0 (955, LV i, [], (khp K c, N), nc, ns) Q) : TT w 17 pm_0 (400, LV i, [], (khp K c, N), nc, ns) Q := by
  obtain ⟨⟨hK, hM, hIK, hIM, hm, hc, hF, hN, hN2, hn1, hn2⟩, hRel, hTM, hPQ, hPJ⟩ := hI
  obtain ⟨m_ct, m_pth, m_pld, m_hNM0, m_hFA0, m_hPA0, m_hHB0, m_wCN, m_wSO, m_wSt, m_wTd, m_wAc, m_wTb, m_wIN, m_wHO, m_wAR, m_wSp, m_wEM, m_wNA, m_hEMp, m_hEAp, m_hLT, m_pin, m_pou⟩ := id hIM
  refine T_ld 401 (.ref 0) rfl (fun _ => rfl) ?_
  refine T_ld 402 (.ref 1000000) rfl (fun _ => rfl) ?_
  refine T_ld 404 (.int (i32 i)) rfl (fun _ => rfl) ?_
  refine T_ld 405 (.int (i32 1)) rfl (fun _ => rfl) ?_
  refine T_iadd 406 rfl rfl ?_
  refine L_sl 407 rfl hX (by omega) (by omega) hL rfl ?_
  refine T_ld 408 (.ref 1000000) rfl (fun _ => rfl) ?_
  refine T_ld 410 (.int (i32 i)) rfl (fun _ => rfl) ?_
  refine T_ld 411 (.int (i32 2)) rfl (fun _ => rfl) ?_
  refine T_iadd 412 rfl rfl ?_
  refine L_sl 413 rfl hX (by omega) (by omega) hL rfl ?_
  refine T_callx 416 32 [.ref 0, .int (i32 (sx xs (i + 1))), .int (i32 (sx xs (i + 2)))] [] rfl (fun _ => rfl) rfl rfl (c_pw_stage w K c N 17 (by omega) hK (sx xs (i + 1)) (sx xs (i + 2)) (sx_r _ _) (sx_r _ _)) (fun rr1 hr2 => ?_)
  obtain ⟨r1, g1, rfl⟩ := hr2
  refine Or.inl ⟨_, _, _, _, rfl, ?_⟩
  refine T_ns (st' := [.int (i32 r1)]) rfl ?_
  refine T_pop 417 rfl (fun _ => rfl) ?_
  refine T_ld 418 (.ref 189) rfl (fun _ => rfl) ?_
  refine T_ld 419 (.ref 1000000) rfl (fun _ => rfl) ?_
  refine T_ld 421 (.int (i32 i)) rfl (fun _ => rfl) ?_
  refine T_ld 422 (.int (i32 1)) rfl (fun _ => rfl) ?_
  refine T_iadd 423 rfl rfl ?_
  refine L_sl 424 rfl hX (by omega) (by omega) hL rfl ?_
  refine T_ld 425 (.ref 1000000) rfl (fun _ => rfl) ?_
  refine T_ld 427 (.int (i32 i)) rfl (fun _ => rfl) ?_
  refine T_ld 428 (.int (i32 2)) rfl (fun _ => rfl) ?_
  refine T_iadd 429 rfl rfl ?_
  refine L_sl 430 rfl hX (by omega) (by omega) hL rfl ?_
  refine L_ref (m := m) 433 306 [.int (i32 (sx xs (i + 2))), .int (i32 (sx xs (i + 1)))] [] rfl rfl rfl rfl rfl rfl rfl hK hm (c_stage w m (khp K c) N 17 (by omega) hM (sx xs (i + 1)) (sx xs (i + 2)) (sx_r _ _) (sx_r _ _) ) (fun rr3 hr4 => ?_)
  obtain ⟨M2, r2, TM, FM, g2, rfl⟩ := hr4
  refine ⟨_, M2, rfl, ?_⟩
  refine T_ns (st' := [.int (i32 r2)]) rfl ?_
  refine T_pop 434 rfl (fun _ => rfl) ?_
  refine T_goto 955 rfl (fun _ => rfl) ?_
  refine Tm_lv (a := LV i) (b := [(4, .int (i32 i)), (3, .ref 326), (2, .ref 189), (1, .ref 0), (0, .ref 1000000)]) rfl rfl ⟨rfl, rfl, rfl, rfl, rfl, trivial⟩ (H K M2 (mhp M2 c) N _ _ ⟨⟨hK, TM, (IK_i hIK (show i ≤ i + 6 by omega)), (IM_f hIM (show i ≤ i + 6 by omega) FM rfl), mhp_id, (show ∃ F, mhp M2 c 326 = some (ocl F) from by rw [mhp_lo (by omega)]; exact hc), hF, by omega, by omega, by omega, by omega⟩, (RX_f hRel (fr_0 (u := []) (v := [])) hK FM TM rfl rfl rfl rfl), (TM_fr hTM (fr_0 (u := []) (v := [])) FM rfl rfl rfl rfl), (PQs_fr hRel hM hIM hPQ (fr_0 (u := []) (v := [])) FM rfl rfl rfl rfl), (PJs_fr hPJ (hM.1 151).1 m_pld (fr_0 (u := []) (v := [])) hK FM TM (by decide +kernel) (by decide +kernel) (by decide +kernel) (by decide +kernel) (by decide +kernel) (by decide +kernel) (by decide +kernel) (by decide +kernel))⟩)
