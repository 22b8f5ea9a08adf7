set_option maxHeartbeats 4000000 in
theorem lw_11 {w : wX} {L : Nat} {xs : Nat → Int32} {Q : ag_Re af_T → Prop} {K m : mR} {c : Nat → Option am_C} {N nc ns : Nat} {i : Int} (hX : w.1 = (some L, fun j => some (xs j))) (h0 : 0 ≤ i) (h1 : i + 6 ≤ L) (hL : L ≤ 3072) (hI : LI5 i K m c N nc ns) (H : ∀ K m c N nc ns, LI5 (i + 6) K m c N nc ns → TT w 17 pm_0 (955, LV i, [], (khp K c, N), nc, ns) Q) : TT w 17 pm_0 (578, LV i, [], (khp K c, N), nc, ns) Q := by
  obtain ⟨⟨hK, hM, hIK, hIM, hm, hc, hF, hN, hN2, hn1, hn2⟩, hRel, hTM, hPQ, hPJ⟩ := hI
  obtain ⟨m_ct, m_pth, m_pld, m_hNM0, m_hFA0, m_hPA0, m_hHB0, m_wCN, m_wSO, m_wSt, m_wTd, m_wAc, m_wTb, m_wIN, m_wHO, m_wAR, m_wSp, m_wEM, m_wNA, m_hEMp, m_hEAp, m_hLT, m_pin, m_pou⟩ := id hIM
  refine T_ld 579 (.ref 0) rfl (fun _ => rfl) ?_
  refine T_ld 580 (.ref 1000000) rfl (fun _ => rfl) ?_
  refine T_ld 582 (.int (i32 i)) rfl (fun _ => rfl) ?_
  refine T_ld 583 (.int (i32 1)) rfl (fun _ => rfl) ?_
  refine T_iadd 584 rfl rfl ?_
  refine L_sl 585 rfl hX (by omega) (by omega) hL rfl ?_
  refine T_ld 586 (.ref 1000000) rfl (fun _ => rfl) ?_
  refine T_ld 588 (.int (i32 i)) rfl (fun _ => rfl) ?_
  refine T_ld 589 (.int (i32 2)) rfl (fun _ => rfl) ?_
  refine T_iadd 590 rfl rfl ?_
  refine L_sl 591 rfl hX (by omega) (by omega) hL rfl ?_
  refine T_i2l 592 rfl rfl (sx_r _ _) ?_
  refine T_ld 594 (.int (i32 32)) rfl (fun _ => rfl) ?_
  refine T_lhe 595 _ rfl (fun _ => rfl) (fun z1 qz1 ez1 => ?_)
  refine T_ld 596 (.ref 1000000) rfl (fun _ => rfl) ?_
  refine T_ld 598 (.int (i32 i)) rfl (fun _ => rfl) ?_
  refine T_ld 599 (.int (i32 3)) rfl (fun _ => rfl) ?_
  refine T_iadd 600 rfl rfl ?_
  refine L_sl 601 rfl hX (by omega) (by omega) hL rfl ?_
  refine T_i2l 602 rfl rfl (sx_r _ _) ?_
  refine T_ld 605 (.long (i64 4294967295)) rfl (fun _ => rfl) ?_
  refine T_lhe 606 _ rfl (fun _ => rfl) (fun z2 qz2 ez2 => ?_)
  refine T_lhe 607 _ rfl (fun _ => rfl) (fun z3 qz3 ez3 => ?_)
  refine T_callx 610 168 [.ref 0, .int (i32 (sx xs (i + 1))), .long (i64 z3)] [] rfl (fun _ => rfl) rfl rfl (h_datum w K c N 17 (by omega) hK i (i + 6) h0 (by omega) hIK rfl hc hF ⟨by omega, by omega⟩ (sx xs (i + 1)) (sx_r _ _) z3 qz3) (fun rr4 hr5 => ?_)
  obtain ⟨K1, c1, N1, k1, n1, r1, TK1, IK1, oc1, F1, b1, ⟨g1, P1⟩, rfl⟩ := hr5
  refine Or.inl ⟨_, _, _, _, rfl, ?_⟩
  obtain ⟨g1a, g1b⟩ := g1
  refine T_ns (st' := [.int (i32 r1)]) rfl ?_
  obtain ⟨fK, hky⟩ := P1
  refine Tm_step (S' := (612, [(5, .int (i32 r1)), (4, .int (i32 i)), (3, .ref 326), (2, .ref 189), (1, .ref 0), (0, .ref 1000000)], [], (khp K1 c1, N1), _, _)) rfl (fun _ => rfl) ?_
  refine T_ld 613 (.ref 189) rfl (fun _ => rfl) ?_
  refine T_ld 614 (.ref 1000000) rfl (fun _ => rfl) ?_
  refine T_ld 616 (.int (i32 i)) rfl (fun _ => rfl) ?_
  refine T_ld 617 (.int (i32 1)) rfl (fun _ => rfl) ?_
  refine T_iadd 618 rfl rfl ?_
  refine L_sl 619 rfl hX (by omega) (by omega) hL rfl ?_
  refine T_ld 620 (.ref 1000000) rfl (fun _ => rfl) ?_
  refine T_ld 622 (.int (i32 i)) rfl (fun _ => rfl) ?_
  refine T_ld 623 (.int (i32 2)) rfl (fun _ => rfl) ?_
  refine T_iadd 624 rfl rfl ?_
  refine L_sl 625 rfl hX (by omega) (by omega) hL rfl ?_
  refine T_i2l 626 rfl rfl (sx_r _ _) ?_
  refine T_ld 628 (.int (i32 32)) rfl (fun _ => rfl) ?_
  refine T_lhs 629 _ ez1 rfl (fun _ => rfl) ?_
  refine T_ld 630 (.ref 1000000) rfl (fun _ => rfl) ?_
  refine T_ld 632 (.int (i32 i)) rfl (fun _ => rfl) ?_
  refine T_ld 633 (.int (i32 3)) rfl (fun _ => rfl) ?_
  refine T_iadd 634 rfl rfl ?_
  refine L_sl 635 rfl hX (by omega) (by omega) hL rfl ?_
  refine T_i2l 636 rfl rfl (sx_r _ _) ?_
  refine T_ld 639 (.long (i64 4294967295)) rfl (fun _ => rfl) ?_
  refine T_lhs 640 _ ez2 rfl (fun _ => rfl) ?_
  refine T_lhs 641 _ ez3 rfl (fun _ => rfl) ?_
  refine L_ref (m := m) 644 310 [.long (i64 z3), .int (i32 (sx xs (i + 1)))] [] rfl rfl rfl rfl rfl rfl rfl TK1 (OC_m oc1 hm) (Tc_a (c_datum2 w m (khp K1 c1) N1 17 (by omega) hM (sx xs (i + 1)) z3 (sx_r _ _) qz3 ) (D_datum w m (khp K1 c1) N1 17 (Ty_C hM) (sx xs (i + 1)) z3 (sx_r _ _) qz3)) (fun rr6 hr7 => ?_)
  obtain ⟨hr7, z, hz, hzr⟩ := hr7
  obtain ⟨M2, TM, FM, kq, rfl⟩ := hr7
  refine ⟨_, M2, rfl, ?_⟩
  refine T_ns (st' := []) rfl ?_
  obtain ⟨hmm, cM⟩ := FR0_n hzr
  refine T_goto 955 rfl (fun _ => rfl) ?_
  refine Tm_lv (a := LV i) (b := [(5, .int (i32 r1)), (4, .int (i32 i)), (3, .ref 326), (2, .ref 189), (1, .ref 0), (0, .ref 1000000)]) rfl rfl ⟨rfl, rfl, rfl, rfl, rfl, trivial⟩ (H K1 M2 (mhp M2 c1) N1 _ _ ⟨⟨TK1, TM, IK1, (IM_f hIM (show i ≤ i + 6 by omega) FM rfl), mhp_id, (show ∃ F, mhp M2 c1 326 = some (ocl F) from by rw [mhp_lo (by omega)]; exact oc1.2), F1, by omega, by omega, by omega, by omega⟩, (RX_f hRel fK TK1 FM TM rfl rfl rfl rfl), (TM_fr hTM fK FM rfl rfl rfl rfl), (PQs_datum hRel hM hIM hPQ fK rfl rfl hky hz cM hmm TM), (PJs_fr hPJ (hM.1 151).1 m_pld fK TK1 FM TM (by decide +kernel) (by decide +kernel) (by decide +kernel) (by decide +kernel) (by decide +kernel) (by decide +kernel) (by decide +kernel) (by decide +kernel))⟩)
set_option maxHeartbeats 4000000 in
theorem lw_12 {w : wX} {L : Nat} {xs : Nat → Int32} {Q : ag_Re af_T → Prop} {K m : mR} {c : Nat → Option am_C} {N nc ns : Nat} {i : Int} (hX : w.1 = (some L, fun j => some (xs j))) (h0 : 0 ≤ i) (h1 : i + 6 ≤ L) (hL : L ≤ 3072) (hI : LI5 i K m c N nc ns) (H : ∀ K m c N nc ns, LI5 (i + 6) K m c N nc ns → TT w 17 pm_0 (955, LV i, [], (khp K c, N), nc, ns) Q) : TT w 17 pm_0 (647, LV i, [], (khp K c, N), nc, ns) Q := by
  obtain ⟨⟨hK, hM, hIK, hIM, hm, hc, hF, hN, hN2, hn1, hn2⟩, hRel, hTM, hPQ, hPJ⟩ := hI
  obtain ⟨m_ct, m_pth, m_pld, m_hNM0, m_hFA0, m_hPA0, m_hHB0, m_wCN, m_wSO, m_wSt, m_wTd, m_wAc, m_wTb, m_wIN, m_wHO, m_wAR, m_wSp, m_wEM, m_wNA, m_hEMp, m_hEAp, m_hLT, m_pin, m_pou⟩ := id hIM
  refine T_ld 648 (.ref 0) rfl (fun _ => rfl) ?_
  refine T_ld 649 (.ref 1000000) rfl (fun _ => rfl) ?_
  refine T_ld 651 (.int (i32 i)) rfl (fun _ => rfl) ?_
  refine T_ld 652 (.int (i32 1)) rfl (fun _ => rfl) ?_
  refine T_iadd 653 rfl rfl ?_
  refine L_sl 654 rfl hX (by omega) (by omega) hL rfl ?_
  refine T_ld 655 (.ref 1000000) rfl (fun _ => rfl) ?_
  refine T_ld 657 (.int (i32 i)) rfl (fun _ => rfl) ?_
  refine T_ld 658 (.int (i32 2)) rfl (fun _ => rfl) ?_
  refine T_iadd 659 rfl rfl ?_
  refine L_sl 660 rfl hX (by omega) (by omega) hL rfl ?_
  refine T_ld 661 (.ref 1000000) rfl (fun _ => rfl) ?_
  refine T_ld 663 (.int (i32 i)) rfl (fun _ => rfl) ?_
  refine T_ld 664 (.int (i32 3)) rfl (fun _ => rfl) ?_
  refine T_iadd 665 rfl rfl ?_
  refine L_sl 666 rfl hX (by omega) (by omega) hL rfl ?_
  refine T_ld 667 (.ref 1000000) rfl (fun _ => rfl) ?_
  refine T_ld 669 (.int (i32 i)) rfl (fun _ => rfl) ?_
  refine T_ld 670 (.int (i32 4)) rfl (fun _ => rfl) ?_
  refine T_iadd 671 rfl rfl ?_
  refine L_sl 672 rfl hX (by omega) (by omega) hL rfl ?_
  refine T_ld 673 (.ref 326) rfl (fun _ => rfl) ?_
  refine T_callx 676 170 [.ref 0, .int (i32 (sx xs (i + 1))), .int (i32 (sx xs (i + 2))), .int (i32 (sx xs (i + 3))), .int (i32 (sx xs (i + 4))), .ref 326] [] rfl (fun _ => rfl) rfl rfl (h_entry w K c N 17 (by omega) hK i (i + 6) h0 (by omega) hIK rfl hc hF ⟨by omega, by omega⟩ (sx xs (i + 1)) (sx_r _ _) (sx xs (i + 2)) (sx_r _ _) (sx xs (i + 3)) (sx_r _ _) (sx xs (i + 4)) (sx_r _ _)) (fun rr1 hr2 => ?_)
  obtain ⟨K1, c1, N1, k1, n1, r1, TK1, IK1, oc1, F1, b1, ⟨g1, P1⟩, rfl⟩ := hr2
  refine Or.inl ⟨_, _, _, _, rfl, ?_⟩
  obtain ⟨g1a, g1b⟩ := g1
  refine T_ns (st' := [.int (i32 r1)]) rfl ?_
  obtain ⟨fK, hck, hrw, hrq, hov, hpk⟩ := P1
  refine Tm_step (S' := (678, [(5, .int (i32 r1)), (4, .int (i32 i)), (3, .ref 326), (2, .ref 189), (1, .ref 0), (0, .ref 1000000)], [], (khp K1 c1, N1), _, _)) rfl (fun _ => rfl) ?_
  refine T_ld 679 (.ref 189) rfl (fun _ => rfl) ?_
  refine T_ld 680 (.ref 1000000) rfl (fun _ => rfl) ?_
  refine T_ld 682 (.int (i32 i)) rfl (fun _ => rfl) ?_
  refine T_ld 683 (.int (i32 1)) rfl (fun _ => rfl) ?_
  refine T_iadd 684 rfl rfl ?_
  refine L_sl 685 rfl hX (by omega) (by omega) hL rfl ?_
  refine T_ld 686 (.ref 1000000) rfl (fun _ => rfl) ?_
  refine T_ld 688 (.int (i32 i)) rfl (fun _ => rfl) ?_
  refine T_ld 689 (.int (i32 2)) rfl (fun _ => rfl) ?_
  refine T_iadd 690 rfl rfl ?_
  refine L_sl 691 rfl hX (by omega) (by omega) hL rfl ?_
  refine T_ld 692 (.ref 1000000) rfl (fun _ => rfl) ?_
  refine T_ld 694 (.int (i32 i)) rfl (fun _ => rfl) ?_
  refine T_ld 695 (.int (i32 3)) rfl (fun _ => rfl) ?_
  refine T_iadd 696 rfl rfl ?_
  refine L_sl 697 rfl hX (by omega) (by omega) hL rfl ?_
  refine T_ld 698 (.ref 1000000) rfl (fun _ => rfl) ?_
  refine T_ld 700 (.int (i32 i)) rfl (fun _ => rfl) ?_
  refine T_ld 701 (.int (i32 4)) rfl (fun _ => rfl) ?_
  refine T_iadd 702 rfl rfl ?_
  refine L_sl 703 rfl hX (by omega) (by omega) hL rfl ?_
  refine L_ref (m := m) 706 311 [.int (i32 (sx xs (i + 4))), .int (i32 (sx xs (i + 3))), .int (i32 (sx xs (i + 2))), .int (i32 (sx xs (i + 1)))] [] rfl rfl rfl rfl rfl rfl rfl TK1 (OC_m oc1 hm) (Tc_a (c_entry w m (khp K1 c1) N1 17 (by omega) hM (sx xs (i + 1)) (sx xs (i + 2)) (sx xs (i + 3)) (sx xs (i + 4)) (sx_r _ _) (sx_r _ _) (sx_r _ _) (sx_r _ _) (by omega) m_hLT) (D_entry w m (khp K1 c1) N1 17 (Ty_C hM) (sx xs (i + 1)) (sx xs (i + 2)) (sx xs (i + 3)) (sx xs (i + 4)) (sx_r _ _) (sx_r _ _) (sx_r _ _) (sx_r _ _))) (fun rr3 hr4 => ?_)
  obtain ⟨hr4, z, hz, hzr⟩ := hr4
  obtain ⟨M2, r2, TM, FM, g2, pq0, pq1, pq2, pq3, rfl⟩ := hr4
  refine ⟨_, M2, rfl, ?_⟩
  refine T_ns (st' := [.int (i32 r2)]) rfl ?_
  obtain ⟨z1, hmm, cM⟩ := FR1_n (a := r2) ⟨by omega, by omega⟩ hzr
  obtain ⟨hRX, hth, hvv⟩ := RX_entry (r2 := r2) hRel hM m_pth m_pld m_pin fK TK1 FM TM hpk pq1
  have hval : r1 = 0 → ∃ F, c1 326 = some (ocl F) ∧ F 0 = i64 r2 ∧ R64 r2 := fun e9 => by
    rw [hvv e9]
    exact hov e9
  have him : IM (i + 6) M2 := ⟨(show (M2.1 148) ≤ (i + 6) ∧ (M2.1 152) ≤ 20 * (i + 6) by rw [fr1 FM 152 rfl]; omega), (show (M2.1 127) = 0 ∨ (M2.1 127) = 1 by rw [fr1 FM 127 rfl]; omega), (show (M2.1 128) = 1 → (M2.1 127) = 1 by rw [fr1 FM 128 rfl, fr1 FM 127 rfl]; omega), (show ∀ k, (M2.2 14) k + (M2.2 15) k ≤ 4000 by rw [fr2 FM 14 rfl, fr2 FM 15 rfl]; exact m_hNM0), (show ∀ k, (M2.2 31) k + (M2.2 32) k ≤ 4000 by rw [fr2 FM 31 rfl, fr2 FM 32 rfl]; exact m_hFA0), (show ∀ k, (M2.2 47) k + (M2.2 48) k ≤ 4000 by rw [fr2 FM 47 rfl, fr2 FM 48 rfl]; exact m_hPA0), (show HBi (M2.2 29) (M2.2 30) (M2.2 33) by rw [fr2 FM 29 rfl, fr2 FM 30 rfl, fr2 FM 33 rfl]; exact m_hHB0), (show (M2.1 127) = 1 → CN (M2.2 65) (M2.2 67) (M2.1 28) by rw [fr1 FM 127 rfl, fr2 FM 65 rfl, fr2 FM 67 rfl, fr1 FM 28 rfl]; exact m_wCN), (show (M2.1 127) = 1 → SOp (M2.2 38) (M2.1 23) (M2.1 24) by rw [fr1 FM 127 rfl, fr2 FM 38 rfl, fr1 FM 23 rfl, fr1 FM 24 rfl]; exact m_wSO), (show (M2.1 127) = 1 → StP (M2.2 65) (M2.1 28) (M2.1 23) (M2.1 24) (M2.2 42) (M2.2 95) (M2.2 96) (M2.2 44) (M2.2 45) by rw [fr1 FM 127 rfl, fr2 FM 65 rfl, fr1 FM 28 rfl, fr1 FM 23 rfl, fr1 FM 24 rfl, fr2 FM 42 rfl, fr2 FM 95 rfl, fr2 FM 96 rfl, fr2 FM 44 rfl, fr2 FM 45 rfl]; exact m_wSt), (show (M2.1 127) = 1 → TdP (M2.2 65) (M2.1 28) (M2.1 22) (M2.1 99) (M2.2 101) (M2.2 103) (M2.2 105) (M2.2 106) (M2.2 107) (M2.2 108) by rw [fr1 FM 127 rfl, fr2 FM 65 rfl, fr1 FM 28 rfl, fr1 FM 22 rfl, fr1 FM 99 rfl, fr2 FM 101 rfl, fr2 FM 103 rfl, fr2 FM 105 rfl, fr2 FM 106 rfl, fr2 FM 107 rfl, fr2 FM 108 rfl]; exact m_wTd), (show (M2.1 127) = 1 → AcP (M2.1 25) (M2.1 99) (M2.2 109) (M2.2 50) by rw [fr1 FM 127 rfl, fr1 FM 25 rfl, fr1 FM 99 rfl, fr2 FM 109 rfl, fr2 FM 50 rfl]; exact m_wAc), (show (M2.1 127) = 1 → TbP (M2.2 65) (M2.1 28) (M2.1 25) (M2.1 26) (M2.2 51) (M2.2 110) (M2.2 111) (M2.2 57) (M2.2 53) (M2.2 114) (M2.2 58) (M2.2 54) by rw [fr1 FM 127 rfl, fr2 FM 65 rfl, fr1 FM 28 rfl, fr1 FM 25 rfl, fr1 FM 26 rfl, fr2 FM 51 rfl, fr2 FM 110 rfl, fr2 FM 111 rfl, fr2 FM 57 rfl, fr2 FM 53 rfl, fr2 FM 114 rfl, fr2 FM 58 rfl, fr2 FM 54 rfl]; exact m_wTb), (show (M2.1 127) = 1 → ∀ k, 0 ≤ k → k < (M2.1 20) → (M2.2 34) k < (M2.1 19) by rw [fr1 FM 127 rfl, fr1 FM 20 rfl, fr2 FM 34 rfl, fr1 FM 19 rfl]; exact m_wIN), (show (M2.1 127) = 1 → ∀ g, 0 ≤ g → g < (M2.1 19) → (M2.2 30) g ≤ 512 by rw [fr1 FM 127 rfl, fr1 FM 19 rfl, fr2 FM 30 rfl]; exact m_wHO), (show (M2.1 127) = 1 → ∀ k, 0 ≤ k → k < (M2.1 22) → 1 ≤ (M2.2 93) k ∧ 1 ≤ (M2.2 36) k by rw [fr1 FM 127 rfl, fr1 FM 22 rfl, fr2 FM 93 rfl, fr2 FM 36 rfl]; exact m_wAR), (show (M2.1 127) = 1 → SpP (M2.2 65) (M2.1 28) (M2.1 99) (M2.1 26) (M2.1 27) (M2.2 60) (M2.2 61) (M2.2 120) (M2.2 121) (M2.2 122) (M2.2 63) by rw [fr1 FM 127 rfl, fr2 FM 65 rfl, fr1 FM 28 rfl, fr1 FM 99 rfl, fr1 FM 26 rfl, fr1 FM 27 rfl, fr2 FM 60 rfl, fr2 FM 61 rfl, fr2 FM 120 rfl, fr2 FM 121 rfl, fr2 FM 122 rfl, fr2 FM 63 rfl]; exact m_wSp), (show (M2.1 127) = 1 → ∀ j, 0 ≤ j → j < (M2.1 125) → (M2.2 124) j < (M2.1 20) by rw [fr1 FM 127 rfl, fr1 FM 125 rfl, fr2 FM 124 rfl, fr1 FM 20 rfl]; exact m_wEM), (show (M2.1 127) = 1 → ∀ q, 0 ≤ q → q < (M2.1 24) → 0 < (M2.2 41) q ∨ NR (M2.2 44) (M2.2 38) (M2.2 42) (M2.2 45) (M2.2 41) (M2.1 24) q by rw [fr1 FM 127 rfl, fr1 FM 24 rfl, fr2 FM 41 rfl, fr2 FM 44 rfl, fr2 FM 38 rfl, fr2 FM 42 rfl, fr2 FM 45 rfl]; exact m_wNA), (show EMp (M2.1 26) (M2.2 139) (M2.2 58) (M2.2 54) by rw [fr1 FM 26 rfl, fr2 FM 139 rfl, fr2 FM 58 rfl, fr2 FM 54 rfl]; exact m_hEMp), (show EAp (M2.1 25) (M2.2 139) (M2.2 141) by rw [fr1 FM 25 rfl, fr2 FM 139 rfl, fr2 FM 141 rfl]; exact m_hEAp), (show ∀ k, 0 ≤ k → k < (M2.1 149) → 0 < (M2.2 153) k → (M2.2 156) k < (M2.1 26) by rw [fr1 FM 26 rfl]; exact pq3), (show (M2.1 150) + (M2.1 149) = (M2.1 148) by rw [fr1 FM 150 rfl]; omega), (show (M2.1 151) ≤ (M2.1 150) by rw [fr1 FM 151 rfl, fr1 FM 150 rfl]; omega)⟩
  refine Tm_step (S' := (708, [(6, .int (i32 r2)), (5, .int (i32 r1)), (4, .int (i32 i)), (3, .ref 326), (2, .ref 189), (1, .ref 0), (0, .ref 1000000)], [], (khp K1 (mhp M2 c1), N1), _, _)) rfl (fun _ => rfl) ?_
  refine T_goto 955 rfl (fun _ => rfl) ?_
  have hPQ2 : PQs K1 M2 := (PQs_entry hRel hM hIM hTM hPQ fK rfl rfl hrw hz cM hmm TM)
  refine Tm_lv (a := LV i) (b := [(6, .int (i32 r2)), (5, .int (i32 r1)), (4, .int (i32 i)), (3, .ref 326), (2, .ref 189), (1, .ref 0), (0, .ref 1000000)]) rfl rfl ⟨rfl, rfl, rfl, rfl, rfl, trivial⟩ (H K1 M2 (mhp M2 c1) N1 _ _ ⟨⟨TK1, TM, IK1, him, mhp_id, (show ∃ F, mhp M2 c1 326 = some (ocl F) from by rw [mhp_lo (by omega)]; exact oc1.2), F1, by omega, by omega, by omega, by omega⟩, hRX, (TM_f hTM (fr1 fK 234 rfl) hck FM rfl rfl), hPQ2, (PJs_entry (A := fA_pw_entry) hRel hM hIM hTM hPJ hPQ2 hz cM hmm (fr_s fK fr_0 rfl rfl) TK1 FM TM (by decide +kernel) (by decide +kernel) (by decide +kernel) (rqe_h hrq))⟩)
