set_option maxHeartbeats 4000000 in
theorem lw_15 {w : wX} {L : Nat} {xs : Nat → Int32} {Q : ag_Re af_T → Prop} {K m : mR} {c : Nat → Option am_C} {N nc ns : Nat} {i : Int} (hX : w.1 = (some L, fun j => some (xs j))) (h0 : 0 ≤ i) (h1 : i + 6 ≤ L) (hL : L ≤ 3072) (hI : LI5 i K m c N nc ns) (H : ∀ K m c N nc ns, LI5 (i + 6) K m c N nc ns → TT w 17 pm_0 (955, LV i, [], (khp K c, N), nc, ns) Q) : TT w 17 pm_0 (776, LV i, [], (khp K c, N), nc, ns) Q := by
  obtain ⟨⟨hK, hM, hIK, hIM, hm, hc, hF, hN, hN2, hn1, hn2⟩, hRel, hTM, hPQ, hPJ⟩ := hI
  obtain ⟨m_ct, m_pth, m_pld, m_hNM0, m_hFA0, m_hPA0, m_hHB0, m_wCN, m_wSO, m_wSt, m_wTd, m_wAc, m_wTb, m_wIN, m_wHO, m_wAR, m_wSp, m_wEM, m_wNA, m_hEMp, m_hEAp, m_hLT, m_pin, m_pou⟩ := id hIM
  refine T_ld 777 (.ref 0) rfl (fun _ => rfl) ?_
  refine T_ld 778 (.ref 1000000) rfl (fun _ => rfl) ?_
  refine T_ld 780 (.int (i32 i)) rfl (fun _ => rfl) ?_
  refine T_ld 781 (.int (i32 1)) rfl (fun _ => rfl) ?_
  refine T_iadd 782 rfl rfl ?_
  refine L_sl 783 rfl hX (by omega) (by omega) hL rfl ?_
  refine T_ld 784 (.ref 1000000) rfl (fun _ => rfl) ?_
  refine T_ld 786 (.int (i32 i)) rfl (fun _ => rfl) ?_
  refine T_ld 787 (.int (i32 2)) rfl (fun _ => rfl) ?_
  refine T_iadd 788 rfl rfl ?_
  refine L_sl 789 rfl hX (by omega) (by omega) hL rfl ?_
  refine T_callx 792 37 [.ref 0, .int (i32 (sx xs (i + 1))), .int (i32 (sx xs (i + 2)))] [] rfl (fun _ => rfl) rfl rfl (c_pw_byteAt w K c N 17 (by omega) hK (sx xs (i + 1)) (sx xs (i + 2)) (sx_r _ _) (sx_r _ _)) (fun rr1 hr2 => ?_)
  obtain ⟨r1, g1, rfl⟩ := hr2
  refine Or.inl ⟨_, _, _, _, rfl, ?_⟩
  refine T_ns (st' := [.int (i32 r1)]) rfl ?_
  refine T_pop 793 rfl (fun _ => rfl) ?_
  refine T_ld 794 (.ref 189) rfl (fun _ => rfl) ?_
  refine T_ld 795 (.ref 1000000) rfl (fun _ => rfl) ?_
  refine T_ld 797 (.int (i32 i)) rfl (fun _ => rfl) ?_
  refine T_ld 798 (.int (i32 1)) rfl (fun _ => rfl) ?_
  refine T_iadd 799 rfl rfl ?_
  refine L_sl 800 rfl hX (by omega) (by omega) hL rfl ?_
  refine T_ld 801 (.ref 1000000) rfl (fun _ => rfl) ?_
  refine T_ld 803 (.int (i32 i)) rfl (fun _ => rfl) ?_
  refine T_ld 804 (.int (i32 2)) rfl (fun _ => rfl) ?_
  refine T_iadd 805 rfl rfl ?_
  refine L_sl 806 rfl hX (by omega) (by omega) hL rfl ?_
  refine L_ref (m := m) 809 344 [.int (i32 (sx xs (i + 2))), .int (i32 (sx xs (i + 1)))] [] rfl rfl rfl rfl rfl rfl rfl hK hm (c_byteAt2 w m (khp K c) N 17 (by omega) hM (sx xs (i + 1)) (sx xs (i + 2)) (sx_r _ _) (sx_r _ _) ) (fun rr3 hr4 => ?_)
  obtain ⟨M2, r2, TM, FM, g2, rfl⟩ := hr4
  refine ⟨_, M2, rfl, ?_⟩
  refine T_ns (st' := [.int (i32 r2)]) rfl ?_
  refine T_pop 810 rfl (fun _ => rfl) ?_
  refine T_goto 955 rfl (fun _ => rfl) ?_
  refine Tm_lv (a := LV i) (b := [(4, .int (i32 i)), (3, .ref 326), (2, .ref 189), (1, .ref 0), (0, .ref 1000000)]) rfl rfl ⟨rfl, rfl, rfl, rfl, rfl, trivial⟩ (H K M2 (mhp M2 c) N _ _ ⟨⟨hK, TM, (IK_i hIK (show i ≤ i + 6 by omega)), (IM_f hIM (show i ≤ i + 6 by omega) FM rfl), mhp_id, (show ∃ F, mhp M2 c 326 = some (ocl F) from by rw [mhp_lo (by omega)]; exact hc), hF, by omega, by omega, by omega, by omega⟩, (RX_f hRel (fr_0 (u := []) (v := [])) hK FM TM rfl rfl rfl rfl), (TM_fr hTM (fr_0 (u := []) (v := [])) FM rfl rfl rfl rfl), (PQs_fr hRel hM hIM hPQ (fr_0 (u := []) (v := [])) FM rfl rfl rfl rfl), (PJs_fr hPJ (hM.1 151).1 m_pld (fr_0 (u := []) (v := [])) hK FM TM (by decide +kernel) (by decide +kernel) (by decide +kernel) (by decide +kernel) (by decide +kernel) (by decide +kernel) (by decide +kernel) (by decide +kernel))⟩)
set_option maxHeartbeats 4000000 in
theorem lw_16 {w : wX} {L : Nat} {xs : Nat → Int32} {Q : ag_Re af_T → Prop} {K m : mR} {c : Nat → Option am_C} {N nc ns : Nat} {i : Int} (hX : w.1 = (some L, fun j => some (xs j))) (h0 : 0 ≤ i) (h1 : i + 6 ≤ L) (hL : L ≤ 3072) (hI : LI5 i K m c N nc ns) (H : ∀ K m c N nc ns, LI5 (i + 6) K m c N nc ns → TT w 17 pm_0 (955, LV i, [], (khp K c, N), nc, ns) Q) : TT w 17 pm_0 (813, LV i, [], (khp K c, N), nc, ns) Q := by
  obtain ⟨⟨hK, hM, hIK, hIM, hm, hc, hF, hN, hN2, hn1, hn2⟩, hRel, hTM, hPQ, hPJ⟩ := hI
  obtain ⟨Kj, mj, hAj, hBj, hJ⟩ := id hPJ
  obtain ⟨m_ct, m_pth, m_pld, m_hNM0, m_hFA0, m_hPA0, m_hHB0, m_wCN, m_wSO, m_wSt, m_wTd, m_wAc, m_wTb, m_wIN, m_wHO, m_wAR, m_wSp, m_wEM, m_wNA, m_hEMp, m_hEAp, m_hLT, m_pin, m_pou⟩ := id hIM
  refine T_ld 814 (.ref 0) rfl (fun _ => rfl) ?_
  refine T_ld 815 (.ref 1000000) rfl (fun _ => rfl) ?_
  refine T_ld 817 (.int (i32 i)) rfl (fun _ => rfl) ?_
  refine T_ld 818 (.int (i32 1)) rfl (fun _ => rfl) ?_
  refine T_iadd 819 rfl rfl ?_
  refine L_sl 820 rfl hX (by omega) (by omega) hL rfl ?_
  refine T_ld 821 (.ref 1000000) rfl (fun _ => rfl) ?_
  refine T_ld 823 (.int (i32 i)) rfl (fun _ => rfl) ?_
  refine T_ld 824 (.int (i32 2)) rfl (fun _ => rfl) ?_
  refine T_iadd 825 rfl rfl ?_
  refine L_sl 826 rfl hX (by omega) (by omega) hL rfl ?_
  refine T_callx 829 38 [.ref 0, .int (i32 (sx xs (i + 1))), .int (i32 (sx xs (i + 2)))] [] rfl (fun _ => rfl) rfl rfl (Tc_a (c_pw_did w K c N 17 (by omega) hK (sx xs (i + 1)) (sx xs (i + 2)) (sx_r _ _) (sx_r _ _)) (D_k2 hAj (D_pw_did (Kj.2 107, Kj.2 108) w Kj c N 17 (KCo_j hAj hK) (sx xs (i + 1)) (sx xs (i + 2)) (sx_r _ _) (sx_r _ _)))) (fun rr1 hr2 => ?_)
  obtain ⟨hr2, y, hy, hyr⟩ := hr2
  obtain ⟨r1, g1, rfl⟩ := hr2
  refine Or.inl ⟨_, _, _, _, rfl, ?_⟩
  refine T_ns (st' := [.int (i32 r1)]) rfl ?_
  have y1 : y = r1 := FP1_n (a := r1) ⟨by omega, by omega⟩ hyr
  refine T_ld 830 (.ref 189) rfl (fun _ => rfl) ?_
  refine T_ld 831 (.ref 1000000) rfl (fun _ => rfl) ?_
  refine T_ld 833 (.int (i32 i)) rfl (fun _ => rfl) ?_
  refine T_ld 834 (.int (i32 1)) rfl (fun _ => rfl) ?_
  refine T_iadd 835 rfl rfl ?_
  refine L_sl 836 rfl hX (by omega) (by omega) hL rfl ?_
  refine T_ld 837 (.ref 1000000) rfl (fun _ => rfl) ?_
  refine T_ld 839 (.int (i32 i)) rfl (fun _ => rfl) ?_
  refine T_ld 840 (.int (i32 2)) rfl (fun _ => rfl) ?_
  refine T_iadd 841 rfl rfl ?_
  refine L_sl 842 rfl hX (by omega) (by omega) hL rfl ?_
  refine L_ref (m := m) 845 345 [.int (i32 (sx xs (i + 2))), .int (i32 (sx xs (i + 1)))] [.int (i32 r1)] rfl rfl rfl rfl rfl rfl rfl hK hm (Tc_a (c_did w m (khp K c) N 17 (by omega) hM (sx xs (i + 1)) (sx xs (i + 2)) (sx_r _ _) (sx_r _ _) ) (D_m2 hBj (D_did w mj (khp K c) N 17 (AGm_C2 hBj hM) (sx xs (i + 1)) (sx xs (i + 2)) (sx_r _ _) (sx_r _ _)))) (fun rr3 hr4 => ?_)
  obtain ⟨hr4, z, hz, hzr⟩ := hr4
  obtain ⟨M2, r2, TM, FM, g2, rfl⟩ := hr4
  refine ⟨_, M2, rfl, ?_⟩
  refine T_ns (st' := [.int (i32 r2), .int (i32 r1)]) rfl ?_
  obtain ⟨z1, hmm, cM⟩ := FR1_n (a := r2) ⟨by omega, by omega⟩ hzr
  have heq : r1 = r2 := by rw [← y1, ← z1]; exact did_j hK hM hIK hIM (by omega) hRel hTM hAj hBj hJ _ _ hy hz
  refine T_icmp 955 848 rfl rfl rfl ⟨by omega, by omega⟩ ⟨by omega, by omega⟩ (fun _ => ?_) (fun (h9 : ¬ _ = _) => absurd (show _ = _ by omega) h9)
  refine Tm_lv (a := LV i) (b := [(4, .int (i32 i)), (3, .ref 326), (2, .ref 189), (1, .ref 0), (0, .ref 1000000)]) rfl rfl ⟨rfl, rfl, rfl, rfl, rfl, trivial⟩ (H K M2 (mhp M2 c) N _ _ ⟨⟨hK, TM, (IK_i hIK (show i ≤ i + 6 by omega)), (IM_f hIM (show i ≤ i + 6 by omega) FM rfl), mhp_id, (show ∃ F, mhp M2 c 326 = some (ocl F) from by rw [mhp_lo (by omega)]; exact hc), hF, by omega, by omega, by omega, by omega⟩, (RX_f hRel (fr_0 (u := []) (v := [])) hK FM TM rfl rfl rfl rfl), (TM_fr hTM (fr_0 (u := []) (v := [])) FM rfl rfl rfl rfl), (PQs_fr hRel hM hIM hPQ (fr_0 (u := []) (v := [])) FM rfl rfl rfl rfl), (PJs_fr hPJ (hM.1 151).1 m_pld (fr_0 (u := []) (v := [])) hK FM TM (by decide +kernel) (by decide +kernel) (by decide +kernel) (by decide +kernel) (by decide +kernel) (by decide +kernel) (by decide +kernel) (by decide +kernel))⟩)
set_option maxHeartbeats 4000000 in
theorem lw_17 {w : wX} {L : Nat} {xs : Nat → Int32} {Q : ag_Re af_T → Prop} {K m : mR} {c : Nat → Option am_C} {N nc ns : Nat} {i : Int} (hX : w.1 = (some L, fun j => some (xs j))) (h0 : 0 ≤ i) (h1 : i + 6 ≤ L) (hL : L ≤ 3072) (hI : LI5 i K m c N nc ns) (H : ∀ K m c N nc ns, LI5 (i + 6) K m c N nc ns → TT w 17 pm_0 (955, LV i, [], (khp K c, N), nc, ns) Q) : TT w 17 pm_0 (850, LV i, [], (khp K c, N), nc, ns) Q := by
  obtain ⟨⟨hK, hM, hIK, hIM, hm, hc, hF, hN, hN2, hn1, hn2⟩, hRel, hTM, hPQ, hPJ⟩ := hI
  obtain ⟨Kj, mj, hAj, hBj, hJ⟩ := id hPJ
  obtain ⟨m_ct, m_pth, m_pld, m_hNM0, m_hFA0, m_hPA0, m_hHB0, m_wCN, m_wSO, m_wSt, m_wTd, m_wAc, m_wTb, m_wIN, m_wHO, m_wAR, m_wSp, m_wEM, m_wNA, m_hEMp, m_hEAp, m_hLT, m_pin, m_pou⟩ := id hIM
  refine T_ld 851 (.ref 0) rfl (fun _ => rfl) ?_
  refine T_ld 852 (.ref 1000000) rfl (fun _ => rfl) ?_
  refine T_ld 854 (.int (i32 i)) rfl (fun _ => rfl) ?_
  refine T_ld 855 (.int (i32 1)) rfl (fun _ => rfl) ?_
  refine T_iadd 856 rfl rfl ?_
  refine L_sl 857 rfl hX (by omega) (by omega) hL rfl ?_
  refine T_ld 858 (.ref 1000000) rfl (fun _ => rfl) ?_
  refine T_ld 860 (.int (i32 i)) rfl (fun _ => rfl) ?_
  refine T_ld 861 (.int (i32 2)) rfl (fun _ => rfl) ?_
  refine T_iadd 862 rfl rfl ?_
  refine L_sl 863 rfl hX (by omega) (by omega) hL rfl ?_
  refine T_ld 864 (.ref 326) rfl (fun _ => rfl) ?_
  refine T_callx 867 202 [.ref 0, .int (i32 (sx xs (i + 1))), .int (i32 (sx xs (i + 2))), .ref 326] [] rfl (fun _ => rfl) rfl rfl (h_word w K c N 17 (by omega) hK i (i + 6) h0 (by omega) hIK rfl hc hF ⟨by omega, by omega⟩ Kj (fun _ => khp_AG2 hAj) (KCo_j hAj hK) (sx xs (i + 1)) (sx_r _ _) (sx xs (i + 2)) (sx_r _ _)) (fun rr1 hr2 => ?_)
  obtain ⟨K1, c1, N1, k1, n1, r1, TK1, IK1, oc1, F1, b1, ⟨g1, P1⟩, rfl⟩ := hr2
  refine Or.inl ⟨_, _, _, _, rfl, ?_⟩
  obtain ⟨g1a, g1b⟩ := g1
  refine T_ns (st' := [.int (i32 r1)]) rfl ?_
  obtain ⟨y, hy, fK, hout⟩ := P1
  refine Tm_step (S' := (869, [(5, .int (i32 r1)), (4, .int (i32 i)), (3, .ref 326), (2, .ref 189), (1, .ref 0), (0, .ref 1000000)], [], (khp K1 c1, N1), _, _)) rfl (fun _ => rfl) ?_
  refine T_ld 870 (.ref 189) rfl (fun _ => rfl) ?_
  refine T_ld 871 (.ref 1000000) rfl (fun _ => rfl) ?_
  refine T_ld 873 (.int (i32 i)) rfl (fun _ => rfl) ?_
  refine T_ld 874 (.int (i32 1)) rfl (fun _ => rfl) ?_
  refine T_iadd 875 rfl rfl ?_
  refine L_sl 876 rfl hX (by omega) (by omega) hL rfl ?_
  refine T_ld 877 (.ref 1000000) rfl (fun _ => rfl) ?_
  refine T_ld 879 (.int (i32 i)) rfl (fun _ => rfl) ?_
  refine T_ld 880 (.int (i32 2)) rfl (fun _ => rfl) ?_
  refine T_iadd 881 rfl rfl ?_
  refine L_sl 882 rfl hX (by omega) (by omega) hL rfl ?_
  refine L_ref (m := m) 885 346 [.int (i32 (sx xs (i + 2))), .int (i32 (sx xs (i + 1)))] [] rfl rfl rfl rfl rfl rfl rfl TK1 (OC_m oc1 hm) (Tc_a (c_word w m (khp K1 c1) N1 17 (by omega) hM (sx xs (i + 1)) (sx xs (i + 2)) (sx_r _ _) (sx_r _ _) ) (D_m2 hBj (D_word w mj (khp K1 c1) N1 17 (AGm_C2 hBj hM) (sx xs (i + 1)) (sx xs (i + 2)) (sx_r _ _) (sx_r _ _)))) (fun rr3 hr4 => ?_)
  obtain ⟨hr4, z, hz, hzr⟩ := hr4
  obtain ⟨M2, r2, TM, FM, g2, rfl⟩ := hr4
  refine ⟨_, M2, rfl, ?_⟩
  refine T_ns (st' := [.long (i64 r2)]) rfl ?_
  obtain ⟨z1, hmm, cM⟩ := FR2_n (a := r2) ⟨by omega, by omega⟩ hzr
  have hen := word_j hK hM hIK hIM (by omega) hRel hTM hAj hBj hJ y z hy hz
  have e1 : M2.1 1 = z.2.1 1 := HMf hmm (by decide) (by decide) ((Ty_V TM).1 1) (cM.1 1)
  have hth : M2.1 1 = r1 := by
    rcases hout with ⟨u1, u2, -⟩ | ⟨u1, u2⟩ <;> rcases hen with ⟨t1, t2, -⟩ | ⟨t1, t2⟩ <;> omega
  have hval : r1 = 0 → ∃ F, c1 326 = some (ocl F) ∧ F 0 = i64 r2 ∧ R64 r2 := fun e9 => by
    rcases hout with ⟨u1, u2, Fo, o1, o2, o3⟩ | ⟨u1, u2⟩
    · rcases hen with ⟨t1, t2, t3⟩ | ⟨t1, t2⟩
      · rw [t3, z1] at o2 o3
        exact ⟨Fo, o1, o2, o3⟩
      · exact absurd (u2.symm.trans t1) (by decide)
    · exact absurd (u1.symm.trans e9) (by decide)
  refine Tm_step (S' := (887, [(6, .long (i64 r2)), (5, .int (i32 r1)), (4, .int (i32 i)), (3, .ref 326), (2, .ref 189), (1, .ref 0), (0, .ref 1000000)], [], (khp K1 (mhp M2 c1), N1), _, _)) rfl (fun _ => rfl) ?_
  refine T_goto 955 rfl (fun _ => rfl) ?_
  refine Tm_lv (a := LV i) (b := [(6, .long (i64 r2)), (5, .int (i32 r1)), (4, .int (i32 i)), (3, .ref 326), (2, .ref 189), (1, .ref 0), (0, .ref 1000000)]) rfl rfl ⟨rfl, rfl, rfl, rfl, rfl, trivial⟩ (H K1 M2 (mhp M2 c1) N1 _ _ ⟨⟨TK1, TM, IK1, (IM_f hIM (show i ≤ i + 6 by omega) FM rfl), mhp_id, (show ∃ F, mhp M2 c1 326 = some (ocl F) from by rw [mhp_lo (by omega)]; exact oc1.2), F1, by omega, by omega, by omega, by omega⟩, (RX_f hRel (show fr [] [] K K1 by rw [show K1 = K from fK]; exact fr_0) TK1 FM TM rfl rfl rfl rfl), (TM_fr hTM (show fr [] [] K K1 by rw [show K1 = K from fK]; exact fr_0) FM rfl rfl rfl rfl), (PQs_fr hRel hM hIM hPQ (show fr [] [] K K1 by rw [show K1 = K from fK]; exact fr_0) FM rfl rfl rfl rfl), (PJs_fr hPJ (hM.1 151).1 m_pld (show fr [] [] K K1 by rw [show K1 = K from fK]; exact fr_0) TK1 FM TM (by decide +kernel) (by decide +kernel) (by decide +kernel) (by decide +kernel) (by decide +kernel) (by decide +kernel) (by decide +kernel) (by decide +kernel))⟩)
set_option maxHeartbeats 4000000 in
theorem lw_18 {w : wX} {L : Nat} {xs : Nat → Int32} {Q : ag_Re af_T → Prop} {K m : mR} {c : Nat → Option am_C} {N nc ns : Nat} {i : Int} (hX : w.1 = (some L, fun j => some (xs j))) (h0 : 0 ≤ i) (h1 : i + 6 ≤ L) (hL : L ≤ 3072) (hI : LI5 i K m c N nc ns) (H : ∀ K m c N nc ns, LI5 (i + 6) K m c N nc ns → TT w 17 pm_0 (955, LV i, [], (khp K c, N), nc, ns) Q) : TT w 17 pm_0 (890, LV i, [], (khp K c, N), nc, ns) Q := by
  obtain ⟨⟨hK, hM, hIK, hIM, hm, hc, hF, hN, hN2, hn1, hn2⟩, hRel, hTM, hPQ, hPJ⟩ := hI
  obtain ⟨m_ct, m_pth, m_pld, m_hNM0, m_hFA0, m_hPA0, m_hHB0, m_wCN, m_wSO, m_wSt, m_wTd, m_wAc, m_wTb, m_wIN, m_wHO, m_wAR, m_wSp, m_wEM, m_wNA, m_hEMp, m_hEAp, m_hLT, m_pin, m_pou⟩ := id hIM
  refine T_ld 891 (.ref 0) rfl (fun _ => rfl) ?_
  refine T_ld 892 (.ref 1000000) rfl (fun _ => rfl) ?_
  refine T_ld 894 (.int (i32 i)) rfl (fun _ => rfl) ?_
  refine T_ld 895 (.int (i32 1)) rfl (fun _ => rfl) ?_
  refine T_iadd 896 rfl rfl ?_
  refine L_sl 897 rfl hX (by omega) (by omega) hL rfl ?_
  refine T_ld 898 (.ref 1000000) rfl (fun _ => rfl) ?_
  refine T_ld 900 (.int (i32 i)) rfl (fun _ => rfl) ?_
  refine T_ld 901 (.int (i32 2)) rfl (fun _ => rfl) ?_
  refine T_iadd 902 rfl rfl ?_
  refine L_sl 903 rfl hX (by omega) (by omega) hL rfl ?_
  refine T_ld 904 (.ref 326) rfl (fun _ => rfl) ?_
  refine T_callx 907 204 [.ref 0, .int (i32 (sx xs (i + 1))), .int (i32 (sx xs (i + 2))), .ref 326] [] rfl (fun _ => rfl) rfl rfl (h_entries w K c N 17 (by omega) hK i (i + 6) h0 (by omega) hIK rfl hc hF ⟨by omega, by omega⟩ (sx xs (i + 1)) (sx_r _ _) (sx xs (i + 2)) (sx_r _ _)) (fun rr1 hr2 => ?_)
  obtain ⟨K1, c1, N1, k1, n1, r1, TK1, IK1, oc1, F1, b1, ⟨g1, P1⟩, rfl⟩ := hr2
  refine Or.inl ⟨_, _, _, _, rfl, ?_⟩
  obtain ⟨g1a, g1b⟩ := g1
  refine T_ns (st' := [.int (i32 r1)]) rfl ?_
  obtain ⟨y, hy, cK, hk, fK, hout⟩ := P1
  refine Tm_step (S' := (909, [(5, .int (i32 r1)), (4, .int (i32 i)), (3, .ref 326), (2, .ref 189), (1, .ref 0), (0, .ref 1000000)], [], (khp K1 c1, N1), _, _)) rfl (fun _ => rfl) ?_
  refine T_ld 910 (.ref 189) rfl (fun _ => rfl) ?_
  refine T_ld 911 (.ref 1000000) rfl (fun _ => rfl) ?_
  refine T_ld 913 (.int (i32 i)) rfl (fun _ => rfl) ?_
  refine T_ld 914 (.int (i32 1)) rfl (fun _ => rfl) ?_
  refine T_iadd 915 rfl rfl ?_
  refine L_sl 916 rfl hX (by omega) (by omega) hL rfl ?_
  refine T_ld 917 (.ref 1000000) rfl (fun _ => rfl) ?_
  refine T_ld 919 (.int (i32 i)) rfl (fun _ => rfl) ?_
  refine T_ld 920 (.int (i32 2)) rfl (fun _ => rfl) ?_
  refine T_iadd 921 rfl rfl ?_
  refine L_sl 922 rfl hX (by omega) (by omega) hL rfl ?_
  refine L_ref (m := m) 925 347 [.int (i32 (sx xs (i + 2))), .int (i32 (sx xs (i + 1)))] [] rfl rfl rfl rfl rfl rfl rfl TK1 (OC_m oc1 hm) (Tc_a (c_entries w m (khp K1 c1) N1 17 (by omega) hM (sx xs (i + 1)) (sx xs (i + 2)) (sx_r _ _) (sx_r _ _) m_wCN m_wSO m_wSt m_wTd m_wAc m_wTb m_wIN m_wHO m_wAR m_wSp m_wEM m_wNA m_pth) (D_entries w m (khp K1 c1) N1 17 (Ty_C hM) (sx xs (i + 1)) (sx xs (i + 2)) (sx_r _ _) (sx_r _ _))) (fun rr3 hr4 => ?_)
  obtain ⟨hr4, z, hz, hzr⟩ := hr4
  obtain ⟨M2, r2, TM, FM, g2, rfl⟩ := hr4
  refine ⟨_, M2, rfl, ?_⟩
  refine T_ns (st' := [.int (i32 r2)]) rfl ?_
  obtain ⟨z1, hmm, cM⟩ := FR1_n (a := r2) ⟨by omega, by omega⟩ hzr
  obtain ⟨x1, x2, x3, x4, x5, x6, x7⟩ := RX_fa hRel
  have l149 : 0 ≤ m.1 149 := (hM.1 149).1
  have hen := ent_q hPQ.2.2 (fun q9 => (RX_GV hRel hIM q9).1) x1 x7 x5 hTM.1 (hM.1 151).1 m_pou (by omega) m_pth y z hy hz
  have e1 : M2.1 1 = z.2.1 1 := HMf hmm (by decide) (by decide) ((Ty_V TM).1 1) (cM.1 1)
  have hth : M2.1 1 = r1 := by
    rcases hout with ⟨u1, u2, -⟩ | ⟨u1, u2⟩ <;> rcases hen with ⟨t1, t2, -⟩ | ⟨t1, t2⟩ <;> omega
  have hval : r1 = 0 → ∃ F, c1 326 = some (ocl F) ∧ F 0 = i64 r2 ∧ R64 r2 := fun e9 => by
    rcases hout with ⟨u1, u2, Fo, o1, o2, o3⟩ | ⟨u1, u2⟩
    · rcases hen with ⟨t1, t2, t3⟩ | ⟨t1, t2⟩
      · rw [t3, z1] at o2 o3
        exact ⟨Fo, o1, o2, o3⟩
      · exact absurd (u2.symm.trans t1) (by decide)
    · exact absurd (u1.symm.trans e9) (by decide)
  refine Tm_step (S' := (927, [(6, .int (i32 r2)), (5, .int (i32 r1)), (4, .int (i32 i)), (3, .ref 326), (2, .ref 189), (1, .ref 0), (0, .ref 1000000)], [], (khp K1 (mhp M2 c1), N1), _, _)) rfl (fun _ => rfl) ?_
  refine T_goto 955 rfl (fun _ => rfl) ?_
  refine Tm_lv (a := LV i) (b := [(6, .int (i32 r2)), (5, .int (i32 r1)), (4, .int (i32 i)), (3, .ref 326), (2, .ref 189), (1, .ref 0), (0, .ref 1000000)]) rfl rfl ⟨rfl, rfl, rfl, rfl, rfl, trivial⟩ (H K1 M2 (mhp M2 c1) N1 _ _ ⟨⟨TK1, TM, IK1, (IM_f hIM (show i ≤ i + 6 by omega) FM rfl), mhp_id, (show ∃ F, mhp M2 c1 326 = some (ocl F) from by rw [mhp_lo (by omega)]; exact oc1.2), F1, by omega, by omega, by omega, by omega⟩, (RX_f hRel fK TK1 FM TM rfl rfl rfl rfl), (TM_fr hTM fK FM rfl rfl rfl rfl), (PQs_fr hRel hM hIM hPQ fK FM rfl rfl rfl rfl), (PJs_fr hPJ (hM.1 151).1 m_pld fK TK1 FM TM (by decide +kernel) (by decide +kernel) (by decide +kernel) (by decide +kernel) (by decide +kernel) (by decide +kernel) (by decide +kernel) (by decide +kernel))⟩)
set_option maxHeartbeats 4000000 in
theorem lw_19 {w : wX} {L : Nat} {xs : Nat → Int32} {Q : ag_Re af_T → Prop} {K m : mR} {c : Nat → Option am_C} {N nc ns : Nat} {i : Int} (hX : w.1 = (some L, fun j => some (xs j))) (h0 : 0 ≤ i) (h1 : i + 6 ≤ L) (hL : L ≤ 3072) (hI : LI5 i K m c N nc ns) (H : ∀ K m c N nc ns, LI5 (i + 6) K m c N nc ns → TT w 17 pm_0 (955, LV i, [], (khp K c, N), nc, ns) Q) : TT w 17 pm_0 (930, LV i, [], (khp K c, N), nc, ns) Q := by
  obtain ⟨⟨hK, hM, hIK, hIM, hm, hc, hF, hN, hN2, hn1, hn2⟩, hRel, hTM, hPQ, hPJ⟩ := hI
  obtain ⟨m_ct, m_pth, m_pld, m_hNM0, m_hFA0, m_hPA0, m_hHB0, m_wCN, m_wSO, m_wSt, m_wTd, m_wAc, m_wTb, m_wIN, m_wHO, m_wAR, m_wSp, m_wEM, m_wNA, m_hEMp, m_hEAp, m_hLT, m_pin, m_pou⟩ := id hIM
  refine T_ld 931 (.ref 0) rfl (fun _ => rfl) ?_
  refine T_ld 932 (.ref 1000000) rfl (fun _ => rfl) ?_
  refine T_ld 934 (.int (i32 i)) rfl (fun _ => rfl) ?_
  refine T_ld 935 (.int (i32 1)) rfl (fun _ => rfl) ?_
  refine T_iadd 936 rfl rfl ?_
  refine L_sl 937 rfl hX (by omega) (by omega) hL rfl ?_
  refine T_callx 940 39 [.ref 0, .int (i32 (sx xs (i + 1)))] [] rfl (fun _ => rfl) rfl rfl (c_pw_count w K c N 17 (by omega) hK (sx xs (i + 1)) (sx_r _ _)) (fun rr1 hr2 => ?_)
  obtain ⟨r1, g1, rfl⟩ := hr2
  refine Or.inl ⟨_, _, _, _, rfl, ?_⟩
  refine T_ns (st' := [.int (i32 r1)]) rfl ?_
  refine T_pop 941 rfl (fun _ => rfl) ?_
  refine T_ld 942 (.ref 189) rfl (fun _ => rfl) ?_
  refine T_ld 943 (.ref 1000000) rfl (fun _ => rfl) ?_
  refine T_ld 945 (.int (i32 i)) rfl (fun _ => rfl) ?_
  refine T_ld 946 (.int (i32 1)) rfl (fun _ => rfl) ?_
  refine T_iadd 947 rfl rfl ?_
  refine L_sl 948 rfl hX (by omega) (by omega) hL rfl ?_
  refine L_ref (m := m) 951 348 [.int (i32 (sx xs (i + 1)))] [] rfl rfl rfl rfl rfl rfl rfl hK hm (c_count w m (khp K c) N 17 (by omega) hM (sx xs (i + 1)) (sx_r _ _) ) (fun rr3 hr4 => ?_)
  obtain ⟨M2, r2, TM, FM, g2, rfl⟩ := hr4
  refine ⟨_, M2, rfl, ?_⟩
  refine T_ns (st' := [.int (i32 r2)]) rfl ?_
  refine T_pop 952 rfl (fun _ => rfl) ?_
  refine T_goto 955 rfl (fun _ => rfl) ?_
  refine Tm_lv (a := LV i) (b := [(4, .int (i32 i)), (3, .ref 326), (2, .ref 189), (1, .ref 0), (0, .ref 1000000)]) rfl rfl ⟨rfl, rfl, rfl, rfl, rfl, trivial⟩ (H K M2 (mhp M2 c) N _ _ ⟨⟨hK, TM, (IK_i hIK (show i ≤ i + 6 by omega)), (IM_f hIM (show i ≤ i + 6 by omega) FM rfl), mhp_id, (show ∃ F, mhp M2 c 326 = some (ocl F) from by rw [mhp_lo (by omega)]; exact hc), hF, by omega, by omega, by omega, by omega⟩, (RX_f hRel (fr_0 (u := []) (v := [])) hK FM TM rfl rfl rfl rfl), (TM_fr hTM (fr_0 (u := []) (v := [])) FM rfl rfl rfl rfl), (PQs_fr hRel hM hIM hPQ (fr_0 (u := []) (v := [])) FM rfl rfl rfl rfl), (PJs_fr hPJ (hM.1 151).1 m_pld (fr_0 (u := []) (v := [])) hK FM TM (by decide +kernel) (by decide +kernel) (by decide +kernel) (by decide +kernel) (by decide +kernel) (by decide +kernel) (by decide +kernel) (by decide +kernel))⟩)
