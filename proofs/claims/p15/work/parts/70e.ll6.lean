set_option maxHeartbeats 4000000 in
theorem lw_15 {w : wX} {L : Nat} {xs : Nat → Int32} {Q : ag_Re af_T → Prop} {K m : mR} {c : Nat → Option am_C} {N nc ns : Nat} {i : Int} (hX : w.1 = (some L, fun j => some (xs j))) (h0 : 0 ≤ i) (h1 : i + 6 ≤ L) (hL : L ≤ 3072) (hI : LI4 i K m c N nc ns) (H : ∀ K m c N nc ns, LI4 (i + 6) K m c N nc ns → TT w 17 pm_0 (983, LV i, [], (khp K c, N), nc, ns) Q) : TT w 17 pm_0 (804, LV i, [], (khp K c, N), nc, ns) Q := by
  obtain ⟨⟨hK, hM, hIK, hIM, hm, hc, hF, hN, hN2, hn1, hn2⟩, hRel, hTM, hPQ⟩ := hI
  obtain ⟨m_ct, m_pth, m_pld, m_hNM0, m_hFA0, m_hPA0, m_hHB0, m_wCN, m_wSO, m_wSt, m_wTd, m_wAc, m_wTb, m_wIN, m_wHO, m_wAR, m_wSp, m_wEM, m_wNA, m_hEMp, m_hEAp, m_hLT, m_pin, m_pou⟩ := id hIM
  refine T_ld 805 (.ref 0) rfl (fun _ => rfl) ?_
  refine T_ld 806 (.ref 1000000) rfl (fun _ => rfl) ?_
  refine T_ld 808 (.int (i32 i)) rfl (fun _ => rfl) ?_
  refine T_ld 809 (.int (i32 1)) rfl (fun _ => rfl) ?_
  refine T_iadd 810 rfl rfl ?_
  refine L_sl 811 rfl hX (by omega) (by omega) hL rfl ?_
  refine T_ld 812 (.ref 1000000) rfl (fun _ => rfl) ?_
  refine T_ld 814 (.int (i32 i)) rfl (fun _ => rfl) ?_
  refine T_ld 815 (.int (i32 2)) rfl (fun _ => rfl) ?_
  refine T_iadd 816 rfl rfl ?_
  refine L_sl 817 rfl hX (by omega) (by omega) hL rfl ?_
  refine T_callx 820 37 [.ref 0, .int (i32 (sx xs (i + 1))), .int (i32 (sx xs (i + 2)))] [] rfl (fun _ => rfl) rfl rfl (c_pw_byteAt w K c N 17 (by omega) hK (sx xs (i + 1)) (sx xs (i + 2)) (sx_r _ _) (sx_r _ _)) (fun rr1 hr2 => ?_)
  obtain ⟨r1, g1, rfl⟩ := hr2
  refine Or.inl ⟨_, _, _, _, rfl, ?_⟩
  refine T_ns (st' := [.int (i32 r1)]) rfl ?_
  refine T_pop 821 rfl (fun _ => rfl) ?_
  refine T_ld 822 (.ref 189) rfl (fun _ => rfl) ?_
  refine T_ld 823 (.ref 1000000) rfl (fun _ => rfl) ?_
  refine T_ld 825 (.int (i32 i)) rfl (fun _ => rfl) ?_
  refine T_ld 826 (.int (i32 1)) rfl (fun _ => rfl) ?_
  refine T_iadd 827 rfl rfl ?_
  refine L_sl 828 rfl hX (by omega) (by omega) hL rfl ?_
  refine T_ld 829 (.ref 1000000) rfl (fun _ => rfl) ?_
  refine T_ld 831 (.int (i32 i)) rfl (fun _ => rfl) ?_
  refine T_ld 832 (.int (i32 2)) rfl (fun _ => rfl) ?_
  refine T_iadd 833 rfl rfl ?_
  refine L_sl 834 rfl hX (by omega) (by omega) hL rfl ?_
  refine L_ref (m := m) 837 344 [.int (i32 (sx xs (i + 2))), .int (i32 (sx xs (i + 1)))] [] rfl rfl rfl rfl rfl rfl rfl hK hm (c_byteAt2 w m (khp K c) N 17 (by omega) hM (sx xs (i + 1)) (sx xs (i + 2)) (sx_r _ _) (sx_r _ _) ) (fun rr3 hr4 => ?_)
  obtain ⟨M2, r2, TM, FM, g2, rfl⟩ := hr4
  refine ⟨_, M2, rfl, ?_⟩
  refine T_ns (st' := [.int (i32 r2)]) rfl ?_
  refine T_pop 838 rfl (fun _ => rfl) ?_
  refine T_goto 983 rfl (fun _ => rfl) ?_
  refine Tm_lv (a := LV i) (b := [(4, .int (i32 i)), (3, .ref 326), (2, .ref 189), (1, .ref 0), (0, .ref 1000000)]) rfl rfl ⟨rfl, rfl, rfl, rfl, rfl, trivial⟩ (H K M2 (mhp M2 c) N _ _ ⟨⟨hK, TM, (IK_i hIK (show i ≤ i + 6 by omega)), (IM_f hIM (show i ≤ i + 6 by omega) FM rfl), mhp_id, (show ∃ F, mhp M2 c 326 = some (ocl F) from by rw [mhp_lo (by omega)]; exact hc), hF, by omega, by omega, by omega, by omega⟩, (RX_f hRel (fr_0 (u := []) (v := [])) hK FM TM rfl rfl rfl rfl), (TM_fr hTM (fr_0 (u := []) (v := [])) FM rfl rfl rfl rfl), (PQs_fr hRel hM hIM hPQ (fr_0 (u := []) (v := [])) FM rfl rfl rfl rfl)⟩)
set_option maxHeartbeats 4000000 in
theorem lw_16 {w : wX} {L : Nat} {xs : Nat → Int32} {Q : ag_Re af_T → Prop} {K m : mR} {c : Nat → Option am_C} {N nc ns : Nat} {i : Int} (hX : w.1 = (some L, fun j => some (xs j))) (h0 : 0 ≤ i) (h1 : i + 6 ≤ L) (hL : L ≤ 3072) (hI : LI4 i K m c N nc ns) (H : ∀ K m c N nc ns, LI4 (i + 6) K m c N nc ns → TT w 17 pm_0 (983, LV i, [], (khp K c, N), nc, ns) Q) : TT w 17 pm_0 (841, LV i, [], (khp K c, N), nc, ns) Q := by
  obtain ⟨⟨hK, hM, hIK, hIM, hm, hc, hF, hN, hN2, hn1, hn2⟩, hRel, hTM, hPQ⟩ := hI
  obtain ⟨m_ct, m_pth, m_pld, m_hNM0, m_hFA0, m_hPA0, m_hHB0, m_wCN, m_wSO, m_wSt, m_wTd, m_wAc, m_wTb, m_wIN, m_wHO, m_wAR, m_wSp, m_wEM, m_wNA, m_hEMp, m_hEAp, m_hLT, m_pin, m_pou⟩ := id hIM
  refine T_ld 842 (.ref 0) rfl (fun _ => rfl) ?_
  refine T_ld 843 (.ref 1000000) rfl (fun _ => rfl) ?_
  refine T_ld 845 (.int (i32 i)) rfl (fun _ => rfl) ?_
  refine T_ld 846 (.int (i32 1)) rfl (fun _ => rfl) ?_
  refine T_iadd 847 rfl rfl ?_
  refine L_sl 848 rfl hX (by omega) (by omega) hL rfl ?_
  refine T_ld 849 (.ref 1000000) rfl (fun _ => rfl) ?_
  refine T_ld 851 (.int (i32 i)) rfl (fun _ => rfl) ?_
  refine T_ld 852 (.int (i32 2)) rfl (fun _ => rfl) ?_
  refine T_iadd 853 rfl rfl ?_
  refine L_sl 854 rfl hX (by omega) (by omega) hL rfl ?_
  refine T_callx 857 38 [.ref 0, .int (i32 (sx xs (i + 1))), .int (i32 (sx xs (i + 2)))] [] rfl (fun _ => rfl) rfl rfl (c_pw_did w K c N 17 (by omega) hK (sx xs (i + 1)) (sx xs (i + 2)) (sx_r _ _) (sx_r _ _)) (fun rr1 hr2 => ?_)
  obtain ⟨r1, g1, rfl⟩ := hr2
  refine Or.inl ⟨_, _, _, _, rfl, ?_⟩
  refine T_ns (st' := [.int (i32 r1)]) rfl ?_
  refine T_pop 858 rfl (fun _ => rfl) ?_
  refine T_ld 859 (.ref 189) rfl (fun _ => rfl) ?_
  refine T_ld 860 (.ref 1000000) rfl (fun _ => rfl) ?_
  refine T_ld 862 (.int (i32 i)) rfl (fun _ => rfl) ?_
  refine T_ld 863 (.int (i32 1)) rfl (fun _ => rfl) ?_
  refine T_iadd 864 rfl rfl ?_
  refine L_sl 865 rfl hX (by omega) (by omega) hL rfl ?_
  refine T_ld 866 (.ref 1000000) rfl (fun _ => rfl) ?_
  refine T_ld 868 (.int (i32 i)) rfl (fun _ => rfl) ?_
  refine T_ld 869 (.int (i32 2)) rfl (fun _ => rfl) ?_
  refine T_iadd 870 rfl rfl ?_
  refine L_sl 871 rfl hX (by omega) (by omega) hL rfl ?_
  refine L_ref (m := m) 874 345 [.int (i32 (sx xs (i + 2))), .int (i32 (sx xs (i + 1)))] [] rfl rfl rfl rfl rfl rfl rfl hK hm (c_did w m (khp K c) N 17 (by omega) hM (sx xs (i + 1)) (sx xs (i + 2)) (sx_r _ _) (sx_r _ _) ) (fun rr3 hr4 => ?_)
  obtain ⟨M2, r2, TM, FM, g2, rfl⟩ := hr4
  refine ⟨_, M2, rfl, ?_⟩
  refine T_ns (st' := [.int (i32 r2)]) rfl ?_
  refine T_pop 875 rfl (fun _ => rfl) ?_
  refine T_goto 983 rfl (fun _ => rfl) ?_
  refine Tm_lv (a := LV i) (b := [(4, .int (i32 i)), (3, .ref 326), (2, .ref 189), (1, .ref 0), (0, .ref 1000000)]) rfl rfl ⟨rfl, rfl, rfl, rfl, rfl, trivial⟩ (H K M2 (mhp M2 c) N _ _ ⟨⟨hK, TM, (IK_i hIK (show i ≤ i + 6 by omega)), (IM_f hIM (show i ≤ i + 6 by omega) FM rfl), mhp_id, (show ∃ F, mhp M2 c 326 = some (ocl F) from by rw [mhp_lo (by omega)]; exact hc), hF, by omega, by omega, by omega, by omega⟩, (RX_f hRel (fr_0 (u := []) (v := [])) hK FM TM rfl rfl rfl rfl), (TM_fr hTM (fr_0 (u := []) (v := [])) FM rfl rfl rfl rfl), (PQs_fr hRel hM hIM hPQ (fr_0 (u := []) (v := [])) FM rfl rfl rfl rfl)⟩)
set_option maxHeartbeats 4000000 in
theorem lw_17 {w : wX} {L : Nat} {xs : Nat → Int32} {Q : ag_Re af_T → Prop} {K m : mR} {c : Nat → Option am_C} {N nc ns : Nat} {i : Int} (hX : w.1 = (some L, fun j => some (xs j))) (h0 : 0 ≤ i) (h1 : i + 6 ≤ L) (hL : L ≤ 3072) (hI : LI4 i K m c N nc ns) (H : ∀ K m c N nc ns, LI4 (i + 6) K m c N nc ns → TT w 17 pm_0 (983, LV i, [], (khp K c, N), nc, ns) Q) : TT w 17 pm_0 (878, LV i, [], (khp K c, N), nc, ns) Q := by
  obtain ⟨⟨hK, hM, hIK, hIM, hm, hc, hF, hN, hN2, hn1, hn2⟩, hRel, hTM, hPQ⟩ := hI
  obtain ⟨m_ct, m_pth, m_pld, m_hNM0, m_hFA0, m_hPA0, m_hHB0, m_wCN, m_wSO, m_wSt, m_wTd, m_wAc, m_wTb, m_wIN, m_wHO, m_wAR, m_wSp, m_wEM, m_wNA, m_hEMp, m_hEAp, m_hLT, m_pin, m_pou⟩ := id hIM
  refine T_ld 879 (.ref 0) rfl (fun _ => rfl) ?_
  refine T_ld 880 (.ref 1000000) rfl (fun _ => rfl) ?_
  refine T_ld 882 (.int (i32 i)) rfl (fun _ => rfl) ?_
  refine T_ld 883 (.int (i32 1)) rfl (fun _ => rfl) ?_
  refine T_iadd 884 rfl rfl ?_
  refine L_sl 885 rfl hX (by omega) (by omega) hL rfl ?_
  refine T_ld 886 (.ref 1000000) rfl (fun _ => rfl) ?_
  refine T_ld 888 (.int (i32 i)) rfl (fun _ => rfl) ?_
  refine T_ld 889 (.int (i32 2)) rfl (fun _ => rfl) ?_
  refine T_iadd 890 rfl rfl ?_
  refine L_sl 891 rfl hX (by omega) (by omega) hL rfl ?_
  refine T_ld 892 (.ref 326) rfl (fun _ => rfl) ?_
  refine T_callx 895 202 [.ref 0, .int (i32 (sx xs (i + 1))), .int (i32 (sx xs (i + 2))), .ref 326] [] rfl (fun _ => rfl) rfl rfl (h_word w K c N 17 (by omega) hK i (i + 6) h0 (by omega) hIK rfl hc hF ⟨by omega, by omega⟩ (sx xs (i + 1)) (sx_r _ _) (sx xs (i + 2)) (sx_r _ _)) (fun rr1 hr2 => ?_)
  obtain ⟨K1, c1, N1, k1, n1, r1, TK1, IK1, oc1, F1, b1, ⟨g1, P1⟩, rfl⟩ := hr2
  refine Or.inl ⟨_, _, _, _, rfl, ?_⟩
  obtain ⟨g1a, g1b⟩ := g1
  refine T_ns (st' := [.int (i32 r1)]) rfl ?_
  refine Tm_step (S' := (897, [(5, .int (i32 r1)), (4, .int (i32 i)), (3, .ref 326), (2, .ref 189), (1, .ref 0), (0, .ref 1000000)], [], (khp K1 c1, N1), _, _)) rfl (fun _ => rfl) ?_
  refine T_ld 898 (.ref 189) rfl (fun _ => rfl) ?_
  refine T_ld 899 (.ref 1000000) rfl (fun _ => rfl) ?_
  refine T_ld 901 (.int (i32 i)) rfl (fun _ => rfl) ?_
  refine T_ld 902 (.int (i32 1)) rfl (fun _ => rfl) ?_
  refine T_iadd 903 rfl rfl ?_
  refine L_sl 904 rfl hX (by omega) (by omega) hL rfl ?_
  refine T_ld 905 (.ref 1000000) rfl (fun _ => rfl) ?_
  refine T_ld 907 (.int (i32 i)) rfl (fun _ => rfl) ?_
  refine T_ld 908 (.int (i32 2)) rfl (fun _ => rfl) ?_
  refine T_iadd 909 rfl rfl ?_
  refine L_sl 910 rfl hX (by omega) (by omega) hL rfl ?_
  refine L_ref (m := m) 913 346 [.int (i32 (sx xs (i + 2))), .int (i32 (sx xs (i + 1)))] [] rfl rfl rfl rfl rfl rfl rfl TK1 (OC_m oc1 hm) (c_word w m (khp K1 c1) N1 17 (by omega) hM (sx xs (i + 1)) (sx xs (i + 2)) (sx_r _ _) (sx_r _ _) ) (fun rr3 hr4 => ?_)
  obtain ⟨M2, r2, TM, FM, g2, rfl⟩ := hr4
  refine ⟨_, M2, rfl, ?_⟩
  refine T_ns (st' := [.long (i64 r2)]) rfl ?_
  refine Tm_step (S' := (915, [(6, .long (i64 r2)), (5, .int (i32 r1)), (4, .int (i32 i)), (3, .ref 326), (2, .ref 189), (1, .ref 0), (0, .ref 1000000)], [], (khp K1 (mhp M2 c1), N1), _, _)) rfl (fun _ => rfl) ?_
  refine T_goto 983 rfl (fun _ => rfl) ?_
  refine Tm_lv (a := LV i) (b := [(6, .long (i64 r2)), (5, .int (i32 r1)), (4, .int (i32 i)), (3, .ref 326), (2, .ref 189), (1, .ref 0), (0, .ref 1000000)]) rfl rfl ⟨rfl, rfl, rfl, rfl, rfl, trivial⟩ (H K1 M2 (mhp M2 c1) N1 _ _ ⟨⟨TK1, TM, IK1, (IM_f hIM (show i ≤ i + 6 by omega) FM rfl), mhp_id, (show ∃ F, mhp M2 c1 326 = some (ocl F) from by rw [mhp_lo (by omega)]; exact oc1.2), F1, by omega, by omega, by omega, by omega⟩, (RX_f hRel (show fr [] [] K K1 by rw [show K1 = K from P1]; exact fr_0) TK1 FM TM rfl rfl rfl rfl), (TM_fr hTM (show fr [] [] K K1 by rw [show K1 = K from P1]; exact fr_0) FM rfl rfl rfl rfl), (PQs_fr hRel hM hIM hPQ (show fr [] [] K K1 by rw [show K1 = K from P1]; exact fr_0) FM rfl rfl rfl rfl)⟩)
set_option maxHeartbeats 4000000 in
theorem lw_18 {w : wX} {L : Nat} {xs : Nat → Int32} {Q : ag_Re af_T → Prop} {K m : mR} {c : Nat → Option am_C} {N nc ns : Nat} {i : Int} (hX : w.1 = (some L, fun j => some (xs j))) (h0 : 0 ≤ i) (h1 : i + 6 ≤ L) (hL : L ≤ 3072) (hI : LI4 i K m c N nc ns) (H : ∀ K m c N nc ns, LI4 (i + 6) K m c N nc ns → TT w 17 pm_0 (983, LV i, [], (khp K c, N), nc, ns) Q) : TT w 17 pm_0 (918, LV i, [], (khp K c, N), nc, ns) Q := by
  obtain ⟨⟨hK, hM, hIK, hIM, hm, hc, hF, hN, hN2, hn1, hn2⟩, hRel, hTM, hPQ⟩ := hI
  obtain ⟨m_ct, m_pth, m_pld, m_hNM0, m_hFA0, m_hPA0, m_hHB0, m_wCN, m_wSO, m_wSt, m_wTd, m_wAc, m_wTb, m_wIN, m_wHO, m_wAR, m_wSp, m_wEM, m_wNA, m_hEMp, m_hEAp, m_hLT, m_pin, m_pou⟩ := id hIM
  refine T_ld 919 (.ref 0) rfl (fun _ => rfl) ?_
  refine T_ld 920 (.ref 1000000) rfl (fun _ => rfl) ?_
  refine T_ld 922 (.int (i32 i)) rfl (fun _ => rfl) ?_
  refine T_ld 923 (.int (i32 1)) rfl (fun _ => rfl) ?_
  refine T_iadd 924 rfl rfl ?_
  refine L_sl 925 rfl hX (by omega) (by omega) hL rfl ?_
  refine T_ld 926 (.ref 1000000) rfl (fun _ => rfl) ?_
  refine T_ld 928 (.int (i32 i)) rfl (fun _ => rfl) ?_
  refine T_ld 929 (.int (i32 2)) rfl (fun _ => rfl) ?_
  refine T_iadd 930 rfl rfl ?_
  refine L_sl 931 rfl hX (by omega) (by omega) hL rfl ?_
  refine T_ld 932 (.ref 326) rfl (fun _ => rfl) ?_
  refine T_callx 935 204 [.ref 0, .int (i32 (sx xs (i + 1))), .int (i32 (sx xs (i + 2))), .ref 326] [] rfl (fun _ => rfl) rfl rfl (h_entries w K c N 17 (by omega) hK i (i + 6) h0 (by omega) hIK rfl hc hF ⟨by omega, by omega⟩ (sx xs (i + 1)) (sx_r _ _) (sx xs (i + 2)) (sx_r _ _)) (fun rr1 hr2 => ?_)
  obtain ⟨K1, c1, N1, k1, n1, r1, TK1, IK1, oc1, F1, b1, ⟨g1, P1⟩, rfl⟩ := hr2
  refine Or.inl ⟨_, _, _, _, rfl, ?_⟩
  obtain ⟨g1a, g1b⟩ := g1
  refine T_ns (st' := [.int (i32 r1)]) rfl ?_
  obtain ⟨y, hy, cK, hk, fK, hout⟩ := P1
  refine Tm_step (S' := (937, [(5, .int (i32 r1)), (4, .int (i32 i)), (3, .ref 326), (2, .ref 189), (1, .ref 0), (0, .ref 1000000)], [], (khp K1 c1, N1), _, _)) rfl (fun _ => rfl) ?_
  refine T_ld 938 (.ref 189) rfl (fun _ => rfl) ?_
  refine T_ld 939 (.ref 1000000) rfl (fun _ => rfl) ?_
  refine T_ld 941 (.int (i32 i)) rfl (fun _ => rfl) ?_
  refine T_ld 942 (.int (i32 1)) rfl (fun _ => rfl) ?_
  refine T_iadd 943 rfl rfl ?_
  refine L_sl 944 rfl hX (by omega) (by omega) hL rfl ?_
  refine T_ld 945 (.ref 1000000) rfl (fun _ => rfl) ?_
  refine T_ld 947 (.int (i32 i)) rfl (fun _ => rfl) ?_
  refine T_ld 948 (.int (i32 2)) rfl (fun _ => rfl) ?_
  refine T_iadd 949 rfl rfl ?_
  refine L_sl 950 rfl hX (by omega) (by omega) hL rfl ?_
  refine L_ref (m := m) 953 347 [.int (i32 (sx xs (i + 2))), .int (i32 (sx xs (i + 1)))] [] rfl rfl rfl rfl rfl rfl rfl TK1 (OC_m oc1 hm) (Tc_a (c_entries w m (khp K1 c1) N1 17 (by omega) hM (sx xs (i + 1)) (sx xs (i + 2)) (sx_r _ _) (sx_r _ _) m_wCN m_wSO m_wSt m_wTd m_wAc m_wTb m_wIN m_wHO m_wAR m_wSp m_wEM m_wNA m_pth) (D_entries w m (khp K1 c1) N1 17 (Ty_C hM) (sx xs (i + 1)) (sx xs (i + 2)) (sx_r _ _) (sx_r _ _))) (fun rr3 hr4 => ?_)
  obtain ⟨hr4, z, hz, hzr⟩ := hr4
  obtain ⟨M2, r2, TM, FM, g2, rfl⟩ := hr4
  refine ⟨_, M2, rfl, ?_⟩
  refine T_ns (st' := [.int (i32 r2)]) rfl ?_
  obtain ⟨z1, hmm, cM⟩ := FR1_n (a := r2) ⟨by omega, by omega⟩ hzr
  obtain ⟨x1, x2, x3, x4, x5, x6, x7⟩ := RX_fa hRel
  have l149 : 0 ≤ m.1 149 := (hM.1 149).1
  have hen := ent_q hPQ.2.2 (fun q9 => (RX_GV hRel hIM q9).1) x1 x7 x5 hTM.1 (hM.1 151).1 m_pou (by omega) m_pth y z hy hz
  have e1 : M2.1 1 = z.2.1 1 := HMf hmm (by decide) (by decide) ((Ty_V TM).1 1) (cM.1 1)
  have hth : M2.1 1 = r1 := by
    rcases hout with ⟨u1, u2, -⟩ | ⟨u1, u2⟩ <;> rcases hen with ⟨t1, t2, -⟩ | ⟨t1, t2⟩ <;> omega
  have hval : r1 = 0 → ∃ F, c1 326 = some (ocl F) ∧ F 0 = i64 r2 ∧ R64 r2 := fun e9 => by
    rcases hout with ⟨u1, u2, Fo, o1, o2, o3⟩ | ⟨u1, u2⟩
    · rcases hen with ⟨t1, t2, t3⟩ | ⟨t1, t2⟩
      · rw [t3, z1] at o2 o3
        exact ⟨Fo, o1, o2, o3⟩
      · exact absurd (u2.symm.trans t1) (by decide)
    · exact absurd (u1.symm.trans e9) (by decide)
  refine Tm_step (S' := (955, [(6, .int (i32 r2)), (5, .int (i32 r1)), (4, .int (i32 i)), (3, .ref 326), (2, .ref 189), (1, .ref 0), (0, .ref 1000000)], [], (khp K1 (mhp M2 c1), N1), _, _)) rfl (fun _ => rfl) ?_
  refine T_goto 983 rfl (fun _ => rfl) ?_
  refine Tm_lv (a := LV i) (b := [(6, .int (i32 r2)), (5, .int (i32 r1)), (4, .int (i32 i)), (3, .ref 326), (2, .ref 189), (1, .ref 0), (0, .ref 1000000)]) rfl rfl ⟨rfl, rfl, rfl, rfl, rfl, trivial⟩ (H K1 M2 (mhp M2 c1) N1 _ _ ⟨⟨TK1, TM, IK1, (IM_f hIM (show i ≤ i + 6 by omega) FM rfl), mhp_id, (show ∃ F, mhp M2 c1 326 = some (ocl F) from by rw [mhp_lo (by omega)]; exact oc1.2), F1, by omega, by omega, by omega, by omega⟩, (RX_f hRel fK TK1 FM TM rfl rfl rfl rfl), (TM_fr hTM fK FM rfl rfl rfl rfl), (PQs_fr hRel hM hIM hPQ fK FM rfl rfl rfl rfl)⟩)
set_option maxHeartbeats 4000000 in
theorem lw_19 {w : wX} {L : Nat} {xs : Nat → Int32} {Q : ag_Re af_T → Prop} {K m : mR} {c : Nat → Option am_C} {N nc ns : Nat} {i : Int} (hX : w.1 = (some L, fun j => some (xs j))) (h0 : 0 ≤ i) (h1 : i + 6 ≤ L) (hL : L ≤ 3072) (hI : LI4 i K m c N nc ns) (H : ∀ K m c N nc ns, LI4 (i + 6) K m c N nc ns → TT w 17 pm_0 (983, LV i, [], (khp K c, N), nc, ns) Q) : TT w 17 pm_0 (958, LV i, [], (khp K c, N), nc, ns) Q := by
  obtain ⟨⟨hK, hM, hIK, hIM, hm, hc, hF, hN, hN2, hn1, hn2⟩, hRel, hTM, hPQ⟩ := hI
  obtain ⟨m_ct, m_pth, m_pld, m_hNM0, m_hFA0, m_hPA0, m_hHB0, m_wCN, m_wSO, m_wSt, m_wTd, m_wAc, m_wTb, m_wIN, m_wHO, m_wAR, m_wSp, m_wEM, m_wNA, m_hEMp, m_hEAp, m_hLT, m_pin, m_pou⟩ := id hIM
  refine T_ld 959 (.ref 0) rfl (fun _ => rfl) ?_
  refine T_ld 960 (.ref 1000000) rfl (fun _ => rfl) ?_
  refine T_ld 962 (.int (i32 i)) rfl (fun _ => rfl) ?_
  refine T_ld 963 (.int (i32 1)) rfl (fun _ => rfl) ?_
  refine T_iadd 964 rfl rfl ?_
  refine L_sl 965 rfl hX (by omega) (by omega) hL rfl ?_
  refine T_callx 968 39 [.ref 0, .int (i32 (sx xs (i + 1)))] [] rfl (fun _ => rfl) rfl rfl (c_pw_count w K c N 17 (by omega) hK (sx xs (i + 1)) (sx_r _ _)) (fun rr1 hr2 => ?_)
  obtain ⟨r1, g1, rfl⟩ := hr2
  refine Or.inl ⟨_, _, _, _, rfl, ?_⟩
  refine T_ns (st' := [.int (i32 r1)]) rfl ?_
  refine T_pop 969 rfl (fun _ => rfl) ?_
  refine T_ld 970 (.ref 189) rfl (fun _ => rfl) ?_
  refine T_ld 971 (.ref 1000000) rfl (fun _ => rfl) ?_
  refine T_ld 973 (.int (i32 i)) rfl (fun _ => rfl) ?_
  refine T_ld 974 (.int (i32 1)) rfl (fun _ => rfl) ?_
  refine T_iadd 975 rfl rfl ?_
  refine L_sl 976 rfl hX (by omega) (by omega) hL rfl ?_
  refine L_ref (m := m) 979 348 [.int (i32 (sx xs (i + 1)))] [] rfl rfl rfl rfl rfl rfl rfl hK hm (c_count w m (khp K c) N 17 (by omega) hM (sx xs (i + 1)) (sx_r _ _) ) (fun rr3 hr4 => ?_)
  obtain ⟨M2, r2, TM, FM, g2, rfl⟩ := hr4
  refine ⟨_, M2, rfl, ?_⟩
  refine T_ns (st' := [.int (i32 r2)]) rfl ?_
  refine T_pop 980 rfl (fun _ => rfl) ?_
  refine T_goto 983 rfl (fun _ => rfl) ?_
  refine Tm_lv (a := LV i) (b := [(4, .int (i32 i)), (3, .ref 326), (2, .ref 189), (1, .ref 0), (0, .ref 1000000)]) rfl rfl ⟨rfl, rfl, rfl, rfl, rfl, trivial⟩ (H K M2 (mhp M2 c) N _ _ ⟨⟨hK, TM, (IK_i hIK (show i ≤ i + 6 by omega)), (IM_f hIM (show i ≤ i + 6 by omega) FM rfl), mhp_id, (show ∃ F, mhp M2 c 326 = some (ocl F) from by rw [mhp_lo (by omega)]; exact hc), hF, by omega, by omega, by omega, by omega⟩, (RX_f hRel (fr_0 (u := []) (v := [])) hK FM TM rfl rfl rfl rfl), (TM_fr hTM (fr_0 (u := []) (v := [])) FM rfl rfl rfl rfl), (PQs_fr hRel hM hIM hPQ (fr_0 (u := []) (v := [])) FM rfl rfl rfl rfl)⟩)
