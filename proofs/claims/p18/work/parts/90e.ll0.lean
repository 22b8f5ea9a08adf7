set_option maxHeartbeats 4000000 in
theorem lw_0 {w : wX} {L : Nat} {xs : Nat → Int32} {Q : ag_Re af_T → Prop} {K m : mR} {c : Nat → Option am_C} {N nc ns : Nat} {i : Int} (hX : w.1 = (some L, fun j => some (xs j))) (h0 : 0 ≤ i) (h1 : i + 6 ≤ L) (hL : L ≤ 3072) (hI : LI5 i K m c N nc ns) (H : ∀ K m c N nc ns, LI5 (i + 6) K m c N nc ns → TT w 17 pm_0 (955, LV i, [], (khp K c, N), nc, ns) Q) : TT w 17 pm_0 (136, LV i, [], (khp K c, N), nc, ns) Q := by
  obtain ⟨⟨hK, hM, hIK, hIM, hm, hc, hF, hN, hN2, hn1, hn2⟩, hRel, hTM, hPQ, hPJ⟩ := hI
  obtain ⟨Kp, mp, hA, hB, hR, hG⟩ := id hRel
  obtain ⟨m_ct, m_pth, m_pld, m_hNM0, m_hFA0, m_hPA0, m_hHB0, m_wCN, m_wSO, m_wSt, m_wTd, m_wAc, m_wTb, m_wIN, m_wHO, m_wAR, m_wSp, m_wEM, m_wNA, m_hEMp, m_hEAp, m_hLT, m_pin, m_pou⟩ := id hIM
  refine T_ld 137 (.ref 0) rfl (fun _ => rfl) ?_
  refine T_ld 138 (.ref 1000000) rfl (fun _ => rfl) ?_
  refine T_ld 140 (.int (i32 i)) rfl (fun _ => rfl) ?_
  refine T_ld 141 (.int (i32 1)) rfl (fun _ => rfl) ?_
  refine T_iadd 142 rfl rfl ?_
  refine L_sl 143 rfl hX (by omega) (by omega) hL rfl ?_
  refine T_ld 144 (.ref 1000000) rfl (fun _ => rfl) ?_
  refine T_ld 146 (.int (i32 i)) rfl (fun _ => rfl) ?_
  refine T_ld 147 (.int (i32 2)) rfl (fun _ => rfl) ?_
  refine T_iadd 148 rfl rfl ?_
  refine L_sl 149 rfl hX (by omega) (by omega) hL rfl ?_
  refine T_ld 150 (.ref 1000000) rfl (fun _ => rfl) ?_
  refine T_ld 152 (.int (i32 i)) rfl (fun _ => rfl) ?_
  refine T_ld 153 (.int (i32 3)) rfl (fun _ => rfl) ?_
  refine T_iadd 154 rfl rfl ?_
  refine L_sl 155 rfl hX (by omega) (by omega) hL rfl ?_
  refine T_ld 156 (.ref 1000000) rfl (fun _ => rfl) ?_
  refine T_ld 158 (.int (i32 i)) rfl (fun _ => rfl) ?_
  refine T_ld 159 (.int (i32 4)) rfl (fun _ => rfl) ?_
  refine T_iadd 160 rfl rfl ?_
  refine L_sl 161 rfl hX (by omega) (by omega) hL rfl ?_
  refine T_ld 162 (.ref 1000000) rfl (fun _ => rfl) ?_
  refine T_ld 164 (.int (i32 i)) rfl (fun _ => rfl) ?_
  refine T_ld 165 (.int (i32 5)) rfl (fun _ => rfl) ?_
  refine T_iadd 166 rfl rfl ?_
  refine L_sl 167 rfl hX (by omega) (by omega) hL rfl ?_
  refine T_callx 170 23 [.ref 0, .int (i32 (sx xs (i + 1))), .int (i32 (sx xs (i + 2))), .int (i32 (sx xs (i + 3))), .int (i32 (sx xs (i + 4))), .int (i32 (sx xs (i + 5)))] [] rfl (fun _ => rfl) rfl rfl (Tc_a (c_pw_feed w K c N 17 (by omega) hK (sx xs (i + 1)) (sx xs (i + 2)) (sx xs (i + 3)) (sx xs (i + 4)) (sx xs (i + 5)) (sx_r _ _) (sx_r _ _) (sx_r _ _) (sx_r _ _) (sx_r _ _)) (D_k hA (D_pw_feed w Kp c N 17 (AGk_C hA hK) (sx xs (i + 1)) (sx xs (i + 2)) (sx xs (i + 3)) (sx xs (i + 4)) (sx xs (i + 5)) (sx_r _ _) (sx_r _ _) (sx_r _ _) (sx_r _ _) (sx_r _ _)))) (fun rr1 hr2 => ?_)
  obtain ⟨hr2, y, hy, hyr⟩ := hr2
  obtain ⟨K1, TK1, FK1, rfl⟩ := hr2
  refine Or.inl ⟨_, _, _, _, rfl, ?_⟩
  refine T_ns (st' := []) rfl ?_
  obtain ⟨hk, cK⟩ := FK0_n hyr
  refine T_ld 171 (.ref 189) rfl (fun _ => rfl) ?_
  refine T_ld 172 (.ref 1000000) rfl (fun _ => rfl) ?_
  refine T_ld 174 (.int (i32 i)) rfl (fun _ => rfl) ?_
  refine T_ld 175 (.int (i32 1)) rfl (fun _ => rfl) ?_
  refine T_iadd 176 rfl rfl ?_
  refine L_sl 177 rfl hX (by omega) (by omega) hL rfl ?_
  refine T_ld 178 (.ref 1000000) rfl (fun _ => rfl) ?_
  refine T_ld 180 (.int (i32 i)) rfl (fun _ => rfl) ?_
  refine T_ld 181 (.int (i32 2)) rfl (fun _ => rfl) ?_
  refine T_iadd 182 rfl rfl ?_
  refine L_sl 183 rfl hX (by omega) (by omega) hL rfl ?_
  refine T_ld 184 (.ref 1000000) rfl (fun _ => rfl) ?_
  refine T_ld 186 (.int (i32 i)) rfl (fun _ => rfl) ?_
  refine T_ld 187 (.int (i32 3)) rfl (fun _ => rfl) ?_
  refine T_iadd 188 rfl rfl ?_
  refine L_sl 189 rfl hX (by omega) (by omega) hL rfl ?_
  refine T_ld 190 (.ref 1000000) rfl (fun _ => rfl) ?_
  refine T_ld 192 (.int (i32 i)) rfl (fun _ => rfl) ?_
  refine T_ld 193 (.int (i32 4)) rfl (fun _ => rfl) ?_
  refine T_iadd 194 rfl rfl ?_
  refine L_sl 195 rfl hX (by omega) (by omega) hL rfl ?_
  refine T_ld 196 (.ref 1000000) rfl (fun _ => rfl) ?_
  refine T_ld 198 (.int (i32 i)) rfl (fun _ => rfl) ?_
  refine T_ld 199 (.int (i32 5)) rfl (fun _ => rfl) ?_
  refine T_iadd 200 rfl rfl ?_
  refine L_sl 201 rfl hX (by omega) (by omega) hL rfl ?_
  refine L_ref (m := m) 204 208 [.int (i32 (sx xs (i + 5))), .int (i32 (sx xs (i + 4))), .int (i32 (sx xs (i + 3))), .int (i32 (sx xs (i + 2))), .int (i32 (sx xs (i + 1)))] [] rfl rfl rfl rfl rfl rfl rfl TK1 hm (Tc_a (c_feed w m (khp K1 c) N 17 (by omega) hM (sx xs (i + 1)) (sx xs (i + 2)) (sx xs (i + 3)) (sx xs (i + 4)) (sx xs (i + 5)) (sx_r _ _) (sx_r _ _) (sx_r _ _) (sx_r _ _) (sx_r _ _) ) (D_m hB (D_feed w mp (khp K1 c) N 17 (AGm_C hB hM) (sx xs (i + 1)) (sx xs (i + 2)) (sx xs (i + 3)) (sx xs (i + 4)) (sx xs (i + 5)) (sx_r _ _) (sx_r _ _) (sx_r _ _) (sx_r _ _) (sx_r _ _)))) (fun rr3 hr4 => ?_)
  obtain ⟨hr4, z, hz, hzr⟩ := hr4
  obtain ⟨M2, TM, FM, rfl⟩ := hr4
  refine ⟨_, M2, rfl, ?_⟩
  refine T_ns (st' := []) rfl ?_
  obtain ⟨hmm, cM⟩ := FR0_n hzr
  have hRX : RX K1 M2 := RX_feed hA hB hR hG hy hz cK cM hk hmm FK1 TK1 FM TM
  refine T_goto 955 rfl (fun _ => rfl) ?_
  refine Tm_lv (a := LV i) (b := [(4, .int (i32 i)), (3, .ref 326), (2, .ref 189), (1, .ref 0), (0, .ref 1000000)]) rfl rfl ⟨rfl, rfl, rfl, rfl, rfl, trivial⟩ (H K1 M2 (mhp M2 c) N _ _ ⟨⟨TK1, TM, (IK_f hIK (show i ≤ i + 6 by omega) FK1 rfl), (IM_f hIM (show i ≤ i + 6 by omega) FM rfl), mhp_id, (show ∃ F, mhp M2 c 326 = some (ocl F) from by rw [mhp_lo (by omega)]; exact hc), (FR_c (fr2 FK1 108 rfl) hF), by omega, by omega, by omega, by omega⟩, hRX, (TM_fr hTM FK1 FM rfl rfl rfl rfl), (PQs_fr hRel hM hIM hPQ FK1 FM rfl rfl rfl rfl), (PJs_fr hPJ (hM.1 151).1 m_pld FK1 TK1 FM TM (by decide +kernel) (by decide +kernel) (by decide +kernel) (by decide +kernel) (by decide +kernel) (by decide +kernel) (by decide +kernel) (by decide +kernel))⟩)
set_option maxHeartbeats 4000000 in
theorem lw_1 {w : wX} {L : Nat} {xs : Nat → Int32} {Q : ag_Re af_T → Prop} {K m : mR} {c : Nat → Option am_C} {N nc ns : Nat} {i : Int} (hX : w.1 = (some L, fun j => some (xs j))) (h0 : 0 ≤ i) (h1 : i + 6 ≤ L) (hL : L ≤ 3072) (hI : LI5 i K m c N nc ns) (H : ∀ K m c N nc ns, LI5 (i + 6) K m c N nc ns → TT w 17 pm_0 (955, LV i, [], (khp K c, N), nc, ns) Q) : TT w 17 pm_0 (207, LV i, [], (khp K c, N), nc, ns) Q := by
  obtain ⟨⟨hK, hM, hIK, hIM, hm, hc, hF, hN, hN2, hn1, hn2⟩, hRel, hTM, hPQ, hPJ⟩ := hI
  obtain ⟨Kp, mp, hA, hB, hR, hG⟩ := id hRel
  obtain ⟨m_ct, m_pth, m_pld, m_hNM0, m_hFA0, m_hPA0, m_hHB0, m_wCN, m_wSO, m_wSt, m_wTd, m_wAc, m_wTb, m_wIN, m_wHO, m_wAR, m_wSp, m_wEM, m_wNA, m_hEMp, m_hEAp, m_hLT, m_pin, m_pou⟩ := id hIM
  refine T_ld 208 (.ref 0) rfl (fun _ => rfl) ?_
  refine T_ld 209 (.ref 1000000) rfl (fun _ => rfl) ?_
  refine T_ld 211 (.int (i32 i)) rfl (fun _ => rfl) ?_
  refine T_ld 212 (.int (i32 1)) rfl (fun _ => rfl) ?_
  refine T_iadd 213 rfl rfl ?_
  refine L_sl 214 rfl hX (by omega) (by omega) hL rfl ?_
  refine T_callx 217 24 [.ref 0, .int (i32 (sx xs (i + 1)))] [] rfl (fun _ => rfl) rfl rfl (Tc_a (c_pw_end w K c N 17 (by omega) hK (sx xs (i + 1)) (sx_r _ _)) (D_k hA (D_pw_end w Kp c N 17 (AGk_C hA hK) (sx xs (i + 1)) (sx_r _ _)))) (fun rr1 hr2 => ?_)
  obtain ⟨hr2, y, hy, hyr⟩ := hr2
  obtain ⟨K1, r1, TK1, FK1, g1, rfl⟩ := hr2
  refine Or.inl ⟨_, _, _, _, rfl, ?_⟩
  refine T_ns (st' := [.int (i32 r1)]) rfl ?_
  obtain ⟨y1, hk, cK⟩ := FK1_n (a := r1) ⟨by omega, by omega⟩ hyr
  refine T_pop 218 rfl (fun _ => rfl) ?_
  refine T_ld 219 (.ref 189) rfl (fun _ => rfl) ?_
  refine T_ld 220 (.ref 1000000) rfl (fun _ => rfl) ?_
  refine T_ld 222 (.int (i32 i)) rfl (fun _ => rfl) ?_
  refine T_ld 223 (.int (i32 1)) rfl (fun _ => rfl) ?_
  refine T_iadd 224 rfl rfl ?_
  refine L_sl 225 rfl hX (by omega) (by omega) hL rfl ?_
  refine L_ref (m := m) 228 209 [.int (i32 (sx xs (i + 1)))] [] rfl rfl rfl rfl rfl rfl rfl TK1 hm (Tc_a (c_end w m (khp K1 c) N 17 (by omega) hM (sx xs (i + 1)) (sx_r _ _) ) (D_m hB (D_end w mp (khp K1 c) N 17 (AGm_C hB hM) (sx xs (i + 1)) (sx_r _ _)))) (fun rr3 hr4 => ?_)
  obtain ⟨hr4, z, hz, hzr⟩ := hr4
  obtain ⟨M2, r2, TM, FM, g2, rfl⟩ := hr4
  refine ⟨_, M2, rfl, ?_⟩
  refine T_ns (st' := [.int (i32 r2)]) rfl ?_
  obtain ⟨z1, hmm, cM⟩ := FR1_n (a := r2) ⟨by omega, by omega⟩ hzr
  obtain ⟨hRX, heq⟩ := RX_end hA hB hR hG hy hz cK cM hk hmm FK1 TK1 FM TM
  rw [y1, z1] at heq
  refine T_pop 229 rfl (fun _ => rfl) ?_
  refine T_goto 955 rfl (fun _ => rfl) ?_
  refine Tm_lv (a := LV i) (b := [(4, .int (i32 i)), (3, .ref 326), (2, .ref 189), (1, .ref 0), (0, .ref 1000000)]) rfl rfl ⟨rfl, rfl, rfl, rfl, rfl, trivial⟩ (H K1 M2 (mhp M2 c) N _ _ ⟨⟨TK1, TM, (IK_f hIK (show i ≤ i + 6 by omega) FK1 rfl), (IM_f hIM (show i ≤ i + 6 by omega) FM rfl), mhp_id, (show ∃ F, mhp M2 c 326 = some (ocl F) from by rw [mhp_lo (by omega)]; exact hc), (FR_c (fr2 FK1 108 rfl) hF), by omega, by omega, by omega, by omega⟩, hRX, (TM_fr hTM FK1 FM rfl rfl rfl rfl), (PQs_fr hRel hM hIM hPQ FK1 FM rfl rfl rfl rfl), (PJs_fr hPJ (hM.1 151).1 m_pld FK1 TK1 FM TM (by decide +kernel) (by decide +kernel) (by decide +kernel) (by decide +kernel) (by decide +kernel) (by decide +kernel) (by decide +kernel) (by decide +kernel))⟩)
set_option maxHeartbeats 4000000 in
theorem lw_2 {w : wX} {L : Nat} {xs : Nat → Int32} {Q : ag_Re af_T → Prop} {K m : mR} {c : Nat → Option am_C} {N nc ns : Nat} {i : Int} (hsio : (w.2.2.2).category = 1) (hX : w.1 = (some L, fun j => some (xs j))) (h0 : 0 ≤ i) (h1 : i + 6 ≤ L) (hL : L ≤ 3072) (hI : LI5 i K m c N nc ns) (H : ∀ K m c N nc ns, LI5 (i + 6) K m c N nc ns → TT w 17 pm_0 (955, LV i, [], (khp K c, N), nc, ns) Q) : TT w 17 pm_0 (232, LV i, [], (khp K c, N), nc, ns) Q := by
  obtain ⟨⟨hK, hM, hIK, hIM, hm, hc, hF, hN, hN2, hn1, hn2⟩, hRel, hTM, hPQ, hPJ⟩ := hI
  obtain ⟨Kp, mp, hA, hB, hR, hG⟩ := id hRel
  obtain ⟨m_ct, m_pth, m_pld, m_hNM0, m_hFA0, m_hPA0, m_hHB0, m_wCN, m_wSO, m_wSt, m_wTd, m_wAc, m_wTb, m_wIN, m_wHO, m_wAR, m_wSp, m_wEM, m_wNA, m_hEMp, m_hEAp, m_hLT, m_pin, m_pou⟩ := id hIM
  refine T_ld 233 (.ref 0) rfl (fun _ => rfl) ?_
  refine T_ld 234 (.ref 326) rfl (fun _ => rfl) ?_
  refine T_callx 237 42 [.ref 0, .ref 326] [] rfl (fun _ => rfl) rfl rfl (h_read w K c N 17 (by omega) hK i (i + 6) h0 (by omega) hIK rfl hc hF ⟨by omega, by omega⟩ hsio Kp hA ) (fun rr1 hr2 => ?_)
  obtain ⟨K1, c1, N1, k1, n1, r1, TK1, IK1, oc1, F1, b1, ⟨g1, P1⟩, rfl⟩ := hr2
  refine Or.inl ⟨_, _, _, _, rfl, ?_⟩
  obtain ⟨g1a, g1b⟩ := g1
  refine T_ns (st' := [.int (i32 r1)]) rfl ?_
  obtain ⟨hzc, hz0, y, hy, cK, hk, fK, hout⟩ := P1
  refine Tm_step (S' := (239, [(5, .int (i32 r1)), (4, .int (i32 i)), (3, .ref 326), (2, .ref 189), (1, .ref 0), (0, .ref 1000000)], [], (khp K1 c1, N1), _, _)) rfl (fun _ => rfl) ?_
  refine T_ld 240 (.ref 189) rfl (fun _ => rfl) ?_
  refine L_ref (m := m) 243 210 [] [] rfl rfl rfl rfl rfl rfl rfl TK1 (OC_m oc1 hm) (Tc_a (c_read w m (khp K1 c1) N1 17 (by omega) hM  m_hNM0 m_hFA0 m_hPA0 m_hHB0) (D_m hB (D_read w mp (khp K1 c1) N1 17 (AGm_C hB hM) ))) (fun rr3 hr4 => ?_)
  obtain ⟨hr4, z, hz, hzr⟩ := hr4
  obtain ⟨M2, r2, TM, FM, g2, pq0, pq1, pq2, pq3, pq4, pq5, pq6, pq7, pq8, pq9, pq10, pq11, pq12, pq13, pq14, pq15, pq16, pq17, pq18, pq19, pq20, pq21, pq22, pq23, pq24, rfl⟩ := hr4
  refine ⟨_, M2, rfl, ?_⟩
  refine T_ns (st' := [.int (i32 r2)]) rfl ?_
  obtain ⟨z1, hmm, cM⟩ := FR1_n (a := r2) ⟨by omega, by omega⟩ hzr
  obtain ⟨hRX, hcmp⟩ := RX_read hA hB hR hG hy hz cK cM hk hmm fK TK1 FM TM
  have hth : M2.1 1 = r1 := by
    rcases hout with ⟨u1, u2, -⟩ | ⟨u1, u2⟩ <;> rcases hcmp with ⟨t1, t2, -⟩ | ⟨t1, t2⟩ <;> omega
  have hval : r1 = 0 → ∃ F, c1 326 = some (ocl F) ∧ F 0 = i64 r2 ∧ R64 r2 := fun e9 => by
    rcases hout with ⟨u1, u2, Fo, o1, o2, o3⟩ | ⟨u1, u2⟩
    · rcases hcmp with ⟨t1, t2, t3⟩ | ⟨t1, t2⟩
      · rw [t3, z1] at o2 o3
        exact ⟨Fo, o1, o2, o3⟩
      · exact absurd u2 t1
    · exact absurd (u1.symm.trans e9) (by decide)
  have hBg := pq12
  have him : IM (i + 6) M2 := ⟨(show (M2.1 148) ≤ (i + 6) ∧ (M2.1 152) ≤ 20 * (i + 6) by omega), (show (M2.1 127) = 0 ∨ (M2.1 127) = 1 by omega), (show (M2.1 128) = 1 → (M2.1 127) = 1 by omega), (show ∀ k, (M2.2 14) k + (M2.2 15) k ≤ 4000 by exact pq0), (show ∀ k, (M2.2 31) k + (M2.2 32) k ≤ 4000 by exact pq1), (show ∀ k, (M2.2 47) k + (M2.2 48) k ≤ 4000 by exact pq2), (show HBi (M2.2 29) (M2.2 30) (M2.2 33) by exact pq3), (show (M2.1 127) = 1 → CN (M2.2 65) (M2.2 67) (M2.1 28) by exact pq13), (show (M2.1 127) = 1 → SOp (M2.2 38) (M2.1 23) (M2.1 24) by exact pq14), (show (M2.1 127) = 1 → StP (M2.2 65) (M2.1 28) (M2.1 23) (M2.1 24) (M2.2 42) (M2.2 95) (M2.2 96) (M2.2 44) (M2.2 45) by exact pq15), (show (M2.1 127) = 1 → TdP (M2.2 65) (M2.1 28) (M2.1 22) (M2.1 99) (M2.2 101) (M2.2 103) (M2.2 105) (M2.2 106) (M2.2 107) (M2.2 108) by exact pq16), (show (M2.1 127) = 1 → AcP (M2.1 25) (M2.1 99) (M2.2 109) (M2.2 50) by exact pq17), (show (M2.1 127) = 1 → TbP (M2.2 65) (M2.1 28) (M2.1 25) (M2.1 26) (M2.2 51) (M2.2 110) (M2.2 111) (M2.2 57) (M2.2 53) (M2.2 114) (M2.2 58) (M2.2 54) by exact pq18), (show (M2.1 127) = 1 → ∀ k, 0 ≤ k → k < (M2.1 20) → (M2.2 34) k < (M2.1 19) by exact pq19), (show (M2.1 127) = 1 → ∀ g, 0 ≤ g → g < (M2.1 19) → (M2.2 30) g ≤ 512 by exact pq20), (show (M2.1 127) = 1 → ∀ k, 0 ≤ k → k < (M2.1 22) → 1 ≤ (M2.2 93) k ∧ 1 ≤ (M2.2 36) k by exact pq21), (show (M2.1 127) = 1 → SpP (M2.2 65) (M2.1 28) (M2.1 99) (M2.1 26) (M2.1 27) (M2.2 60) (M2.2 61) (M2.2 120) (M2.2 121) (M2.2 122) (M2.2 63) by exact pq22), (show (M2.1 127) = 1 → ∀ j, 0 ≤ j → j < (M2.1 125) → (M2.2 124) j < (M2.1 20) by exact pq23), (show (M2.1 127) = 1 → ∀ q, 0 ≤ q → q < (M2.1 24) → 0 < (M2.2 41) q ∨ NR (M2.2 44) (M2.2 38) (M2.2 42) (M2.2 45) (M2.2 41) (M2.1 24) q by exact pq24), (show EMp (M2.1 26) (M2.2 139) (M2.2 58) (M2.2 54) by exact fun t9 a9 b9 => by have r8 : M2.1 26 ≤ 8 := (TM.1 26).2; have e9 := hBg t9 a9 (by omega); have r9 : (0 : Int) ≤ M2.2 54 t9 := (TM.2.1 54 t9).1; exact ⟨by omega, fun _ => by omega⟩), (show EAp (M2.1 25) (M2.2 139) (M2.2 141) by rw [fr2 FM 141 rfl]; exact fun t9 e9 a9 b9 c9 d9 => by have q9 := hBg t9 a9 b9; omega), (show ∀ k, 0 ≤ k → k < (M2.1 149) → 0 < (M2.2 153) k → (M2.2 156) k < (M2.1 26) by rw [fr2 FM 153 rfl, fr2 FM 156 rfl]; exact fun k9 a9 b9 => by omega), (show (M2.1 150) + (M2.1 149) = (M2.1 148) by omega), (show (M2.1 151) ≤ (M2.1 150) by omega)⟩
  refine Tm_step (S' := (245, [(6, .int (i32 r2)), (5, .int (i32 r1)), (4, .int (i32 i)), (3, .ref 326), (2, .ref 189), (1, .ref 0), (0, .ref 1000000)], [], (khp K1 (mhp M2 c1), N1), _, _)) rfl (fun _ => rfl) ?_
  refine T_goto 955 rfl (fun _ => rfl) ?_
  refine Tm_lv (a := LV i) (b := [(6, .int (i32 r2)), (5, .int (i32 r1)), (4, .int (i32 i)), (3, .ref 326), (2, .ref 189), (1, .ref 0), (0, .ref 1000000)]) rfl rfl ⟨rfl, rfl, rfl, rfl, rfl, trivial⟩ (H K1 M2 (mhp M2 c1) N1 _ _ ⟨⟨TK1, TM, IK1, him, mhp_id, (show ∃ F, mhp M2 c1 326 = some (ocl F) from by rw [mhp_lo (by omega)]; exact oc1.2), F1, by omega, by omega, by omega, by omega⟩, hRX, (TM_read hy cK hk TK1 TM hzc hRX (IM_pou him)), (PQs_read hPQ.1 hy hz cK cM hk hmm TK1 TM fK FM rfl rfl hRX him hz0), (PJs_read hA hB hR hy hz cK cM hk hmm fK TK1 FM TM hRX him hz0)⟩)
