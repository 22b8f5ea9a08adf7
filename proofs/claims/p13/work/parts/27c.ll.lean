set_option maxHeartbeats 4000000 in
theorem lw_0 {w : wX} {L : Nat} {xs : Nat → Int32} {Q : ag_Re af_T → Prop} {K m : mR} {c : Nat → Option am_C} {N nc ns : Nat} {i : Int} (hX : w.1 = (some L, fun j => some (xs j))) (h0 : 0 ≤ i) (h1 : i + 6 ≤ L) (hL : L ≤ 3072) (hI : LI i K m c N nc ns) (H : ∀ K m c N nc ns, LI (i + 6) K m c N nc ns → TT w 17 pm_0 (966, LV i, [], (khp K c, N), nc, ns) Q) : TT w 17 pm_0 (136, LV i, [], (khp K c, N), nc, ns) Q := by
  obtain ⟨hK, hM, hIK, hIM, hm, hc, hF, hN, hN2, hn1, hn2⟩ := hI
  obtain ⟨m_ct, m_pth, m_pld, m_hNM0, m_hFA0, m_hPA0, m_hHB0, m_wCN, m_wSO, m_wSt, m_wTd, m_wAc, m_wTb, m_wIN, m_wHO, m_wAR, m_wSp, m_wEM, m_wNA, m_hEMp, m_hEAp, m_hLT, m_pin, m_pou⟩ := id hIM
  refine T_ld 137 (.ref 0) rfl (fun _ => rfl) ?_
  refine T_ld 138 (.ref 1000000) rfl (fun _ => rfl) ?_
  refine T_ld 140 (.int (i32 i)) rfl (fun _ => rfl) ?_
  refine T_ld 141 (.int (i32 1)) rfl (fun _ => rfl) ?_
  refine T_iadd 142 rfl rfl ?_
  refine L_sl 143 rfl hX (by omega) (by omega) hL rfl ?_
  refine T_ld 144 (.ref 1000000) rfl (fun _ => rfl) ?_
  refine T_ld 146 (.int (i32 i)) rfl (fun _ => rfl) ?_
  refine T_ld 147 (.int (i32 2)) rfl (fun _ => rfl) ?_
  refine T_iadd 148 rfl rfl ?_
  refine L_sl 149 rfl hX (by omega) (by omega) hL rfl ?_
  refine T_ld 150 (.ref 1000000) rfl (fun _ => rfl) ?_
  refine T_ld 152 (.int (i32 i)) rfl (fun _ => rfl) ?_
  refine T_ld 153 (.int (i32 3)) rfl (fun _ => rfl) ?_
  refine T_iadd 154 rfl rfl ?_
  refine L_sl 155 rfl hX (by omega) (by omega) hL rfl ?_
  refine T_ld 156 (.ref 1000000) rfl (fun _ => rfl) ?_
  refine T_ld 158 (.int (i32 i)) rfl (fun _ => rfl) ?_
  refine T_ld 159 (.int (i32 4)) rfl (fun _ => rfl) ?_
  refine T_iadd 160 rfl rfl ?_
  refine L_sl 161 rfl hX (by omega) (by omega) hL rfl ?_
  refine T_ld 162 (.ref 1000000) rfl (fun _ => rfl) ?_
  refine T_ld 164 (.int (i32 i)) rfl (fun _ => rfl) ?_
  refine T_ld 165 (.int (i32 5)) rfl (fun _ => rfl) ?_
  refine T_iadd 166 rfl rfl ?_
  refine L_sl 167 rfl hX (by omega) (by omega) hL rfl ?_
  refine T_callx 170 23 [.ref 0, .int (i32 (sx xs (i + 1))), .int (i32 (sx xs (i + 2))), .int (i32 (sx xs (i + 3))), .int (i32 (sx xs (i + 4))), .int (i32 (sx xs (i + 5)))] [] rfl (fun _ => rfl) rfl rfl (c_pw_feed w K c N 17 (by omega) hK (sx xs (i + 1)) (sx xs (i + 2)) (sx xs (i + 3)) (sx xs (i + 4)) (sx xs (i + 5)) (sx_r _ _) (sx_r _ _) (sx_r _ _) (sx_r _ _) (sx_r _ _)) (fun rr1 hr2 => ?_)
  obtain ⟨K1, TK1, FK1, rfl⟩ := hr2
  refine Or.inl ⟨_, _, _, _, rfl, ?_⟩
  refine T_ns (st' := []) rfl ?_
  refine T_ld 171 (.ref 189) rfl (fun _ => rfl) ?_
  refine T_ld 172 (.ref 1000000) rfl (fun _ => rfl) ?_
  refine T_ld 174 (.int (i32 i)) rfl (fun _ => rfl) ?_
  refine T_ld 175 (.int (i32 1)) rfl (fun _ => rfl) ?_
  refine T_iadd 176 rfl rfl ?_
  refine L_sl 177 rfl hX (by omega) (by omega) hL rfl ?_
  refine T_ld 178 (.ref 1000000) rfl (fun _ => rfl) ?_
  refine T_ld 180 (.int (i32 i)) rfl (fun _ => rfl) ?_
  refine T_ld 181 (.int (i32 2)) rfl (fun _ => rfl) ?_
  refine T_iadd 182 rfl rfl ?_
  refine L_sl 183 rfl hX (by omega) (by omega) hL rfl ?_
  refine T_ld 184 (.ref 1000000) rfl (fun _ => rfl) ?_
  refine T_ld 186 (.int (i32 i)) rfl (fun _ => rfl) ?_
  refine T_ld 187 (.int (i32 3)) rfl (fun _ => rfl) ?_
  refine T_iadd 188 rfl rfl ?_
  refine L_sl 189 rfl hX (by omega) (by omega) hL rfl ?_
  refine T_ld 190 (.ref 1000000) rfl (fun _ => rfl) ?_
  refine T_ld 192 (.int (i32 i)) rfl (fun _ => rfl) ?_
  refine T_ld 193 (.int (i32 4)) rfl (fun _ => rfl) ?_
  refine T_iadd 194 rfl rfl ?_
  refine L_sl 195 rfl hX (by omega) (by omega) hL rfl ?_
  refine T_ld 196 (.ref 1000000) rfl (fun _ => rfl) ?_
  refine T_ld 198 (.int (i32 i)) rfl (fun _ => rfl) ?_
  refine T_ld 199 (.int (i32 5)) rfl (fun _ => rfl) ?_
  refine T_iadd 200 rfl rfl ?_
  refine L_sl 201 rfl hX (by omega) (by omega) hL rfl ?_
  refine L_ref (m := m) 204 208 [.int (i32 (sx xs (i + 5))), .int (i32 (sx xs (i + 4))), .int (i32 (sx xs (i + 3))), .int (i32 (sx xs (i + 2))), .int (i32 (sx xs (i + 1)))] [] rfl rfl rfl rfl rfl rfl rfl TK1 hm (c_feed w m (khp K1 c) N 17 (by omega) hM (sx xs (i + 1)) (sx xs (i + 2)) (sx xs (i + 3)) (sx xs (i + 4)) (sx xs (i + 5)) (sx_r _ _) (sx_r _ _) (sx_r _ _) (sx_r _ _) (sx_r _ _) ) (fun rr3 hr4 => ?_)
  obtain ⟨M2, TM, FM, rfl⟩ := hr4
  refine ⟨_, M2, rfl, ?_⟩
  refine T_ns (st' := []) rfl ?_
  refine T_goto 966 rfl (fun _ => rfl) ?_
  refine Tm_lv (a := LV i) (b := [(4, .int (i32 i)), (3, .ref 326), (2, .ref 189), (1, .ref 0), (0, .ref 1000000)]) rfl rfl ⟨rfl, rfl, rfl, rfl, rfl, trivial⟩ (H K1 M2 (mhp M2 c) N _ _ ⟨TK1, TM, (IK_f hIK (show i ≤ i + 6 by omega) FK1 rfl), (IM_f hIM (show i ≤ i + 6 by omega) FM rfl), mhp_id, (show ∃ F, mhp M2 c 326 = some (ocl F) from by rw [mhp_lo (by omega)]; exact hc), (FR_c (fr2 FK1 108 rfl) hF), by omega, by omega, by omega, by omega⟩)
set_option maxHeartbeats 4000000 in
theorem lw_1 {w : wX} {L : Nat} {xs : Nat → Int32} {Q : ag_Re af_T → Prop} {K m : mR} {c : Nat → Option am_C} {N nc ns : Nat} {i : Int} (hX : w.1 = (some L, fun j => some (xs j))) (h0 : 0 ≤ i) (h1 : i + 6 ≤ L) (hL : L ≤ 3072) (hI : LI i K m c N nc ns) (H : ∀ K m c N nc ns, LI (i + 6) K m c N nc ns → TT w 17 pm_0 (966, LV i, [], (khp K c, N), nc, ns) Q) : TT w 17 pm_0 (207, LV i, [], (khp K c, N), nc, ns) Q := by
  obtain ⟨hK, hM, hIK, hIM, hm, hc, hF, hN, hN2, hn1, hn2⟩ := hI
  obtain ⟨m_ct, m_pth, m_pld, m_hNM0, m_hFA0, m_hPA0, m_hHB0, m_wCN, m_wSO, m_wSt, m_wTd, m_wAc, m_wTb, m_wIN, m_wHO, m_wAR, m_wSp, m_wEM, m_wNA, m_hEMp, m_hEAp, m_hLT, m_pin, m_pou⟩ := id hIM
  refine T_ld 208 (.ref 0) rfl (fun _ => rfl) ?_
  refine T_ld 209 (.ref 1000000) rfl (fun _ => rfl) ?_
  refine T_ld 211 (.int (i32 i)) rfl (fun _ => rfl) ?_
  refine T_ld 212 (.int (i32 1)) rfl (fun _ => rfl) ?_
  refine T_iadd 213 rfl rfl ?_
  refine L_sl 214 rfl hX (by omega) (by omega) hL rfl ?_
  refine T_callx 217 24 [.ref 0, .int (i32 (sx xs (i + 1)))] [] rfl (fun _ => rfl) rfl rfl (c_pw_end w K c N 17 (by omega) hK (sx xs (i + 1)) (sx_r _ _)) (fun rr1 hr2 => ?_)
  obtain ⟨K1, r1, TK1, FK1, g1, rfl⟩ := hr2
  refine Or.inl ⟨_, _, _, _, rfl, ?_⟩
  refine T_ns (st' := [.int (i32 r1)]) rfl ?_
  refine T_pop 218 rfl (fun _ => rfl) ?_
  refine T_ld 219 (.ref 189) rfl (fun _ => rfl) ?_
  refine T_ld 220 (.ref 1000000) rfl (fun _ => rfl) ?_
  refine T_ld 222 (.int (i32 i)) rfl (fun _ => rfl) ?_
  refine T_ld 223 (.int (i32 1)) rfl (fun _ => rfl) ?_
  refine T_iadd 224 rfl rfl ?_
  refine L_sl 225 rfl hX (by omega) (by omega) hL rfl ?_
  refine L_ref (m := m) 228 209 [.int (i32 (sx xs (i + 1)))] [] rfl rfl rfl rfl rfl rfl rfl TK1 hm (c_end w m (khp K1 c) N 17 (by omega) hM (sx xs (i + 1)) (sx_r _ _) ) (fun rr3 hr4 => ?_)
  obtain ⟨M2, r2, TM, FM, g2, rfl⟩ := hr4
  refine ⟨_, M2, rfl, ?_⟩
  refine T_ns (st' := [.int (i32 r2)]) rfl ?_
  refine T_pop 229 rfl (fun _ => rfl) ?_
  refine T_goto 966 rfl (fun _ => rfl) ?_
  refine Tm_lv (a := LV i) (b := [(4, .int (i32 i)), (3, .ref 326), (2, .ref 189), (1, .ref 0), (0, .ref 1000000)]) rfl rfl ⟨rfl, rfl, rfl, rfl, rfl, trivial⟩ (H K1 M2 (mhp M2 c) N _ _ ⟨TK1, TM, (IK_f hIK (show i ≤ i + 6 by omega) FK1 rfl), (IM_f hIM (show i ≤ i + 6 by omega) FM rfl), mhp_id, (show ∃ F, mhp M2 c 326 = some (ocl F) from by rw [mhp_lo (by omega)]; exact hc), (FR_c (fr2 FK1 108 rfl) hF), by omega, by omega, by omega, by omega⟩)
set_option maxHeartbeats 4000000 in
theorem lw_2 {w : wX} {L : Nat} {xs : Nat → Int32} {Q : ag_Re af_T → Prop} {K m : mR} {c : Nat → Option am_C} {N nc ns : Nat} {i : Int} (hsio : (w.2.2.2).category = 1) (hX : w.1 = (some L, fun j => some (xs j))) (h0 : 0 ≤ i) (h1 : i + 6 ≤ L) (hL : L ≤ 3072) (hI : LI i K m c N nc ns) (H : ∀ K m c N nc ns, LI (i + 6) K m c N nc ns → TT w 17 pm_0 (966, LV i, [], (khp K c, N), nc, ns) Q) : TT w 17 pm_0 (232, LV i, [], (khp K c, N), nc, ns) Q := by
  obtain ⟨hK, hM, hIK, hIM, hm, hc, hF, hN, hN2, hn1, hn2⟩ := hI
  obtain ⟨m_ct, m_pth, m_pld, m_hNM0, m_hFA0, m_hPA0, m_hHB0, m_wCN, m_wSO, m_wSt, m_wTd, m_wAc, m_wTb, m_wIN, m_wHO, m_wAR, m_wSp, m_wEM, m_wNA, m_hEMp, m_hEAp, m_hLT, m_pin, m_pou⟩ := id hIM
  refine T_ld 233 (.ref 0) rfl (fun _ => rfl) ?_
  refine T_ld 234 (.ref 326) rfl (fun _ => rfl) ?_
  refine T_callx 237 42 [.ref 0, .ref 326] [] rfl (fun _ => rfl) rfl rfl (h_read w K c N 17 (by omega) hK i (i + 6) h0 (by omega) hIK rfl hc hF ⟨by omega, by omega⟩ hsio ) (fun rr1 hr2 => ?_)
  obtain ⟨K1, c1, N1, k1, n1, r1, TK1, IK1, oc1, F1, b1, ⟨g1, P1⟩, rfl⟩ := hr2
  refine Or.inl ⟨_, _, _, _, rfl, ?_⟩
  obtain ⟨g1a, g1b⟩ := g1
  refine T_ns (st' := [.int (i32 r1)]) rfl ?_
  refine Tm_step (S' := (239, [(5, .int (i32 r1)), (4, .int (i32 i)), (3, .ref 326), (2, .ref 189), (1, .ref 0), (0, .ref 1000000)], [], (khp K1 c1, N1), _, _)) rfl (fun _ => rfl) ?_
  refine T_ld 240 (.ref 189) rfl (fun _ => rfl) ?_
  refine L_ref (m := m) 243 210 [] [] rfl rfl rfl rfl rfl rfl rfl TK1 (OC_m oc1 hm) (c_read w m (khp K1 c1) N1 17 (by omega) hM  m_hNM0 m_hFA0 m_hPA0 m_hHB0) (fun rr3 hr4 => ?_)
  obtain ⟨M2, r2, TM, FM, g2, pq0, pq1, pq2, pq3, pq4, pq5, pq6, pq7, pq8, pq9, pq10, pq11, pq12, pq13, pq14, pq15, pq16, pq17, pq18, pq19, pq20, pq21, pq22, pq23, pq24, rfl⟩ := hr4
  refine ⟨_, M2, rfl, ?_⟩
  refine T_ns (st' := [.int (i32 r2)]) rfl ?_
  have hBg := pq12
  have him : IM (i + 6) M2 := ⟨(show (M2.1 148) ≤ (i + 6) ∧ (M2.1 152) ≤ 20 * (i + 6) by omega), (show (M2.1 127) = 0 ∨ (M2.1 127) = 1 by omega), (show (M2.1 128) = 1 → (M2.1 127) = 1 by omega), (show ∀ k, (M2.2 14) k + (M2.2 15) k ≤ 4000 by exact pq0), (show ∀ k, (M2.2 31) k + (M2.2 32) k ≤ 4000 by exact pq1), (show ∀ k, (M2.2 47) k + (M2.2 48) k ≤ 4000 by exact pq2), (show HBi (M2.2 29) (M2.2 30) (M2.2 33) by exact pq3), (show (M2.1 127) = 1 → CN (M2.2 65) (M2.2 67) (M2.1 28) by exact pq13), (show (M2.1 127) = 1 → SOp (M2.2 38) (M2.1 23) (M2.1 24) by exact pq14), (show (M2.1 127) = 1 → StP (M2.2 65) (M2.1 28) (M2.1 23) (M2.1 24) (M2.2 42) (M2.2 95) (M2.2 96) (M2.2 44) (M2.2 45) by exact pq15), (show (M2.1 127) = 1 → TdP (M2.2 65) (M2.1 28) (M2.1 22) (M2.1 99) (M2.2 101) (M2.2 103) (M2.2 105) (M2.2 106) (M2.2 107) (M2.2 108) by exact pq16), (show (M2.1 127) = 1 → AcP (M2.1 25) (M2.1 99) (M2.2 109) (M2.2 50) by exact pq17), (show (M2.1 127) = 1 → TbP (M2.2 65) (M2.1 28) (M2.1 25) (M2.1 26) (M2.2 51) (M2.2 110) (M2.2 111) (M2.2 57) (M2.2 53) (M2.2 114) (M2.2 58) (M2.2 54) by exact pq18), (show (M2.1 127) = 1 → ∀ k, 0 ≤ k → k < (M2.1 20) → (M2.2 34) k < (M2.1 19) by exact pq19), (show (M2.1 127) = 1 → ∀ g, 0 ≤ g → g < (M2.1 19) → (M2.2 30) g ≤ 512 by exact pq20), (show (M2.1 127) = 1 → ∀ k, 0 ≤ k → k < (M2.1 22) → 1 ≤ (M2.2 93) k ∧ 1 ≤ (M2.2 36) k by exact pq21), (show (M2.1 127) = 1 → SpP (M2.2 65) (M2.1 28) (M2.1 99) (M2.1 26) (M2.1 27) (M2.2 60) (M2.2 61) (M2.2 120) (M2.2 121) (M2.2 122) (M2.2 63) by exact pq22), (show (M2.1 127) = 1 → ∀ j, 0 ≤ j → j < (M2.1 125) → (M2.2 124) j < (M2.1 20) by exact pq23), (show (M2.1 127) = 1 → ∀ q, 0 ≤ q → q < (M2.1 24) → 0 < (M2.2 41) q ∨ NR (M2.2 44) (M2.2 38) (M2.2 42) (M2.2 45) (M2.2 41) (M2.1 24) q by exact pq24), (show EMp (M2.1 26) (M2.2 139) (M2.2 58) (M2.2 54) by exact fun t9 a9 b9 => by have r8 : M2.1 26 ≤ 8 := (TM.1 26).2; have e9 := hBg t9 a9 (by omega); have r9 : (0 : Int) ≤ M2.2 54 t9 := (TM.2.1 54 t9).1; exact ⟨by omega, fun _ => by omega⟩), (show EAp (M2.1 25) (M2.2 139) (M2.2 141) by rw [fr2 FM 141 rfl]; exact fun t9 e9 a9 b9 c9 d9 => by have q9 := hBg t9 a9 b9; omega), (show ∀ k, 0 ≤ k → k < (M2.1 149) → 0 < (M2.2 153) k → (M2.2 156) k < (M2.1 26) by rw [fr2 FM 153 rfl, fr2 FM 156 rfl]; exact fun k9 a9 b9 => by omega), (show (M2.1 150) + (M2.1 149) = (M2.1 148) by omega), (show (M2.1 151) ≤ (M2.1 150) by omega)⟩
  refine Tm_step (S' := (245, [(6, .int (i32 r2)), (5, .int (i32 r1)), (4, .int (i32 i)), (3, .ref 326), (2, .ref 189), (1, .ref 0), (0, .ref 1000000)], [], (khp K1 (mhp M2 c1), N1), _, _)) rfl (fun _ => rfl) ?_
  refine T_goto 966 rfl (fun _ => rfl) ?_
  refine Tm_lv (a := LV i) (b := [(6, .int (i32 r2)), (5, .int (i32 r1)), (4, .int (i32 i)), (3, .ref 326), (2, .ref 189), (1, .ref 0), (0, .ref 1000000)]) rfl rfl ⟨rfl, rfl, rfl, rfl, rfl, trivial⟩ (H K1 M2 (mhp M2 c1) N1 _ _ ⟨TK1, TM, IK1, him, mhp_id, (show ∃ F, mhp M2 c1 326 = some (ocl F) from by rw [mhp_lo (by omega)]; exact oc1.2), F1, by omega, by omega, by omega, by omega⟩)
set_option maxHeartbeats 4000000 in
theorem lw_3 {w : wX} {L : Nat} {xs : Nat → Int32} {Q : ag_Re af_T → Prop} {K m : mR} {c : Nat → Option am_C} {N nc ns : Nat} {i : Int} (hX : w.1 = (some L, fun j => some (xs j))) (h0 : 0 ≤ i) (h1 : i + 6 ≤ L) (hL : L ≤ 3072) (hI : LI i K m c N nc ns) (H : ∀ K m c N nc ns, LI (i + 6) K m c N nc ns → TT w 17 pm_0 (966, LV i, [], (khp K c, N), nc, ns) Q) : TT w 17 pm_0 (248, LV i, [], (khp K c, N), nc, ns) Q := by
  obtain ⟨hK, hM, hIK, hIM, hm, hc, hF, hN, hN2, hn1, hn2⟩ := hI
  obtain ⟨m_ct, m_pth, m_pld, m_hNM0, m_hFA0, m_hPA0, m_hHB0, m_wCN, m_wSO, m_wSt, m_wTd, m_wAc, m_wTb, m_wIN, m_wHO, m_wAR, m_wSp, m_wEM, m_wNA, m_hEMp, m_hEAp, m_hLT, m_pin, m_pou⟩ := id hIM
  refine T_ld 249 (.ref 0) rfl (fun _ => rfl) ?_
  refine T_ld 250 (.ref 1000000) rfl (fun _ => rfl) ?_
  refine T_ld 252 (.int (i32 i)) rfl (fun _ => rfl) ?_
  refine T_ld 253 (.int (i32 1)) rfl (fun _ => rfl) ?_
  refine T_iadd 254 rfl rfl ?_
  refine L_sl 255 rfl hX (by omega) (by omega) hL rfl ?_
  refine T_callx 258 26 [.ref 0, .int (i32 (sx xs (i + 1)))] [] rfl (fun _ => rfl) rfl rfl (c_pw_fault w K c N 17 (by omega) hK (sx xs (i + 1)) (sx_r _ _)) (fun rr1 hr2 => ?_)
  obtain ⟨r1, g1, rfl⟩ := hr2
  refine Or.inl ⟨_, _, _, _, rfl, ?_⟩
  refine T_ns (st' := [.int (i32 r1)]) rfl ?_
  refine T_pop 259 rfl (fun _ => rfl) ?_
  refine T_ld 260 (.ref 189) rfl (fun _ => rfl) ?_
  refine T_ld 261 (.ref 1000000) rfl (fun _ => rfl) ?_
  refine T_ld 263 (.int (i32 i)) rfl (fun _ => rfl) ?_
  refine T_ld 264 (.int (i32 1)) rfl (fun _ => rfl) ?_
  refine T_iadd 265 rfl rfl ?_
  refine L_sl 266 rfl hX (by omega) (by omega) hL rfl ?_
  refine L_ref (m := m) 269 287 [.int (i32 (sx xs (i + 1)))] [] rfl rfl rfl rfl rfl rfl rfl hK hm (c_fault w m (khp K c) N 17 (by omega) hM (sx xs (i + 1)) (sx_r _ _) ) (fun rr3 hr4 => ?_)
  obtain ⟨M2, r2, TM, FM, g2, rfl⟩ := hr4
  refine ⟨_, M2, rfl, ?_⟩
  refine T_ns (st' := [.int (i32 r2)]) rfl ?_
  refine T_pop 270 rfl (fun _ => rfl) ?_
  refine T_goto 966 rfl (fun _ => rfl) ?_
  refine Tm_lv (a := LV i) (b := [(4, .int (i32 i)), (3, .ref 326), (2, .ref 189), (1, .ref 0), (0, .ref 1000000)]) rfl rfl ⟨rfl, rfl, rfl, rfl, rfl, trivial⟩ (H K M2 (mhp M2 c) N _ _ ⟨hK, TM, (IK_i hIK (show i ≤ i + 6 by omega)), (IM_f hIM (show i ≤ i + 6 by omega) FM rfl), mhp_id, (show ∃ F, mhp M2 c 326 = some (ocl F) from by rw [mhp_lo (by omega)]; exact hc), hF, by omega, by omega, by omega, by omega⟩)
set_option maxHeartbeats 4000000 in
theorem lw_4 {w : wX} {L : Nat} {xs : Nat → Int32} {Q : ag_Re af_T → Prop} {K m : mR} {c : Nat → Option am_C} {N nc ns : Nat} {i : Int} (hX : w.1 = (some L, fun j => some (xs j))) (h0 : 0 ≤ i) (h1 : i + 6 ≤ L) (hL : L ≤ 3072) (hI : LI i K m c N nc ns) (H : ∀ K m c N nc ns, LI (i + 6) K m c N nc ns → TT w 17 pm_0 (966, LV i, [], (khp K c, N), nc, ns) Q) : TT w 17 pm_0 (273, LV i, [], (khp K c, N), nc, ns) Q := by
  obtain ⟨hK, hM, hIK, hIM, hm, hc, hF, hN, hN2, hn1, hn2⟩ := hI
  obtain ⟨m_ct, m_pth, m_pld, m_hNM0, m_hFA0, m_hPA0, m_hHB0, m_wCN, m_wSO, m_wSt, m_wTd, m_wAc, m_wTb, m_wIN, m_wHO, m_wAR, m_wSp, m_wEM, m_wNA, m_hEMp, m_hEAp, m_hLT, m_pin, m_pou⟩ := id hIM
  refine T_ld 274 (.ref 0) rfl (fun _ => rfl) ?_
  refine T_ld 275 (.ref 1000000) rfl (fun _ => rfl) ?_
  refine T_ld 277 (.int (i32 i)) rfl (fun _ => rfl) ?_
  refine T_ld 278 (.int (i32 1)) rfl (fun _ => rfl) ?_
  refine T_iadd 279 rfl rfl ?_
  refine L_sl 280 rfl hX (by omega) (by omega) hL rfl ?_
  refine T_callx 283 27 [.ref 0, .int (i32 (sx xs (i + 1)))] [] rfl (fun _ => rfl) rfl rfl (c_pw_size w K c N 17 (by omega) hK (sx xs (i + 1)) (sx_r _ _)) (fun rr1 hr2 => ?_)
  obtain ⟨r1, g1, rfl⟩ := hr2
  refine Or.inl ⟨_, _, _, _, rfl, ?_⟩
  refine T_ns (st' := [.int (i32 r1)]) rfl ?_
  refine T_pop 284 rfl (fun _ => rfl) ?_
  refine T_ld 285 (.ref 189) rfl (fun _ => rfl) ?_
  refine T_ld 286 (.ref 1000000) rfl (fun _ => rfl) ?_
  refine T_ld 288 (.int (i32 i)) rfl (fun _ => rfl) ?_
  refine T_ld 289 (.int (i32 1)) rfl (fun _ => rfl) ?_
  refine T_iadd 290 rfl rfl ?_
  refine L_sl 291 rfl hX (by omega) (by omega) hL rfl ?_
  refine L_ref (m := m) 294 288 [.int (i32 (sx xs (i + 1)))] [] rfl rfl rfl rfl rfl rfl rfl hK hm (c_size w m (khp K c) N 17 (by omega) hM (sx xs (i + 1)) (sx_r _ _) ) (fun rr3 hr4 => ?_)
  obtain ⟨M2, r2, TM, FM, g2, rfl⟩ := hr4
  refine ⟨_, M2, rfl, ?_⟩
  refine T_ns (st' := [.int (i32 r2)]) rfl ?_
  refine T_pop 295 rfl (fun _ => rfl) ?_
  refine T_goto 966 rfl (fun _ => rfl) ?_
  refine Tm_lv (a := LV i) (b := [(4, .int (i32 i)), (3, .ref 326), (2, .ref 189), (1, .ref 0), (0, .ref 1000000)]) rfl rfl ⟨rfl, rfl, rfl, rfl, rfl, trivial⟩ (H K M2 (mhp M2 c) N _ _ ⟨hK, TM, (IK_i hIK (show i ≤ i + 6 by omega)), (IM_f hIM (show i ≤ i + 6 by omega) FM rfl), mhp_id, (show ∃ F, mhp M2 c 326 = some (ocl F) from by rw [mhp_lo (by omega)]; exact hc), hF, by omega, by omega, by omega, by omega⟩)
set_option maxHeartbeats 4000000 in
theorem lw_5 {w : wX} {L : Nat} {xs : Nat → Int32} {Q : ag_Re af_T → Prop} {K m : mR} {c : Nat → Option am_C} {N nc ns : Nat} {i : Int} (hX : w.1 = (some L, fun j => some (xs j))) (h0 : 0 ≤ i) (h1 : i + 6 ≤ L) (hL : L ≤ 3072) (hI : LI i K m c N nc ns) (H : ∀ K m c N nc ns, LI (i + 6) K m c N nc ns → TT w 17 pm_0 (966, LV i, [], (khp K c, N), nc, ns) Q) : TT w 17 pm_0 (298, LV i, [], (khp K c, N), nc, ns) Q := by
  obtain ⟨hK, hM, hIK, hIM, hm, hc, hF, hN, hN2, hn1, hn2⟩ := hI
  obtain ⟨m_ct, m_pth, m_pld, m_hNM0, m_hFA0, m_hPA0, m_hHB0, m_wCN, m_wSO, m_wSt, m_wTd, m_wAc, m_wTb, m_wIN, m_wHO, m_wAR, m_wSp, m_wEM, m_wNA, m_hEMp, m_hEAp, m_hLT, m_pin, m_pou⟩ := id hIM
  refine T_ld 299 (.ref 0) rfl (fun _ => rfl) ?_
  refine T_ld 300 (.ref 1000000) rfl (fun _ => rfl) ?_
  refine T_ld 302 (.int (i32 i)) rfl (fun _ => rfl) ?_
  refine T_ld 303 (.int (i32 1)) rfl (fun _ => rfl) ?_
  refine T_iadd 304 rfl rfl ?_
  refine L_sl 305 rfl hX (by omega) (by omega) hL rfl ?_
  refine T_ld 306 (.ref 1000000) rfl (fun _ => rfl) ?_
  refine T_ld 308 (.int (i32 i)) rfl (fun _ => rfl) ?_
  refine T_ld 309 (.int (i32 2)) rfl (fun _ => rfl) ?_
  refine T_iadd 310 rfl rfl ?_
  refine L_sl 311 rfl hX (by omega) (by omega) hL rfl ?_
  refine T_ld 312 (.ref 1000000) rfl (fun _ => rfl) ?_
  refine T_ld 314 (.int (i32 i)) rfl (fun _ => rfl) ?_
  refine T_ld 315 (.int (i32 3)) rfl (fun _ => rfl) ?_
  refine T_iadd 316 rfl rfl ?_
  refine L_sl 317 rfl hX (by omega) (by omega) hL rfl ?_
  refine T_ld 318 (.ref 326) rfl (fun _ => rfl) ?_
  refine T_callx 321 148 [.ref 0, .int (i32 (sx xs (i + 1))), .int (i32 (sx xs (i + 2))), .int (i32 (sx xs (i + 3))), .ref 326] [] rfl (fun _ => rfl) rfl rfl (h_lay w K c N 17 (by omega) hK i (i + 6) h0 (by omega) hIK rfl hc hF ⟨by omega, by omega⟩ (sx xs (i + 1)) (sx_r _ _) (sx xs (i + 2)) (sx_r _ _) (sx xs (i + 3)) (sx_r _ _)) (fun rr1 hr2 => ?_)
  obtain ⟨K1, c1, N1, k1, n1, r1, TK1, IK1, oc1, F1, b1, ⟨g1, P1⟩, rfl⟩ := hr2
  refine Or.inl ⟨_, _, _, _, rfl, ?_⟩
  obtain ⟨g1a, g1b⟩ := g1
  refine T_ns (st' := [.int (i32 r1)]) rfl ?_
  refine Tm_step (S' := (323, [(5, .int (i32 r1)), (4, .int (i32 i)), (3, .ref 326), (2, .ref 189), (1, .ref 0), (0, .ref 1000000)], [], (khp K1 c1, N1), _, _)) rfl (fun _ => rfl) ?_
  refine T_ld 324 (.ref 189) rfl (fun _ => rfl) ?_
  refine T_ld 325 (.ref 1000000) rfl (fun _ => rfl) ?_
  refine T_ld 327 (.int (i32 i)) rfl (fun _ => rfl) ?_
  refine T_ld 328 (.int (i32 1)) rfl (fun _ => rfl) ?_
  refine T_iadd 329 rfl rfl ?_
  refine L_sl 330 rfl hX (by omega) (by omega) hL rfl ?_
  refine T_ld 331 (.ref 1000000) rfl (fun _ => rfl) ?_
  refine T_ld 333 (.int (i32 i)) rfl (fun _ => rfl) ?_
  refine T_ld 334 (.int (i32 2)) rfl (fun _ => rfl) ?_
  refine T_iadd 335 rfl rfl ?_
  refine L_sl 336 rfl hX (by omega) (by omega) hL rfl ?_
  refine T_ld 337 (.ref 1000000) rfl (fun _ => rfl) ?_
  refine T_ld 339 (.int (i32 i)) rfl (fun _ => rfl) ?_
  refine T_ld 340 (.int (i32 3)) rfl (fun _ => rfl) ?_
  refine T_iadd 341 rfl rfl ?_
  refine L_sl 342 rfl hX (by omega) (by omega) hL rfl ?_
  refine L_ref (m := m) 345 289 [.int (i32 (sx xs (i + 3))), .int (i32 (sx xs (i + 2))), .int (i32 (sx xs (i + 1)))] [] rfl rfl rfl rfl rfl rfl rfl TK1 (OC_m oc1 hm) (c_lay w m (khp K1 c1) N1 17 (by omega) hM (sx xs (i + 1)) (sx xs (i + 2)) (sx xs (i + 3)) (sx_r _ _) (sx_r _ _) (sx_r _ _) m_wCN m_wSO m_wSt m_wTd m_wAc m_wTb m_wIN m_wHO m_wAR m_wSp m_wEM m_wNA m_pth m_pld) (fun rr3 hr4 => ?_)
  obtain ⟨M2, r2, TM, FM, g2, pq0, rfl⟩ := hr4
  refine ⟨_, M2, rfl, ?_⟩
  refine T_ns (st' := [.int (i32 r2)]) rfl ?_
  have him : IM (i + 6) M2 := ⟨(show (M2.1 148) ≤ (i + 6) ∧ (M2.1 152) ≤ 20 * (i + 6) by rw [fr1 FM 148 rfl, fr1 FM 152 rfl]; omega), (show (M2.1 127) = 0 ∨ (M2.1 127) = 1 by rw [fr1 FM 127 rfl]; omega), (show (M2.1 128) = 1 → (M2.1 127) = 1 by rw [fr1 FM 127 rfl]; omega), (show ∀ k, (M2.2 14) k + (M2.2 15) k ≤ 4000 by rw [fr2 FM 14 rfl, fr2 FM 15 rfl]; exact m_hNM0), (show ∀ k, (M2.2 31) k + (M2.2 32) k ≤ 4000 by rw [fr2 FM 31 rfl, fr2 FM 32 rfl]; exact m_hFA0), (show ∀ k, (M2.2 47) k + (M2.2 48) k ≤ 4000 by rw [fr2 FM 47 rfl, fr2 FM 48 rfl]; exact m_hPA0), (show HBi (M2.2 29) (M2.2 30) (M2.2 33) by rw [fr2 FM 29 rfl, fr2 FM 30 rfl, fr2 FM 33 rfl]; exact m_hHB0), (show (M2.1 127) = 1 → CN (M2.2 65) (M2.2 67) (M2.1 28) by rw [fr1 FM 127 rfl, fr2 FM 65 rfl, fr2 FM 67 rfl, fr1 FM 28 rfl]; exact m_wCN), (show (M2.1 127) = 1 → SOp (M2.2 38) (M2.1 23) (M2.1 24) by rw [fr1 FM 127 rfl, fr2 FM 38 rfl, fr1 FM 23 rfl, fr1 FM 24 rfl]; exact m_wSO), (show (M2.1 127) = 1 → StP (M2.2 65) (M2.1 28) (M2.1 23) (M2.1 24) (M2.2 42) (M2.2 95) (M2.2 96) (M2.2 44) (M2.2 45) by rw [fr1 FM 127 rfl, fr2 FM 65 rfl, fr1 FM 28 rfl, fr1 FM 23 rfl, fr1 FM 24 rfl, fr2 FM 42 rfl, fr2 FM 95 rfl, fr2 FM 96 rfl, fr2 FM 44 rfl, fr2 FM 45 rfl]; exact m_wSt), (show (M2.1 127) = 1 → TdP (M2.2 65) (M2.1 28) (M2.1 22) (M2.1 99) (M2.2 101) (M2.2 103) (M2.2 105) (M2.2 106) (M2.2 107) (M2.2 108) by rw [fr1 FM 127 rfl, fr2 FM 65 rfl, fr1 FM 28 rfl, fr1 FM 22 rfl, fr1 FM 99 rfl, fr2 FM 101 rfl, fr2 FM 103 rfl, fr2 FM 105 rfl, fr2 FM 106 rfl, fr2 FM 107 rfl, fr2 FM 108 rfl]; exact m_wTd), (show (M2.1 127) = 1 → AcP (M2.1 25) (M2.1 99) (M2.2 109) (M2.2 50) by rw [fr1 FM 127 rfl, fr1 FM 25 rfl, fr1 FM 99 rfl, fr2 FM 109 rfl, fr2 FM 50 rfl]; exact m_wAc), (show (M2.1 127) = 1 → TbP (M2.2 65) (M2.1 28) (M2.1 25) (M2.1 26) (M2.2 51) (M2.2 110) (M2.2 111) (M2.2 57) (M2.2 53) (M2.2 114) (M2.2 58) (M2.2 54) by rw [fr1 FM 127 rfl, fr2 FM 65 rfl, fr1 FM 28 rfl, fr1 FM 25 rfl, fr1 FM 26 rfl, fr2 FM 51 rfl, fr2 FM 110 rfl, fr2 FM 111 rfl, fr2 FM 57 rfl, fr2 FM 53 rfl, fr2 FM 114 rfl, fr2 FM 58 rfl, fr2 FM 54 rfl]; exact m_wTb), (show (M2.1 127) = 1 → ∀ k, 0 ≤ k → k < (M2.1 20) → (M2.2 34) k < (M2.1 19) by rw [fr1 FM 127 rfl, fr1 FM 20 rfl, fr2 FM 34 rfl, fr1 FM 19 rfl]; exact m_wIN), (show (M2.1 127) = 1 → ∀ g, 0 ≤ g → g < (M2.1 19) → (M2.2 30) g ≤ 512 by rw [fr1 FM 127 rfl, fr1 FM 19 rfl, fr2 FM 30 rfl]; exact m_wHO), (show (M2.1 127) = 1 → ∀ k, 0 ≤ k → k < (M2.1 22) → 1 ≤ (M2.2 93) k ∧ 1 ≤ (M2.2 36) k by rw [fr1 FM 127 rfl, fr1 FM 22 rfl, fr2 FM 93 rfl, fr2 FM 36 rfl]; exact m_wAR), (show (M2.1 127) = 1 → SpP (M2.2 65) (M2.1 28) (M2.1 99) (M2.1 26) (M2.1 27) (M2.2 60) (M2.2 61) (M2.2 120) (M2.2 121) (M2.2 122) (M2.2 63) by rw [fr1 FM 127 rfl, fr2 FM 65 rfl, fr1 FM 28 rfl, fr1 FM 99 rfl, fr1 FM 26 rfl, fr1 FM 27 rfl, fr2 FM 60 rfl, fr2 FM 61 rfl, fr2 FM 120 rfl, fr2 FM 121 rfl, fr2 FM 122 rfl, fr2 FM 63 rfl]; exact m_wSp), (show (M2.1 127) = 1 → ∀ j, 0 ≤ j → j < (M2.1 125) → (M2.2 124) j < (M2.1 20) by rw [fr1 FM 127 rfl, fr1 FM 125 rfl, fr2 FM 124 rfl, fr1 FM 20 rfl]; exact m_wEM), (show (M2.1 127) = 1 → ∀ q, 0 ≤ q → q < (M2.1 24) → 0 < (M2.2 41) q ∨ NR (M2.2 44) (M2.2 38) (M2.2 42) (M2.2 45) (M2.2 41) (M2.1 24) q by rw [fr1 FM 127 rfl, fr1 FM 24 rfl, fr2 FM 41 rfl, fr2 FM 44 rfl, fr2 FM 38 rfl, fr2 FM 42 rfl, fr2 FM 45 rfl]; exact m_wNA), (show EMp (M2.1 26) (M2.2 139) (M2.2 58) (M2.2 54) by rw [fr1 FM 26 rfl, fr2 FM 139 rfl, fr2 FM 58 rfl, fr2 FM 54 rfl]; exact m_hEMp), (show EAp (M2.1 25) (M2.2 139) (M2.2 141) by rw [fr1 FM 25 rfl, fr2 FM 139 rfl, fr2 FM 141 rfl]; exact m_hEAp), (show ∀ k, 0 ≤ k → k < (M2.1 149) → 0 < (M2.2 153) k → (M2.2 156) k < (M2.1 26) by rw [fr1 FM 149 rfl, fr2 FM 153 rfl, fr2 FM 156 rfl, fr1 FM 26 rfl]; exact m_hLT), (show (M2.1 150) + (M2.1 149) = (M2.1 148) by rw [fr1 FM 150 rfl, fr1 FM 149 rfl, fr1 FM 148 rfl]; omega), (show (M2.1 151) ≤ (M2.1 150) by rw [fr1 FM 151 rfl, fr1 FM 150 rfl]; omega)⟩
  refine Tm_step (S' := (347, [(6, .int (i32 r2)), (5, .int (i32 r1)), (4, .int (i32 i)), (3, .ref 326), (2, .ref 189), (1, .ref 0), (0, .ref 1000000)], [], (khp K1 (mhp M2 c1), N1), _, _)) rfl (fun _ => rfl) ?_
  refine T_goto 966 rfl (fun _ => rfl) ?_
  refine Tm_lv (a := LV i) (b := [(6, .int (i32 r2)), (5, .int (i32 r1)), (4, .int (i32 i)), (3, .ref 326), (2, .ref 189), (1, .ref 0), (0, .ref 1000000)]) rfl rfl ⟨rfl, rfl, rfl, rfl, rfl, trivial⟩ (H K1 M2 (mhp M2 c1) N1 _ _ ⟨TK1, TM, IK1, him, mhp_id, (show ∃ F, mhp M2 c1 326 = some (ocl F) from by rw [mhp_lo (by omega)]; exact oc1.2), F1, by omega, by omega, by omega, by omega⟩)
set_option maxHeartbeats 4000000 in
theorem lw_6 {w : wX} {L : Nat} {xs : Nat → Int32} {Q : ag_Re af_T → Prop} {K m : mR} {c : Nat → Option am_C} {N nc ns : Nat} {i : Int} (hX : w.1 = (some L, fun j => some (xs j))) (h0 : 0 ≤ i) (h1 : i + 6 ≤ L) (hL : L ≤ 3072) (hI : LI i K m c N nc ns) (H : ∀ K m c N nc ns, LI (i + 6) K m c N nc ns → TT w 17 pm_0 (966, LV i, [], (khp K c, N), nc, ns) Q) : TT w 17 pm_0 (350, LV i, [], (khp K c, N), nc, ns) Q := by
  obtain ⟨hK, hM, hIK, hIM, hm, hc, hF, hN, hN2, hn1, hn2⟩ := hI
  obtain ⟨m_ct, m_pth, m_pld, m_hNM0, m_hFA0, m_hPA0, m_hHB0, m_wCN, m_wSO, m_wSt, m_wTd, m_wAc, m_wTb, m_wIN, m_wHO, m_wAR, m_wSp, m_wEM, m_wNA, m_hEMp, m_hEAp, m_hLT, m_pin, m_pou⟩ := id hIM
  refine T_ld 351 (.ref 0) rfl (fun _ => rfl) ?_
  refine T_callx 354 30 [.ref 0] [] rfl (fun _ => rfl) rfl rfl (c_pw_homeless w K c N 17 (by omega) hK ) (fun rr1 hr2 => ?_)
  obtain ⟨r1, g1, rfl⟩ := hr2
  refine Or.inl ⟨_, _, _, _, rfl, ?_⟩
  refine T_ns (st' := [.int (i32 r1)]) rfl ?_
  refine T_pop 355 rfl (fun _ => rfl) ?_
  refine T_ld 356 (.ref 189) rfl (fun _ => rfl) ?_
  refine L_ref (m := m) 359 303 [] [] rfl rfl rfl rfl rfl rfl rfl hK hm (c_homeless w m (khp K c) N 17 (by omega) hM  ) (fun rr3 hr4 => ?_)
  obtain ⟨M2, r2, TM, FM, g2, rfl⟩ := hr4
  refine ⟨_, M2, rfl, ?_⟩
  refine T_ns (st' := [.int (i32 r2)]) rfl ?_
  refine T_pop 360 rfl (fun _ => rfl) ?_
  refine T_goto 966 rfl (fun _ => rfl) ?_
  refine Tm_lv (a := LV i) (b := [(4, .int (i32 i)), (3, .ref 326), (2, .ref 189), (1, .ref 0), (0, .ref 1000000)]) rfl rfl ⟨rfl, rfl, rfl, rfl, rfl, trivial⟩ (H K M2 (mhp M2 c) N _ _ ⟨hK, TM, (IK_i hIK (show i ≤ i + 6 by omega)), (IM_f hIM (show i ≤ i + 6 by omega) FM rfl), mhp_id, (show ∃ F, mhp M2 c 326 = some (ocl F) from by rw [mhp_lo (by omega)]; exact hc), hF, by omega, by omega, by omega, by omega⟩)
set_option maxHeartbeats 4000000 in
theorem lw_7 {w : wX} {L : Nat} {xs : Nat → Int32} {Q : ag_Re af_T → Prop} {K m : mR} {c : Nat → Option am_C} {N nc ns : Nat} {i : Int} (hX : w.1 = (some L, fun j => some (xs j))) (h0 : 0 ≤ i) (h1 : i + 6 ≤ L) (hL : L ≤ 3072) (hI : LI i K m c N nc ns) (H : ∀ K m c N nc ns, LI (i + 6) K m c N nc ns → TT w 17 pm_0 (966, LV i, [], (khp K c, N), nc, ns) Q) : TT w 17 pm_0 (363, LV i, [], (khp K c, N), nc, ns) Q := by
  obtain ⟨hK, hM, hIK, hIM, hm, hc, hF, hN, hN2, hn1, hn2⟩ := hI
  obtain ⟨m_ct, m_pth, m_pld, m_hNM0, m_hFA0, m_hPA0, m_hHB0, m_wCN, m_wSO, m_wSt, m_wTd, m_wAc, m_wTb, m_wIN, m_wHO, m_wAR, m_wSp, m_wEM, m_wNA, m_hEMp, m_hEAp, m_hLT, m_pin, m_pou⟩ := id hIM
  refine T_ld 364 (.ref 0) rfl (fun _ => rfl) ?_
  refine T_ld 365 (.ref 1000000) rfl (fun _ => rfl) ?_
  refine T_ld 367 (.int (i32 i)) rfl (fun _ => rfl) ?_
  refine T_ld 368 (.int (i32 1)) rfl (fun _ => rfl) ?_
  refine T_iadd 369 rfl rfl ?_
  refine L_sl 370 rfl hX (by omega) (by omega) hL rfl ?_
  refine T_ld 371 (.ref 1000000) rfl (fun _ => rfl) ?_
  refine T_ld 373 (.int (i32 i)) rfl (fun _ => rfl) ?_
  refine T_ld 374 (.int (i32 2)) rfl (fun _ => rfl) ?_
  refine T_iadd 375 rfl rfl ?_
  refine L_sl 376 rfl hX (by omega) (by omega) hL rfl ?_
  refine T_callx 379 31 [.ref 0, .int (i32 (sx xs (i + 1))), .int (i32 (sx xs (i + 2)))] [] rfl (fun _ => rfl) rfl rfl (c_pw_step w K c N 17 (by omega) hK (sx xs (i + 1)) (sx xs (i + 2)) (sx_r _ _) (sx_r _ _)) (fun rr1 hr2 => ?_)
  obtain ⟨r1, g1, rfl⟩ := hr2
  refine Or.inl ⟨_, _, _, _, rfl, ?_⟩
  refine T_ns (st' := [.int (i32 r1)]) rfl ?_
  refine T_pop 380 rfl (fun _ => rfl) ?_
  refine T_ld 381 (.ref 189) rfl (fun _ => rfl) ?_
  refine T_ld 382 (.ref 1000000) rfl (fun _ => rfl) ?_
  refine T_ld 384 (.int (i32 i)) rfl (fun _ => rfl) ?_
  refine T_ld 385 (.int (i32 1)) rfl (fun _ => rfl) ?_
  refine T_iadd 386 rfl rfl ?_
  refine L_sl 387 rfl hX (by omega) (by omega) hL rfl ?_
  refine T_ld 388 (.ref 1000000) rfl (fun _ => rfl) ?_
  refine T_ld 390 (.int (i32 i)) rfl (fun _ => rfl) ?_
  refine T_ld 391 (.int (i32 2)) rfl (fun _ => rfl) ?_
  refine T_iadd 392 rfl rfl ?_
  refine L_sl 393 rfl hX (by omega) (by omega) hL rfl ?_
  refine L_ref (m := m) 396 304 [.int (i32 (sx xs (i + 2))), .int (i32 (sx xs (i + 1)))] [] rfl rfl rfl rfl rfl rfl rfl hK hm (c_step w m (khp K c) N 17 (by omega) hM (sx xs (i + 1)) (sx xs (i + 2)) (sx_r _ _) (sx_r _ _) ) (fun rr3 hr4 => ?_)
  obtain ⟨M2, r2, TM, FM, g2, rfl⟩ := hr4
  refine ⟨_, M2, rfl, ?_⟩
  refine T_ns (st' := [.int (i32 r2)]) rfl ?_
  refine T_pop 397 rfl (fun _ => rfl) ?_
  refine T_goto 966 rfl (fun _ => rfl) ?_
  refine Tm_lv (a := LV i) (b := [(4, .int (i32 i)), (3, .ref 326), (2, .ref 189), (1, .ref 0), (0, .ref 1000000)]) rfl rfl ⟨rfl, rfl, rfl, rfl, rfl, trivial⟩ (H K M2 (mhp M2 c) N _ _ ⟨hK, TM, (IK_i hIK (show i ≤ i + 6 by omega)), (IM_f hIM (show i ≤ i + 6 by omega) FM rfl), mhp_id, (show ∃ F, mhp M2 c 326 = some (ocl F) from by rw [mhp_lo (by omega)]; exact hc), hF, by omega, by omega, by omega, by omega⟩)
set_option maxHeartbeats 4000000 in
theorem lw_8 {w : wX} {L : Nat} {xs : Nat → Int32} {Q : ag_Re af_T → Prop} {K m : mR} {c : Nat → Option am_C} {N nc ns : Nat} {i : Int} (hX : w.1 = (some L, fun j => some (xs j))) (h0 : 0 ≤ i) (h1 : i + 6 ≤ L) (hL : L ≤ 3072) (hI : LI i K m c N nc ns) (H : ∀ K m c N nc ns, LI (i + 6) K m c N nc ns → TT w 17 pm_0 (966, LV i, [], (khp K c, N), nc, ns) Q) : TT w 17 pm_0 (400, LV i, [], (khp K c, N), nc, ns) Q := by
  obtain ⟨hK, hM, hIK, hIM, hm, hc, hF, hN, hN2, hn1, hn2⟩ := hI
  obtain ⟨m_ct, m_pth, m_pld, m_hNM0, m_hFA0, m_hPA0, m_hHB0, m_wCN, m_wSO, m_wSt, m_wTd, m_wAc, m_wTb, m_wIN, m_wHO, m_wAR, m_wSp, m_wEM, m_wNA, m_hEMp, m_hEAp, m_hLT, m_pin, m_pou⟩ := id hIM
  refine T_ld 401 (.ref 0) rfl (fun _ => rfl) ?_
  refine T_ld 402 (.ref 1000000) rfl (fun _ => rfl) ?_
  refine T_ld 404 (.int (i32 i)) rfl (fun _ => rfl) ?_
  refine T_ld 405 (.int (i32 1)) rfl (fun _ => rfl) ?_
  refine T_iadd 406 rfl rfl ?_
  refine L_sl 407 rfl hX (by omega) (by omega) hL rfl ?_
  refine T_ld 408 (.ref 1000000) rfl (fun _ => rfl) ?_
  refine T_ld 410 (.int (i32 i)) rfl (fun _ => rfl) ?_
  refine T_ld 411 (.int (i32 2)) rfl (fun _ => rfl) ?_
  refine T_iadd 412 rfl rfl ?_
  refine L_sl 413 rfl hX (by omega) (by omega) hL rfl ?_
  refine T_callx 416 32 [.ref 0, .int (i32 (sx xs (i + 1))), .int (i32 (sx xs (i + 2)))] [] rfl (fun _ => rfl) rfl rfl (c_pw_stage w K c N 17 (by omega) hK (sx xs (i + 1)) (sx xs (i + 2)) (sx_r _ _) (sx_r _ _)) (fun rr1 hr2 => ?_)
  obtain ⟨r1, g1, rfl⟩ := hr2
  refine Or.inl ⟨_, _, _, _, rfl, ?_⟩
  refine T_ns (st' := [.int (i32 r1)]) rfl ?_
  refine T_pop 417 rfl (fun _ => rfl) ?_
  refine T_ld 418 (.ref 189) rfl (fun _ => rfl) ?_
  refine T_ld 419 (.ref 1000000) rfl (fun _ => rfl) ?_
  refine T_ld 421 (.int (i32 i)) rfl (fun _ => rfl) ?_
  refine T_ld 422 (.int (i32 1)) rfl (fun _ => rfl) ?_
  refine T_iadd 423 rfl rfl ?_
  refine L_sl 424 rfl hX (by omega) (by omega) hL rfl ?_
  refine T_ld 425 (.ref 1000000) rfl (fun _ => rfl) ?_
  refine T_ld 427 (.int (i32 i)) rfl (fun _ => rfl) ?_
  refine T_ld 428 (.int (i32 2)) rfl (fun _ => rfl) ?_
  refine T_iadd 429 rfl rfl ?_
  refine L_sl 430 rfl hX (by omega) (by omega) hL rfl ?_
  refine L_ref (m := m) 433 306 [.int (i32 (sx xs (i + 2))), .int (i32 (sx xs (i + 1)))] [] rfl rfl rfl rfl rfl rfl rfl hK hm (c_stage w m (khp K c) N 17 (by omega) hM (sx xs (i + 1)) (sx xs (i + 2)) (sx_r _ _) (sx_r _ _) ) (fun rr3 hr4 => ?_)
  obtain ⟨M2, r2, TM, FM, g2, rfl⟩ := hr4
  refine ⟨_, M2, rfl, ?_⟩
  refine T_ns (st' := [.int (i32 r2)]) rfl ?_
  refine T_pop 434 rfl (fun _ => rfl) ?_
  refine T_goto 966 rfl (fun _ => rfl) ?_
  refine Tm_lv (a := LV i) (b := [(4, .int (i32 i)), (3, .ref 326), (2, .ref 189), (1, .ref 0), (0, .ref 1000000)]) rfl rfl ⟨rfl, rfl, rfl, rfl, rfl, trivial⟩ (H K M2 (mhp M2 c) N _ _ ⟨hK, TM, (IK_i hIK (show i ≤ i + 6 by omega)), (IM_f hIM (show i ≤ i + 6 by omega) FM rfl), mhp_id, (show ∃ F, mhp M2 c 326 = some (ocl F) from by rw [mhp_lo (by omega)]; exact hc), hF, by omega, by omega, by omega, by omega⟩)
set_option maxHeartbeats 4000000 in
theorem lw_9 {w : wX} {L : Nat} {xs : Nat → Int32} {Q : ag_Re af_T → Prop} {K m : mR} {c : Nat → Option am_C} {N nc ns : Nat} {i : Int} (hX : w.1 = (some L, fun j => some (xs j))) (h0 : 0 ≤ i) (h1 : i + 6 ≤ L) (hL : L ≤ 3072) (hI : LI i K m c N nc ns) (H : ∀ K m c N nc ns, LI (i + 6) K m c N nc ns → TT w 17 pm_0 (966, LV i, [], (khp K c, N), nc, ns) Q) : TT w 17 pm_0 (437, LV i, [], (khp K c, N), nc, ns) Q := by
  obtain ⟨hK, hM, hIK, hIM, hm, hc, hF, hN, hN2, hn1, hn2⟩ := hI
  obtain ⟨m_ct, m_pth, m_pld, m_hNM0, m_hFA0, m_hPA0, m_hHB0, m_wCN, m_wSO, m_wSt, m_wTd, m_wAc, m_wTb, m_wIN, m_wHO, m_wAR, m_wSp, m_wEM, m_wNA, m_hEMp, m_hEAp, m_hLT, m_pin, m_pou⟩ := id hIM
  refine T_ld 438 (.ref 0) rfl (fun _ => rfl) ?_
  refine T_ld 439 (.ref 1000000) rfl (fun _ => rfl) ?_
  refine T_ld 441 (.int (i32 i)) rfl (fun _ => rfl) ?_
  refine T_ld 442 (.int (i32 1)) rfl (fun _ => rfl) ?_
  refine T_iadd 443 rfl rfl ?_
  refine L_sl 444 rfl hX (by omega) (by omega) hL rfl ?_
  refine T_ld 445 (.ref 326) rfl (fun _ => rfl) ?_
  refine T_callx 448 161 [.ref 0, .int (i32 (sx xs (i + 1))), .ref 326] [] rfl (fun _ => rfl) rfl rfl (h_packet w K c N 17 (by omega) hK i (i + 6) h0 (by omega) hIK rfl hc hF ⟨by omega, by omega⟩ (sx xs (i + 1)) (sx_r _ _)) (fun rr1 hr2 => ?_)
  obtain ⟨K1, c1, N1, k1, n1, r1, TK1, IK1, oc1, F1, b1, ⟨g1, P1⟩, rfl⟩ := hr2
  refine Or.inl ⟨_, _, _, _, rfl, ?_⟩
  obtain ⟨g1a, g1b⟩ := g1
  refine T_ns (st' := [.int (i32 r1)]) rfl ?_
  refine Tm_step (S' := (450, [(5, .int (i32 r1)), (4, .int (i32 i)), (3, .ref 326), (2, .ref 189), (1, .ref 0), (0, .ref 1000000)], [], (khp K1 c1, N1), _, _)) rfl (fun _ => rfl) ?_
  refine T_ld 451 (.ref 189) rfl (fun _ => rfl) ?_
  refine T_ld 452 (.ref 1000000) rfl (fun _ => rfl) ?_
  refine T_ld 454 (.int (i32 i)) rfl (fun _ => rfl) ?_
  refine T_ld 455 (.int (i32 1)) rfl (fun _ => rfl) ?_
  refine T_iadd 456 rfl rfl ?_
  refine L_sl 457 rfl hX (by omega) (by omega) hL rfl ?_
  refine L_ref (m := m) 460 307 [.int (i32 (sx xs (i + 1)))] [] rfl rfl rfl rfl rfl rfl rfl TK1 (OC_m oc1 hm) (c_packet w m (khp K1 c1) N1 17 (by omega) hM (sx xs (i + 1)) (sx_r _ _) (by omega) m_hLT) (fun rr3 hr4 => ?_)
  obtain ⟨M2, r2, TM, FM, g2, pq0, pq1, pq2, rfl⟩ := hr4
  refine ⟨_, M2, rfl, ?_⟩
  refine T_ns (st' := [.int (i32 r2)]) rfl ?_
  have him : IM (i + 6) M2 := ⟨(show (M2.1 148) ≤ (i + 6) ∧ (M2.1 152) ≤ 20 * (i + 6) by rw [fr1 FM 152 rfl]; omega), (show (M2.1 127) = 0 ∨ (M2.1 127) = 1 by rw [fr1 FM 127 rfl]; omega), (show (M2.1 128) = 1 → (M2.1 127) = 1 by rw [fr1 FM 128 rfl, fr1 FM 127 rfl]; omega), (show ∀ k, (M2.2 14) k + (M2.2 15) k ≤ 4000 by rw [fr2 FM 14 rfl, fr2 FM 15 rfl]; exact m_hNM0), (show ∀ k, (M2.2 31) k + (M2.2 32) k ≤ 4000 by rw [fr2 FM 31 rfl, fr2 FM 32 rfl]; exact m_hFA0), (show ∀ k, (M2.2 47) k + (M2.2 48) k ≤ 4000 by rw [fr2 FM 47 rfl, fr2 FM 48 rfl]; exact m_hPA0), (show HBi (M2.2 29) (M2.2 30) (M2.2 33) by rw [fr2 FM 29 rfl, fr2 FM 30 rfl, fr2 FM 33 rfl]; exact m_hHB0), (show (M2.1 127) = 1 → CN (M2.2 65) (M2.2 67) (M2.1 28) by rw [fr1 FM 127 rfl, fr2 FM 65 rfl, fr2 FM 67 rfl, fr1 FM 28 rfl]; exact m_wCN), (show (M2.1 127) = 1 → SOp (M2.2 38) (M2.1 23) (M2.1 24) by rw [fr1 FM 127 rfl, fr2 FM 38 rfl, fr1 FM 23 rfl, fr1 FM 24 rfl]; exact m_wSO), (show (M2.1 127) = 1 → StP (M2.2 65) (M2.1 28) (M2.1 23) (M2.1 24) (M2.2 42) (M2.2 95) (M2.2 96) (M2.2 44) (M2.2 45) by rw [fr1 FM 127 rfl, fr2 FM 65 rfl, fr1 FM 28 rfl, fr1 FM 23 rfl, fr1 FM 24 rfl, fr2 FM 42 rfl, fr2 FM 95 rfl, fr2 FM 96 rfl, fr2 FM 44 rfl, fr2 FM 45 rfl]; exact m_wSt), (show (M2.1 127) = 1 → TdP (M2.2 65) (M2.1 28) (M2.1 22) (M2.1 99) (M2.2 101) (M2.2 103) (M2.2 105) (M2.2 106) (M2.2 107) (M2.2 108) by rw [fr1 FM 127 rfl, fr2 FM 65 rfl, fr1 FM 28 rfl, fr1 FM 22 rfl, fr1 FM 99 rfl, fr2 FM 101 rfl, fr2 FM 103 rfl, fr2 FM 105 rfl, fr2 FM 106 rfl, fr2 FM 107 rfl, fr2 FM 108 rfl]; exact m_wTd), (show (M2.1 127) = 1 → AcP (M2.1 25) (M2.1 99) (M2.2 109) (M2.2 50) by rw [fr1 FM 127 rfl, fr1 FM 25 rfl, fr1 FM 99 rfl, fr2 FM 109 rfl, fr2 FM 50 rfl]; exact m_wAc), (show (M2.1 127) = 1 → TbP (M2.2 65) (M2.1 28) (M2.1 25) (M2.1 26) (M2.2 51) (M2.2 110) (M2.2 111) (M2.2 57) (M2.2 53) (M2.2 114) (M2.2 58) (M2.2 54) by rw [fr1 FM 127 rfl, fr2 FM 65 rfl, fr1 FM 28 rfl, fr1 FM 25 rfl, fr1 FM 26 rfl, fr2 FM 51 rfl, fr2 FM 110 rfl, fr2 FM 111 rfl, fr2 FM 57 rfl, fr2 FM 53 rfl, fr2 FM 114 rfl, fr2 FM 58 rfl, fr2 FM 54 rfl]; exact m_wTb), (show (M2.1 127) = 1 → ∀ k, 0 ≤ k → k < (M2.1 20) → (M2.2 34) k < (M2.1 19) by rw [fr1 FM 127 rfl, fr1 FM 20 rfl, fr2 FM 34 rfl, fr1 FM 19 rfl]; exact m_wIN), (show (M2.1 127) = 1 → ∀ g, 0 ≤ g → g < (M2.1 19) → (M2.2 30) g ≤ 512 by rw [fr1 FM 127 rfl, fr1 FM 19 rfl, fr2 FM 30 rfl]; exact m_wHO), (show (M2.1 127) = 1 → ∀ k, 0 ≤ k → k < (M2.1 22) → 1 ≤ (M2.2 93) k ∧ 1 ≤ (M2.2 36) k by rw [fr1 FM 127 rfl, fr1 FM 22 rfl, fr2 FM 93 rfl, fr2 FM 36 rfl]; exact m_wAR), (show (M2.1 127) = 1 → SpP (M2.2 65) (M2.1 28) (M2.1 99) (M2.1 26) (M2.1 27) (M2.2 60) (M2.2 61) (M2.2 120) (M2.2 121) (M2.2 122) (M2.2 63) by rw [fr1 FM 127 rfl, fr2 FM 65 rfl, fr1 FM 28 rfl, fr1 FM 99 rfl, fr1 FM 26 rfl, fr1 FM 27 rfl, fr2 FM 60 rfl, fr2 FM 61 rfl, fr2 FM 120 rfl, fr2 FM 121 rfl, fr2 FM 122 rfl, fr2 FM 63 rfl]; exact m_wSp), (show (M2.1 127) = 1 → ∀ j, 0 ≤ j → j < (M2.1 125) → (M2.2 124) j < (M2.1 20) by rw [fr1 FM 127 rfl, fr1 FM 125 rfl, fr2 FM 124 rfl, fr1 FM 20 rfl]; exact m_wEM), (show (M2.1 127) = 1 → ∀ q, 0 ≤ q → q < (M2.1 24) → 0 < (M2.2 41) q ∨ NR (M2.2 44) (M2.2 38) (M2.2 42) (M2.2 45) (M2.2 41) (M2.1 24) q by rw [fr1 FM 127 rfl, fr1 FM 24 rfl, fr2 FM 41 rfl, fr2 FM 44 rfl, fr2 FM 38 rfl, fr2 FM 42 rfl, fr2 FM 45 rfl]; exact m_wNA), (show EMp (M2.1 26) (M2.2 139) (M2.2 58) (M2.2 54) by rw [fr1 FM 26 rfl, fr2 FM 139 rfl, fr2 FM 58 rfl, fr2 FM 54 rfl]; exact m_hEMp), (show EAp (M2.1 25) (M2.2 139) (M2.2 141) by rw [fr1 FM 25 rfl, fr2 FM 139 rfl, fr2 FM 141 rfl]; exact m_hEAp), (show ∀ k, 0 ≤ k → k < (M2.1 149) → 0 < (M2.2 153) k → (M2.2 156) k < (M2.1 26) by rw [fr2 FM 156 rfl, fr1 FM 26 rfl]; exact pq2), (show (M2.1 150) + (M2.1 149) = (M2.1 148) by rw [fr1 FM 150 rfl]; omega), (show (M2.1 151) ≤ (M2.1 150) by rw [fr1 FM 151 rfl, fr1 FM 150 rfl]; omega)⟩
  refine Tm_step (S' := (462, [(6, .int (i32 r2)), (5, .int (i32 r1)), (4, .int (i32 i)), (3, .ref 326), (2, .ref 189), (1, .ref 0), (0, .ref 1000000)], [], (khp K1 (mhp M2 c1), N1), _, _)) rfl (fun _ => rfl) ?_
  refine T_goto 966 rfl (fun _ => rfl) ?_
  refine Tm_lv (a := LV i) (b := [(6, .int (i32 r2)), (5, .int (i32 r1)), (4, .int (i32 i)), (3, .ref 326), (2, .ref 189), (1, .ref 0), (0, .ref 1000000)]) rfl rfl ⟨rfl, rfl, rfl, rfl, rfl, trivial⟩ (H K1 M2 (mhp M2 c1) N1 _ _ ⟨TK1, TM, IK1, him, mhp_id, (show ∃ F, mhp M2 c1 326 = some (ocl F) from by rw [mhp_lo (by omega)]; exact oc1.2), F1, by omega, by omega, by omega, by omega⟩)
set_option maxHeartbeats 4000000 in
theorem lw_10 {w : wX} {L : Nat} {xs : Nat → Int32} {Q : ag_Re af_T → Prop} {K m : mR} {c : Nat → Option am_C} {N nc ns : Nat} {i : Int} (hX : w.1 = (some L, fun j => some (xs j))) (h0 : 0 ≤ i) (h1 : i + 6 ≤ L) (hL : L ≤ 3072) (hI : LI i K m c N nc ns) (H : ∀ K m c N nc ns, LI (i + 6) K m c N nc ns → TT w 17 pm_0 (966, LV i, [], (khp K c, N), nc, ns) Q) : TT w 17 pm_0 (465, LV i, [], (khp K c, N), nc, ns) Q := by
  obtain ⟨hK, hM, hIK, hIM, hm, hc, hF, hN, hN2, hn1, hn2⟩ := hI
  obtain ⟨m_ct, m_pth, m_pld, m_hNM0, m_hFA0, m_hPA0, m_hHB0, m_wCN, m_wSO, m_wSt, m_wTd, m_wAc, m_wTb, m_wIN, m_wHO, m_wAR, m_wSp, m_wEM, m_wNA, m_hEMp, m_hEAp, m_hLT, m_pin, m_pou⟩ := id hIM
  refine T_ld 466 (.ref 0) rfl (fun _ => rfl) ?_
  refine T_ld 467 (.ref 1000000) rfl (fun _ => rfl) ?_
  refine T_ld 469 (.int (i32 i)) rfl (fun _ => rfl) ?_
  refine T_ld 470 (.int (i32 1)) rfl (fun _ => rfl) ?_
  refine T_iadd 471 rfl rfl ?_
  refine L_sl 472 rfl hX (by omega) (by omega) hL rfl ?_
  refine T_ld 473 (.ref 1000000) rfl (fun _ => rfl) ?_
  refine T_ld 475 (.int (i32 i)) rfl (fun _ => rfl) ?_
  refine T_ld 476 (.int (i32 2)) rfl (fun _ => rfl) ?_
  refine T_iadd 477 rfl rfl ?_
  refine L_sl 478 rfl hX (by omega) (by omega) hL rfl ?_
  refine T_i2l 479 rfl rfl (sx_r _ _) ?_
  refine T_ld 481 (.int (i32 32)) rfl (fun _ => rfl) ?_
  refine T_lhv 482 _ rfl (fun _ => rfl) (fun z1 qz1 => ?_)
  refine T_ld 483 (.ref 1000000) rfl (fun _ => rfl) ?_
  refine T_ld 485 (.int (i32 i)) rfl (fun _ => rfl) ?_
  refine T_ld 486 (.int (i32 3)) rfl (fun _ => rfl) ?_
  refine T_iadd 487 rfl rfl ?_
  refine L_sl 488 rfl hX (by omega) (by omega) hL rfl ?_
  refine T_i2l 489 rfl rfl (sx_r _ _) ?_
  refine T_ld 492 (.long (i64 4294967295)) rfl (fun _ => rfl) ?_
  refine T_lhv 493 _ rfl (fun _ => rfl) (fun z2 qz2 => ?_)
  refine T_lhv 494 _ rfl (fun _ => rfl) (fun z3 qz3 => ?_)
  refine T_ld 495 (.ref 1000000) rfl (fun _ => rfl) ?_
  refine T_ld 497 (.int (i32 i)) rfl (fun _ => rfl) ?_
  refine T_ld 498 (.int (i32 4)) rfl (fun _ => rfl) ?_
  refine T_iadd 499 rfl rfl ?_
  refine L_sl 500 rfl hX (by omega) (by omega) hL rfl ?_
  refine T_i2l 501 rfl rfl (sx_r _ _) ?_
  refine T_ld 503 (.int (i32 32)) rfl (fun _ => rfl) ?_
  refine T_lhv 504 _ rfl (fun _ => rfl) (fun z4 qz4 => ?_)
  refine T_ld 505 (.ref 1000000) rfl (fun _ => rfl) ?_
  refine T_ld 507 (.int (i32 i)) rfl (fun _ => rfl) ?_
  refine T_ld 508 (.int (i32 5)) rfl (fun _ => rfl) ?_
  refine T_iadd 509 rfl rfl ?_
  refine L_sl 510 rfl hX (by omega) (by omega) hL rfl ?_
  refine T_i2l 511 rfl rfl (sx_r _ _) ?_
  refine T_ld 514 (.long (i64 4294967295)) rfl (fun _ => rfl) ?_
  refine T_lhv 515 _ rfl (fun _ => rfl) (fun z5 qz5 => ?_)
  refine T_lhv 516 _ rfl (fun _ => rfl) (fun z6 qz6 => ?_)
  refine T_callx 519 166 [.ref 0, .int (i32 (sx xs (i + 1))), .long (i64 z3), .long (i64 z6)] [] rfl (fun _ => rfl) rfl rfl (h_key w K c N 17 (by omega) hK i (i + 6) h0 (by omega) hIK rfl hc hF ⟨by omega, by omega⟩ (sx xs (i + 1)) (sx_r _ _) z3 qz3 z6 qz6) (fun rr7 hr8 => ?_)
  obtain ⟨K1, c1, N1, k1, n1, r1, TK1, IK1, oc1, F1, b1, ⟨g1, P1⟩, rfl⟩ := hr8
  refine Or.inl ⟨_, _, _, _, rfl, ?_⟩
  obtain ⟨g1a, g1b⟩ := g1
  refine T_ns (st' := [.int (i32 r1)]) rfl ?_
  have P1 : (r1 = 0 ∧ 0 ≤ (sx xs (i + 1)) ∧ (sx xs (i + 1)) ≤ 3) ∨ (r1 = 1 ∧ ((sx xs (i + 1)) < 0 ∨ 3 < (sx xs (i + 1)))) := P1
  refine Tm_step (S' := (521, [(5, .int (i32 r1)), (4, .int (i32 i)), (3, .ref 326), (2, .ref 189), (1, .ref 0), (0, .ref 1000000)], [], (khp K1 c1, N1), _, _)) rfl (fun _ => rfl) ?_
  refine T_ld 522 (.ref 189) rfl (fun _ => rfl) ?_
  refine T_ld 523 (.ref 1000000) rfl (fun _ => rfl) ?_
  refine T_ld 525 (.int (i32 i)) rfl (fun _ => rfl) ?_
  refine T_ld 526 (.int (i32 1)) rfl (fun _ => rfl) ?_
  refine T_iadd 527 rfl rfl ?_
  refine L_sl 528 rfl hX (by omega) (by omega) hL rfl ?_
  refine T_ld 529 (.ref 1000000) rfl (fun _ => rfl) ?_
  refine T_ld 531 (.int (i32 i)) rfl (fun _ => rfl) ?_
  refine T_ld 532 (.int (i32 2)) rfl (fun _ => rfl) ?_
  refine T_iadd 533 rfl rfl ?_
  refine L_sl 534 rfl hX (by omega) (by omega) hL rfl ?_
  refine T_i2l 535 rfl rfl (sx_r _ _) ?_
  refine T_ld 537 (.int (i32 32)) rfl (fun _ => rfl) ?_
  refine T_lhv 538 _ rfl (fun _ => rfl) (fun z9 qz9 => ?_)
  refine T_ld 539 (.ref 1000000) rfl (fun _ => rfl) ?_
  refine T_ld 541 (.int (i32 i)) rfl (fun _ => rfl) ?_
  refine T_ld 542 (.int (i32 3)) rfl (fun _ => rfl) ?_
  refine T_iadd 543 rfl rfl ?_
  refine L_sl 544 rfl hX (by omega) (by omega) hL rfl ?_
  refine T_i2l 545 rfl rfl (sx_r _ _) ?_
  refine T_ld 548 (.long (i64 4294967295)) rfl (fun _ => rfl) ?_
  refine T_lhv 549 _ rfl (fun _ => rfl) (fun z10 qz10 => ?_)
  refine T_lhv 550 _ rfl (fun _ => rfl) (fun z11 qz11 => ?_)
  refine T_ld 551 (.ref 1000000) rfl (fun _ => rfl) ?_
  refine T_ld 553 (.int (i32 i)) rfl (fun _ => rfl) ?_
  refine T_ld 554 (.int (i32 4)) rfl (fun _ => rfl) ?_
  refine T_iadd 555 rfl rfl ?_
  refine L_sl 556 rfl hX (by omega) (by omega) hL rfl ?_
  refine T_i2l 557 rfl rfl (sx_r _ _) ?_
  refine T_ld 559 (.int (i32 32)) rfl (fun _ => rfl) ?_
  refine T_lhv 560 _ rfl (fun _ => rfl) (fun z12 qz12 => ?_)
  refine T_ld 561 (.ref 1000000) rfl (fun _ => rfl) ?_
  refine T_ld 563 (.int (i32 i)) rfl (fun _ => rfl) ?_
  refine T_ld 564 (.int (i32 5)) rfl (fun _ => rfl) ?_
  refine T_iadd 565 rfl rfl ?_
  refine L_sl 566 rfl hX (by omega) (by omega) hL rfl ?_
  refine T_i2l 567 rfl rfl (sx_r _ _) ?_
  refine T_ld 570 (.long (i64 4294967295)) rfl (fun _ => rfl) ?_
  refine T_lhv 571 _ rfl (fun _ => rfl) (fun z13 qz13 => ?_)
  refine T_lhv 572 _ rfl (fun _ => rfl) (fun z14 qz14 => ?_)
  refine L_ref (m := m) 575 309 [.long (i64 z14), .long (i64 z11), .int (i32 (sx xs (i + 1)))] [] rfl rfl rfl rfl rfl rfl rfl TK1 (OC_m oc1 hm) (c_key2 w m (khp K1 c1) N1 17 (by omega) hM (sx xs (i + 1)) z11 z14 (sx_r _ _) qz11 qz14 ) (fun rr15 hr16 => ?_)
  obtain ⟨M2, TM, FM, kq, rfl⟩ := hr16
  refine ⟨_, M2, rfl, ?_⟩
  refine T_ns (st' := []) rfl ?_
  refine T_goto 966 rfl (fun _ => rfl) ?_
  refine Tm_lv (a := LV i) (b := [(5, .int (i32 r1)), (4, .int (i32 i)), (3, .ref 326), (2, .ref 189), (1, .ref 0), (0, .ref 1000000)]) rfl rfl ⟨rfl, rfl, rfl, rfl, rfl, trivial⟩ (H K1 M2 (mhp M2 c1) N1 _ _ ⟨TK1, TM, IK1, (IM_f hIM (show i ≤ i + 6 by omega) FM rfl), mhp_id, (show ∃ F, mhp M2 c1 326 = some (ocl F) from by rw [mhp_lo (by omega)]; exact oc1.2), F1, by omega, by omega, by omega, by omega⟩)
set_option maxHeartbeats 4000000 in
theorem lw_11 {w : wX} {L : Nat} {xs : Nat → Int32} {Q : ag_Re af_T → Prop} {K m : mR} {c : Nat → Option am_C} {N nc ns : Nat} {i : Int} (hX : w.1 = (some L, fun j => some (xs j))) (h0 : 0 ≤ i) (h1 : i + 6 ≤ L) (hL : L ≤ 3072) (hI : LI i K m c N nc ns) (H : ∀ K m c N nc ns, LI (i + 6) K m c N nc ns → TT w 17 pm_0 (966, LV i, [], (khp K c, N), nc, ns) Q) : TT w 17 pm_0 (578, LV i, [], (khp K c, N), nc, ns) Q := by
  obtain ⟨hK, hM, hIK, hIM, hm, hc, hF, hN, hN2, hn1, hn2⟩ := hI
  obtain ⟨m_ct, m_pth, m_pld, m_hNM0, m_hFA0, m_hPA0, m_hHB0, m_wCN, m_wSO, m_wSt, m_wTd, m_wAc, m_wTb, m_wIN, m_wHO, m_wAR, m_wSp, m_wEM, m_wNA, m_hEMp, m_hEAp, m_hLT, m_pin, m_pou⟩ := id hIM
  refine T_ld 579 (.ref 0) rfl (fun _ => rfl) ?_
  refine T_ld 580 (.ref 1000000) rfl (fun _ => rfl) ?_
  refine T_ld 582 (.int (i32 i)) rfl (fun _ => rfl) ?_
  refine T_ld 583 (.int (i32 1)) rfl (fun _ => rfl) ?_
  refine T_iadd 584 rfl rfl ?_
  refine L_sl 585 rfl hX (by omega) (by omega) hL rfl ?_
  refine T_ld 586 (.ref 1000000) rfl (fun _ => rfl) ?_
  refine T_ld 588 (.int (i32 i)) rfl (fun _ => rfl) ?_
  refine T_ld 589 (.int (i32 2)) rfl (fun _ => rfl) ?_
  refine T_iadd 590 rfl rfl ?_
  refine L_sl 591 rfl hX (by omega) (by omega) hL rfl ?_
  refine T_i2l 592 rfl rfl (sx_r _ _) ?_
  refine T_ld 594 (.int (i32 32)) rfl (fun _ => rfl) ?_
  refine T_lhv 595 _ rfl (fun _ => rfl) (fun z1 qz1 => ?_)
  refine T_ld 596 (.ref 1000000) rfl (fun _ => rfl) ?_
  refine T_ld 598 (.int (i32 i)) rfl (fun _ => rfl) ?_
  refine T_ld 599 (.int (i32 3)) rfl (fun _ => rfl) ?_
  refine T_iadd 600 rfl rfl ?_
  refine L_sl 601 rfl hX (by omega) (by omega) hL rfl ?_
  refine T_i2l 602 rfl rfl (sx_r _ _) ?_
  refine T_ld 605 (.long (i64 4294967295)) rfl (fun _ => rfl) ?_
  refine T_lhv 606 _ rfl (fun _ => rfl) (fun z2 qz2 => ?_)
  refine T_lhv 607 _ rfl (fun _ => rfl) (fun z3 qz3 => ?_)
  refine T_callx 610 168 [.ref 0, .int (i32 (sx xs (i + 1))), .long (i64 z3)] [] rfl (fun _ => rfl) rfl rfl (h_datum w K c N 17 (by omega) hK i (i + 6) h0 (by omega) hIK rfl hc hF ⟨by omega, by omega⟩ (sx xs (i + 1)) (sx_r _ _) z3 qz3) (fun rr4 hr5 => ?_)
  obtain ⟨K1, c1, N1, k1, n1, r1, TK1, IK1, oc1, F1, b1, ⟨g1, P1⟩, rfl⟩ := hr5
  refine Or.inl ⟨_, _, _, _, rfl, ?_⟩
  obtain ⟨g1a, g1b⟩ := g1
  refine T_ns (st' := [.int (i32 r1)]) rfl ?_
  have P1 : (r1 = 0 ∧ 0 ≤ (sx xs (i + 1)) ∧ (sx xs (i + 1)) ≤ 3) ∨ (r1 = 1 ∧ ((sx xs (i + 1)) < 0 ∨ 3 < (sx xs (i + 1)))) := P1
  refine Tm_step (S' := (612, [(5, .int (i32 r1)), (4, .int (i32 i)), (3, .ref 326), (2, .ref 189), (1, .ref 0), (0, .ref 1000000)], [], (khp K1 c1, N1), _, _)) rfl (fun _ => rfl) ?_
  refine T_ld 613 (.ref 189) rfl (fun _ => rfl) ?_
  refine T_ld 614 (.ref 1000000) rfl (fun _ => rfl) ?_
  refine T_ld 616 (.int (i32 i)) rfl (fun _ => rfl) ?_
  refine T_ld 617 (.int (i32 1)) rfl (fun _ => rfl) ?_
  refine T_iadd 618 rfl rfl ?_
  refine L_sl 619 rfl hX (by omega) (by omega) hL rfl ?_
  refine T_ld 620 (.ref 1000000) rfl (fun _ => rfl) ?_
  refine T_ld 622 (.int (i32 i)) rfl (fun _ => rfl) ?_
  refine T_ld 623 (.int (i32 2)) rfl (fun _ => rfl) ?_
  refine T_iadd 624 rfl rfl ?_
  refine L_sl 625 rfl hX (by omega) (by omega) hL rfl ?_
  refine T_i2l 626 rfl rfl (sx_r _ _) ?_
  refine T_ld 628 (.int (i32 32)) rfl (fun _ => rfl) ?_
  refine T_lhv 629 _ rfl (fun _ => rfl) (fun z6 qz6 => ?_)
  refine T_ld 630 (.ref 1000000) rfl (fun _ => rfl) ?_
  refine T_ld 632 (.int (i32 i)) rfl (fun _ => rfl) ?_
  refine T_ld 633 (.int (i32 3)) rfl (fun _ => rfl) ?_
  refine T_iadd 634 rfl rfl ?_
  refine L_sl 635 rfl hX (by omega) (by omega) hL rfl ?_
  refine T_i2l 636 rfl rfl (sx_r _ _) ?_
  refine T_ld 639 (.long (i64 4294967295)) rfl (fun _ => rfl) ?_
  refine T_lhv 640 _ rfl (fun _ => rfl) (fun z7 qz7 => ?_)
  refine T_lhv 641 _ rfl (fun _ => rfl) (fun z8 qz8 => ?_)
  refine L_ref (m := m) 644 310 [.long (i64 z8), .int (i32 (sx xs (i + 1)))] [] rfl rfl rfl rfl rfl rfl rfl TK1 (OC_m oc1 hm) (c_datum2 w m (khp K1 c1) N1 17 (by omega) hM (sx xs (i + 1)) z8 (sx_r _ _) qz8 ) (fun rr9 hr10 => ?_)
  obtain ⟨M2, TM, FM, kq, rfl⟩ := hr10
  refine ⟨_, M2, rfl, ?_⟩
  refine T_ns (st' := []) rfl ?_
  refine T_ld 645 (.ref 189) rfl (fun _ => rfl) ?_
  refine L_ref (m := M2) 648 207 [] [] rfl rfl rfl rfl rfl rfl rfl TK1 mhp_id (c_thrown2 w M2 (khp K1 (mhp M2 c1)) N1 17 (by omega) TM  ) (fun rr11 hr12 => ?_)
  obtain ⟨r2, g2, tq, rfl⟩ := hr12
  refine ⟨_, M2, rfl, ?_⟩
  refine T_ns (st' := [.int (i32 r2)]) rfl ?_
  refine T_ld 650 (.int (i32 r1)) rfl (fun _ => rfl) ?_
  refine T_icmp 655 653 rfl rfl rfl ⟨by omega, by omega⟩ ⟨by omega, by omega⟩ (fun _ => ?_) (fun (h9 : ¬ _ = _) => absurd (show _ = _ by omega) h9)
  refine T_goto 966 rfl (fun _ => rfl) ?_
  refine Tm_lv (a := LV i) (b := [(5, .int (i32 r1)), (4, .int (i32 i)), (3, .ref 326), (2, .ref 189), (1, .ref 0), (0, .ref 1000000)]) rfl rfl ⟨rfl, rfl, rfl, rfl, rfl, trivial⟩ (H K1 M2 (mhp M2 (mhp M2 c1)) N1 _ _ ⟨TK1, TM, IK1, (IM_f hIM (show i ≤ i + 6 by omega) FM rfl), mhp_id, (show ∃ F, mhp M2 (mhp M2 c1) 326 = some (ocl F) from by rw [mhp_lo (by omega)]; exact (show ∃ F, mhp M2 c1 326 = some (ocl F) from by rw [mhp_lo (by omega)]; exact oc1.2)), F1, by omega, by omega, by omega, by omega⟩)
set_option maxHeartbeats 4000000 in
theorem lw_12 {w : wX} {L : Nat} {xs : Nat → Int32} {Q : ag_Re af_T → Prop} {K m : mR} {c : Nat → Option am_C} {N nc ns : Nat} {i : Int} (hX : w.1 = (some L, fun j => some (xs j))) (h0 : 0 ≤ i) (h1 : i + 6 ≤ L) (hL : L ≤ 3072) (hI : LI i K m c N nc ns) (H : ∀ K m c N nc ns, LI (i + 6) K m c N nc ns → TT w 17 pm_0 (966, LV i, [], (khp K c, N), nc, ns) Q) : TT w 17 pm_0 (658, LV i, [], (khp K c, N), nc, ns) Q := by
  obtain ⟨hK, hM, hIK, hIM, hm, hc, hF, hN, hN2, hn1, hn2⟩ := hI
  obtain ⟨m_ct, m_pth, m_pld, m_hNM0, m_hFA0, m_hPA0, m_hHB0, m_wCN, m_wSO, m_wSt, m_wTd, m_wAc, m_wTb, m_wIN, m_wHO, m_wAR, m_wSp, m_wEM, m_wNA, m_hEMp, m_hEAp, m_hLT, m_pin, m_pou⟩ := id hIM
  refine T_ld 659 (.ref 0) rfl (fun _ => rfl) ?_
  refine T_ld 660 (.ref 1000000) rfl (fun _ => rfl) ?_
  refine T_ld 662 (.int (i32 i)) rfl (fun _ => rfl) ?_
  refine T_ld 663 (.int (i32 1)) rfl (fun _ => rfl) ?_
  refine T_iadd 664 rfl rfl ?_
  refine L_sl 665 rfl hX (by omega) (by omega) hL rfl ?_
  refine T_ld 666 (.ref 1000000) rfl (fun _ => rfl) ?_
  refine T_ld 668 (.int (i32 i)) rfl (fun _ => rfl) ?_
  refine T_ld 669 (.int (i32 2)) rfl (fun _ => rfl) ?_
  refine T_iadd 670 rfl rfl ?_
  refine L_sl 671 rfl hX (by omega) (by omega) hL rfl ?_
  refine T_ld 672 (.ref 1000000) rfl (fun _ => rfl) ?_
  refine T_ld 674 (.int (i32 i)) rfl (fun _ => rfl) ?_
  refine T_ld 675 (.int (i32 3)) rfl (fun _ => rfl) ?_
  refine T_iadd 676 rfl rfl ?_
  refine L_sl 677 rfl hX (by omega) (by omega) hL rfl ?_
  refine T_ld 678 (.ref 1000000) rfl (fun _ => rfl) ?_
  refine T_ld 680 (.int (i32 i)) rfl (fun _ => rfl) ?_
  refine T_ld 681 (.int (i32 4)) rfl (fun _ => rfl) ?_
  refine T_iadd 682 rfl rfl ?_
  refine L_sl 683 rfl hX (by omega) (by omega) hL rfl ?_
  refine T_ld 684 (.ref 326) rfl (fun _ => rfl) ?_
  refine T_callx 687 170 [.ref 0, .int (i32 (sx xs (i + 1))), .int (i32 (sx xs (i + 2))), .int (i32 (sx xs (i + 3))), .int (i32 (sx xs (i + 4))), .ref 326] [] rfl (fun _ => rfl) rfl rfl (h_entry w K c N 17 (by omega) hK i (i + 6) h0 (by omega) hIK rfl hc hF ⟨by omega, by omega⟩ (sx xs (i + 1)) (sx_r _ _) (sx xs (i + 2)) (sx_r _ _) (sx xs (i + 3)) (sx_r _ _) (sx xs (i + 4)) (sx_r _ _)) (fun rr1 hr2 => ?_)
  obtain ⟨K1, c1, N1, k1, n1, r1, TK1, IK1, oc1, F1, b1, ⟨g1, P1⟩, rfl⟩ := hr2
  refine Or.inl ⟨_, _, _, _, rfl, ?_⟩
  obtain ⟨g1a, g1b⟩ := g1
  refine T_ns (st' := [.int (i32 r1)]) rfl ?_
  refine Tm_step (S' := (689, [(5, .int (i32 r1)), (4, .int (i32 i)), (3, .ref 326), (2, .ref 189), (1, .ref 0), (0, .ref 1000000)], [], (khp K1 c1, N1), _, _)) rfl (fun _ => rfl) ?_
  refine T_ld 690 (.ref 189) rfl (fun _ => rfl) ?_
  refine T_ld 691 (.ref 1000000) rfl (fun _ => rfl) ?_
  refine T_ld 693 (.int (i32 i)) rfl (fun _ => rfl) ?_
  refine T_ld 694 (.int (i32 1)) rfl (fun _ => rfl) ?_
  refine T_iadd 695 rfl rfl ?_
  refine L_sl 696 rfl hX (by omega) (by omega) hL rfl ?_
  refine T_ld 697 (.ref 1000000) rfl (fun _ => rfl) ?_
  refine T_ld 699 (.int (i32 i)) rfl (fun _ => rfl) ?_
  refine T_ld 700 (.int (i32 2)) rfl (fun _ => rfl) ?_
  refine T_iadd 701 rfl rfl ?_
  refine L_sl 702 rfl hX (by omega) (by omega) hL rfl ?_
  refine T_ld 703 (.ref 1000000) rfl (fun _ => rfl) ?_
  refine T_ld 705 (.int (i32 i)) rfl (fun _ => rfl) ?_
  refine T_ld 706 (.int (i32 3)) rfl (fun _ => rfl) ?_
  refine T_iadd 707 rfl rfl ?_
  refine L_sl 708 rfl hX (by omega) (by omega) hL rfl ?_
  refine T_ld 709 (.ref 1000000) rfl (fun _ => rfl) ?_
  refine T_ld 711 (.int (i32 i)) rfl (fun _ => rfl) ?_
  refine T_ld 712 (.int (i32 4)) rfl (fun _ => rfl) ?_
  refine T_iadd 713 rfl rfl ?_
  refine L_sl 714 rfl hX (by omega) (by omega) hL rfl ?_
  refine L_ref (m := m) 717 311 [.int (i32 (sx xs (i + 4))), .int (i32 (sx xs (i + 3))), .int (i32 (sx xs (i + 2))), .int (i32 (sx xs (i + 1)))] [] rfl rfl rfl rfl rfl rfl rfl TK1 (OC_m oc1 hm) (c_entry w m (khp K1 c1) N1 17 (by omega) hM (sx xs (i + 1)) (sx xs (i + 2)) (sx xs (i + 3)) (sx xs (i + 4)) (sx_r _ _) (sx_r _ _) (sx_r _ _) (sx_r _ _) (by omega) m_hLT) (fun rr3 hr4 => ?_)
  obtain ⟨M2, r2, TM, FM, g2, pq0, pq1, pq2, rfl⟩ := hr4
  refine ⟨_, M2, rfl, ?_⟩
  refine T_ns (st' := [.int (i32 r2)]) rfl ?_
  have him : IM (i + 6) M2 := ⟨(show (M2.1 148) ≤ (i + 6) ∧ (M2.1 152) ≤ 20 * (i + 6) by rw [fr1 FM 152 rfl]; omega), (show (M2.1 127) = 0 ∨ (M2.1 127) = 1 by rw [fr1 FM 127 rfl]; omega), (show (M2.1 128) = 1 → (M2.1 127) = 1 by rw [fr1 FM 128 rfl, fr1 FM 127 rfl]; omega), (show ∀ k, (M2.2 14) k + (M2.2 15) k ≤ 4000 by rw [fr2 FM 14 rfl, fr2 FM 15 rfl]; exact m_hNM0), (show ∀ k, (M2.2 31) k + (M2.2 32) k ≤ 4000 by rw [fr2 FM 31 rfl, fr2 FM 32 rfl]; exact m_hFA0), (show ∀ k, (M2.2 47) k + (M2.2 48) k ≤ 4000 by rw [fr2 FM 47 rfl, fr2 FM 48 rfl]; exact m_hPA0), (show HBi (M2.2 29) (M2.2 30) (M2.2 33) by rw [fr2 FM 29 rfl, fr2 FM 30 rfl, fr2 FM 33 rfl]; exact m_hHB0), (show (M2.1 127) = 1 → CN (M2.2 65) (M2.2 67) (M2.1 28) by rw [fr1 FM 127 rfl, fr2 FM 65 rfl, fr2 FM 67 rfl, fr1 FM 28 rfl]; exact m_wCN), (show (M2.1 127) = 1 → SOp (M2.2 38) (M2.1 23) (M2.1 24) by rw [fr1 FM 127 rfl, fr2 FM 38 rfl, fr1 FM 23 rfl, fr1 FM 24 rfl]; exact m_wSO), (show (M2.1 127) = 1 → StP (M2.2 65) (M2.1 28) (M2.1 23) (M2.1 24) (M2.2 42) (M2.2 95) (M2.2 96) (M2.2 44) (M2.2 45) by rw [fr1 FM 127 rfl, fr2 FM 65 rfl, fr1 FM 28 rfl, fr1 FM 23 rfl, fr1 FM 24 rfl, fr2 FM 42 rfl, fr2 FM 95 rfl, fr2 FM 96 rfl, fr2 FM 44 rfl, fr2 FM 45 rfl]; exact m_wSt), (show (M2.1 127) = 1 → TdP (M2.2 65) (M2.1 28) (M2.1 22) (M2.1 99) (M2.2 101) (M2.2 103) (M2.2 105) (M2.2 106) (M2.2 107) (M2.2 108) by rw [fr1 FM 127 rfl, fr2 FM 65 rfl, fr1 FM 28 rfl, fr1 FM 22 rfl, fr1 FM 99 rfl, fr2 FM 101 rfl, fr2 FM 103 rfl, fr2 FM 105 rfl, fr2 FM 106 rfl, fr2 FM 107 rfl, fr2 FM 108 rfl]; exact m_wTd), (show (M2.1 127) = 1 → AcP (M2.1 25) (M2.1 99) (M2.2 109) (M2.2 50) by rw [fr1 FM 127 rfl, fr1 FM 25 rfl, fr1 FM 99 rfl, fr2 FM 109 rfl, fr2 FM 50 rfl]; exact m_wAc), (show (M2.1 127) = 1 → TbP (M2.2 65) (M2.1 28) (M2.1 25) (M2.1 26) (M2.2 51) (M2.2 110) (M2.2 111) (M2.2 57) (M2.2 53) (M2.2 114) (M2.2 58) (M2.2 54) by rw [fr1 FM 127 rfl, fr2 FM 65 rfl, fr1 FM 28 rfl, fr1 FM 25 rfl, fr1 FM 26 rfl, fr2 FM 51 rfl, fr2 FM 110 rfl, fr2 FM 111 rfl, fr2 FM 57 rfl, fr2 FM 53 rfl, fr2 FM 114 rfl, fr2 FM 58 rfl, fr2 FM 54 rfl]; exact m_wTb), (show (M2.1 127) = 1 → ∀ k, 0 ≤ k → k < (M2.1 20) → (M2.2 34) k < (M2.1 19) by rw [fr1 FM 127 rfl, fr1 FM 20 rfl, fr2 FM 34 rfl, fr1 FM 19 rfl]; exact m_wIN), (show (M2.1 127) = 1 → ∀ g, 0 ≤ g → g < (M2.1 19) → (M2.2 30) g ≤ 512 by rw [fr1 FM 127 rfl, fr1 FM 19 rfl, fr2 FM 30 rfl]; exact m_wHO), (show (M2.1 127) = 1 → ∀ k, 0 ≤ k → k < (M2.1 22) → 1 ≤ (M2.2 93) k ∧ 1 ≤ (M2.2 36) k by rw [fr1 FM 127 rfl, fr1 FM 22 rfl, fr2 FM 93 rfl, fr2 FM 36 rfl]; exact m_wAR), (show (M2.1 127) = 1 → SpP (M2.2 65) (M2.1 28) (M2.1 99) (M2.1 26) (M2.1 27) (M2.2 60) (M2.2 61) (M2.2 120) (M2.2 121) (M2.2 122) (M2.2 63) by rw [fr1 FM 127 rfl, fr2 FM 65 rfl, fr1 FM 28 rfl, fr1 FM 99 rfl, fr1 FM 26 rfl, fr1 FM 27 rfl, fr2 FM 60 rfl, fr2 FM 61 rfl, fr2 FM 120 rfl, fr2 FM 121 rfl, fr2 FM 122 rfl, fr2 FM 63 rfl]; exact m_wSp), (show (M2.1 127) = 1 → ∀ j, 0 ≤ j → j < (M2.1 125) → (M2.2 124) j < (M2.1 20) by rw [fr1 FM 127 rfl, fr1 FM 125 rfl, fr2 FM 124 rfl, fr1 FM 20 rfl]; exact m_wEM), (show (M2.1 127) = 1 → ∀ q, 0 ≤ q → q < (M2.1 24) → 0 < (M2.2 41) q ∨ NR (M2.2 44) (M2.2 38) (M2.2 42) (M2.2 45) (M2.2 41) (M2.1 24) q by rw [fr1 FM 127 rfl, fr1 FM 24 rfl, fr2 FM 41 rfl, fr2 FM 44 rfl, fr2 FM 38 rfl, fr2 FM 42 rfl, fr2 FM 45 rfl]; exact m_wNA), (show EMp (M2.1 26) (M2.2 139) (M2.2 58) (M2.2 54) by rw [fr1 FM 26 rfl, fr2 FM 139 rfl, fr2 FM 58 rfl, fr2 FM 54 rfl]; exact m_hEMp), (show EAp (M2.1 25) (M2.2 139) (M2.2 141) by rw [fr1 FM 25 rfl, fr2 FM 139 rfl, fr2 FM 141 rfl]; exact m_hEAp), (show ∀ k, 0 ≤ k → k < (M2.1 149) → 0 < (M2.2 153) k → (M2.2 156) k < (M2.1 26) by rw [fr1 FM 26 rfl]; exact pq2), (show (M2.1 150) + (M2.1 149) = (M2.1 148) by rw [fr1 FM 150 rfl]; omega), (show (M2.1 151) ≤ (M2.1 150) by rw [fr1 FM 151 rfl, fr1 FM 150 rfl]; omega)⟩
  refine Tm_step (S' := (719, [(6, .int (i32 r2)), (5, .int (i32 r1)), (4, .int (i32 i)), (3, .ref 326), (2, .ref 189), (1, .ref 0), (0, .ref 1000000)], [], (khp K1 (mhp M2 c1), N1), _, _)) rfl (fun _ => rfl) ?_
  refine T_goto 966 rfl (fun _ => rfl) ?_
  refine Tm_lv (a := LV i) (b := [(6, .int (i32 r2)), (5, .int (i32 r1)), (4, .int (i32 i)), (3, .ref 326), (2, .ref 189), (1, .ref 0), (0, .ref 1000000)]) rfl rfl ⟨rfl, rfl, rfl, rfl, rfl, trivial⟩ (H K1 M2 (mhp M2 c1) N1 _ _ ⟨TK1, TM, IK1, him, mhp_id, (show ∃ F, mhp M2 c1 326 = some (ocl F) from by rw [mhp_lo (by omega)]; exact oc1.2), F1, by omega, by omega, by omega, by omega⟩)
set_option maxHeartbeats 4000000 in
theorem lw_13 {w : wX} {L : Nat} {xs : Nat → Int32} {Q : ag_Re af_T → Prop} {K m : mR} {c : Nat → Option am_C} {N nc ns : Nat} {i : Int} (hX : w.1 = (some L, fun j => some (xs j))) (h0 : 0 ≤ i) (h1 : i + 6 ≤ L) (hL : L ≤ 3072) (hI : LI i K m c N nc ns) (H : ∀ K m c N nc ns, LI (i + 6) K m c N nc ns → TT w 17 pm_0 (966, LV i, [], (khp K c, N), nc, ns) Q) : TT w 17 pm_0 (722, LV i, [], (khp K c, N), nc, ns) Q := by
  obtain ⟨hK, hM, hIK, hIM, hm, hc, hF, hN, hN2, hn1, hn2⟩ := hI
  obtain ⟨m_ct, m_pth, m_pld, m_hNM0, m_hFA0, m_hPA0, m_hHB0, m_wCN, m_wSO, m_wSt, m_wTd, m_wAc, m_wTb, m_wIN, m_wHO, m_wAR, m_wSp, m_wEM, m_wNA, m_hEMp, m_hEAp, m_hLT, m_pin, m_pou⟩ := id hIM
  refine T_ld 723 (.ref 0) rfl (fun _ => rfl) ?_
  refine T_ld 724 (.ref 1000000) rfl (fun _ => rfl) ?_
  refine T_ld 726 (.int (i32 i)) rfl (fun _ => rfl) ?_
  refine T_ld 727 (.int (i32 1)) rfl (fun _ => rfl) ?_
  refine T_iadd 728 rfl rfl ?_
  refine L_sl 729 rfl hX (by omega) (by omega) hL rfl ?_
  refine T_ld 730 (.ref 326) rfl (fun _ => rfl) ?_
  refine T_callx 733 175 [.ref 0, .int (i32 (sx xs (i + 1))), .ref 326] [] rfl (fun _ => rfl) rfl rfl (h_run w K c N 17 (by omega) hK i (i + 6) h0 (by omega) hIK rfl hc hF ⟨by omega, by omega⟩ (sx xs (i + 1)) (sx_r _ _)) (fun rr1 hr2 => ?_)
  obtain ⟨K1, c1, N1, k1, n1, r1, TK1, IK1, oc1, F1, b1, ⟨g1, P1⟩, rfl⟩ := hr2
  refine Or.inl ⟨_, _, _, _, rfl, ?_⟩
  obtain ⟨g1a, g1b⟩ := g1
  refine T_ns (st' := [.int (i32 r1)]) rfl ?_
  refine Tm_step (S' := (735, [(5, .int (i32 r1)), (4, .int (i32 i)), (3, .ref 326), (2, .ref 189), (1, .ref 0), (0, .ref 1000000)], [], (khp K1 c1, N1), _, _)) rfl (fun _ => rfl) ?_
  refine T_ld 736 (.ref 189) rfl (fun _ => rfl) ?_
  refine T_ld 737 (.ref 1000000) rfl (fun _ => rfl) ?_
  refine T_ld 739 (.int (i32 i)) rfl (fun _ => rfl) ?_
  refine T_ld 740 (.int (i32 1)) rfl (fun _ => rfl) ?_
  refine T_iadd 741 rfl rfl ?_
  refine L_sl 742 rfl hX (by omega) (by omega) hL rfl ?_
  refine L_ref (m := m) 745 312 [.int (i32 (sx xs (i + 1)))] [] rfl rfl rfl rfl rfl rfl rfl TK1 (OC_m oc1 hm) (c_run w m (khp K1 c1) N1 17 (by omega) hM (sx xs (i + 1)) (sx_r _ _) m_wCN m_wSO m_wSt m_wTd m_wAc m_wTb m_wIN m_wHO m_wAR m_wSp m_wEM m_wNA m_pld m_pth m_hHB0 m_hEMp m_hEAp m_hLT (by omega) (by omega) (by omega)) (fun rr3 hr4 => ?_)
  obtain ⟨M2, r2, TM, FM, g2, pq0, pq1, pq2, pq3, pq4, pq5, rfl⟩ := hr4
  refine ⟨_, M2, rfl, ?_⟩
  refine T_ns (st' := [.int (i32 r2)]) rfl ?_
  have him : IM (i + 6) M2 := ⟨(show (M2.1 148) ≤ (i + 6) ∧ (M2.1 152) ≤ 20 * (i + 6) by rw [fr1 FM 148 rfl]; omega), (show (M2.1 127) = 0 ∨ (M2.1 127) = 1 by rw [fr1 FM 127 rfl]; omega), (show (M2.1 128) = 1 → (M2.1 127) = 1 by rw [fr1 FM 128 rfl, fr1 FM 127 rfl]; omega), (show ∀ k, (M2.2 14) k + (M2.2 15) k ≤ 4000 by rw [fr2 FM 14 rfl, fr2 FM 15 rfl]; exact m_hNM0), (show ∀ k, (M2.2 31) k + (M2.2 32) k ≤ 4000 by rw [fr2 FM 31 rfl, fr2 FM 32 rfl]; exact m_hFA0), (show ∀ k, (M2.2 47) k + (M2.2 48) k ≤ 4000 by rw [fr2 FM 47 rfl, fr2 FM 48 rfl]; exact m_hPA0), (show HBi (M2.2 29) (M2.2 30) (M2.2 33) by rw [fr2 FM 29 rfl, fr2 FM 30 rfl, fr2 FM 33 rfl]; exact m_hHB0), (show (M2.1 127) = 1 → CN (M2.2 65) (M2.2 67) (M2.1 28) by rw [fr1 FM 127 rfl, fr2 FM 65 rfl, fr2 FM 67 rfl, fr1 FM 28 rfl]; exact m_wCN), (show (M2.1 127) = 1 → SOp (M2.2 38) (M2.1 23) (M2.1 24) by rw [fr1 FM 127 rfl, fr2 FM 38 rfl, fr1 FM 23 rfl, fr1 FM 24 rfl]; exact m_wSO), (show (M2.1 127) = 1 → StP (M2.2 65) (M2.1 28) (M2.1 23) (M2.1 24) (M2.2 42) (M2.2 95) (M2.2 96) (M2.2 44) (M2.2 45) by rw [fr1 FM 127 rfl, fr2 FM 65 rfl, fr1 FM 28 rfl, fr1 FM 23 rfl, fr1 FM 24 rfl, fr2 FM 42 rfl, fr2 FM 95 rfl, fr2 FM 96 rfl, fr2 FM 44 rfl, fr2 FM 45 rfl]; exact m_wSt), (show (M2.1 127) = 1 → TdP (M2.2 65) (M2.1 28) (M2.1 22) (M2.1 99) (M2.2 101) (M2.2 103) (M2.2 105) (M2.2 106) (M2.2 107) (M2.2 108) by rw [fr1 FM 127 rfl, fr2 FM 65 rfl, fr1 FM 28 rfl, fr1 FM 22 rfl, fr1 FM 99 rfl, fr2 FM 101 rfl, fr2 FM 103 rfl, fr2 FM 105 rfl, fr2 FM 106 rfl, fr2 FM 107 rfl, fr2 FM 108 rfl]; exact m_wTd), (show (M2.1 127) = 1 → AcP (M2.1 25) (M2.1 99) (M2.2 109) (M2.2 50) by rw [fr1 FM 127 rfl, fr1 FM 25 rfl, fr1 FM 99 rfl, fr2 FM 109 rfl, fr2 FM 50 rfl]; exact m_wAc), (show (M2.1 127) = 1 → TbP (M2.2 65) (M2.1 28) (M2.1 25) (M2.1 26) (M2.2 51) (M2.2 110) (M2.2 111) (M2.2 57) (M2.2 53) (M2.2 114) (M2.2 58) (M2.2 54) by rw [fr1 FM 127 rfl, fr2 FM 65 rfl, fr1 FM 28 rfl, fr1 FM 25 rfl, fr1 FM 26 rfl, fr2 FM 51 rfl, fr2 FM 110 rfl, fr2 FM 111 rfl, fr2 FM 57 rfl, fr2 FM 53 rfl, fr2 FM 114 rfl, fr2 FM 58 rfl, fr2 FM 54 rfl]; exact m_wTb), (show (M2.1 127) = 1 → ∀ k, 0 ≤ k → k < (M2.1 20) → (M2.2 34) k < (M2.1 19) by rw [fr1 FM 127 rfl, fr1 FM 20 rfl, fr2 FM 34 rfl, fr1 FM 19 rfl]; exact m_wIN), (show (M2.1 127) = 1 → ∀ g, 0 ≤ g → g < (M2.1 19) → (M2.2 30) g ≤ 512 by rw [fr1 FM 127 rfl, fr1 FM 19 rfl, fr2 FM 30 rfl]; exact m_wHO), (show (M2.1 127) = 1 → ∀ k, 0 ≤ k → k < (M2.1 22) → 1 ≤ (M2.2 93) k ∧ 1 ≤ (M2.2 36) k by rw [fr1 FM 127 rfl, fr1 FM 22 rfl, fr2 FM 93 rfl, fr2 FM 36 rfl]; exact m_wAR), (show (M2.1 127) = 1 → SpP (M2.2 65) (M2.1 28) (M2.1 99) (M2.1 26) (M2.1 27) (M2.2 60) (M2.2 61) (M2.2 120) (M2.2 121) (M2.2 122) (M2.2 63) by rw [fr1 FM 127 rfl, fr2 FM 65 rfl, fr1 FM 28 rfl, fr1 FM 99 rfl, fr1 FM 26 rfl, fr1 FM 27 rfl, fr2 FM 60 rfl, fr2 FM 61 rfl, fr2 FM 120 rfl, fr2 FM 121 rfl, fr2 FM 122 rfl, fr2 FM 63 rfl]; exact m_wSp), (show (M2.1 127) = 1 → ∀ j, 0 ≤ j → j < (M2.1 125) → (M2.2 124) j < (M2.1 20) by rw [fr1 FM 127 rfl, fr1 FM 125 rfl, fr2 FM 124 rfl, fr1 FM 20 rfl]; exact m_wEM), (show (M2.1 127) = 1 → ∀ q, 0 ≤ q → q < (M2.1 24) → 0 < (M2.2 41) q ∨ NR (M2.2 44) (M2.2 38) (M2.2 42) (M2.2 45) (M2.2 41) (M2.1 24) q by rw [fr1 FM 127 rfl, fr1 FM 24 rfl, fr2 FM 41 rfl, fr2 FM 44 rfl, fr2 FM 38 rfl, fr2 FM 42 rfl, fr2 FM 45 rfl]; exact m_wNA), (show EMp (M2.1 26) (M2.2 139) (M2.2 58) (M2.2 54) by rw [fr1 FM 26 rfl, fr2 FM 58 rfl, fr2 FM 54 rfl]; exact pq0), (show EAp (M2.1 25) (M2.2 139) (M2.2 141) by rw [fr1 FM 25 rfl]; exact pq1), (show ∀ k, 0 ≤ k → k < (M2.1 149) → 0 < (M2.2 153) k → (M2.2 156) k < (M2.1 26) by rw [fr1 FM 26 rfl]; exact pq2), (show (M2.1 150) + (M2.1 149) = (M2.1 148) by rw [fr1 FM 148 rfl]; omega), (show (M2.1 151) ≤ (M2.1 150) by omega)⟩
  refine Tm_step (S' := (747, [(6, .int (i32 r2)), (5, .int (i32 r1)), (4, .int (i32 i)), (3, .ref 326), (2, .ref 189), (1, .ref 0), (0, .ref 1000000)], [], (khp K1 (mhp M2 c1), N1), _, _)) rfl (fun _ => rfl) ?_
  refine T_goto 966 rfl (fun _ => rfl) ?_
  refine Tm_lv (a := LV i) (b := [(6, .int (i32 r2)), (5, .int (i32 r1)), (4, .int (i32 i)), (3, .ref 326), (2, .ref 189), (1, .ref 0), (0, .ref 1000000)]) rfl rfl ⟨rfl, rfl, rfl, rfl, rfl, trivial⟩ (H K1 M2 (mhp M2 c1) N1 _ _ ⟨TK1, TM, IK1, him, mhp_id, (show ∃ F, mhp M2 c1 326 = some (ocl F) from by rw [mhp_lo (by omega)]; exact oc1.2), F1, by omega, by omega, by omega, by omega⟩)
set_option maxHeartbeats 4000000 in
theorem lw_14 {w : wX} {L : Nat} {xs : Nat → Int32} {Q : ag_Re af_T → Prop} {K m : mR} {c : Nat → Option am_C} {N nc ns : Nat} {i : Int} (hX : w.1 = (some L, fun j => some (xs j))) (h0 : 0 ≤ i) (h1 : i + 6 ≤ L) (hL : L ≤ 3072) (hI : LI i K m c N nc ns) (H : ∀ K m c N nc ns, LI (i + 6) K m c N nc ns → TT w 17 pm_0 (966, LV i, [], (khp K c, N), nc, ns) Q) : TT w 17 pm_0 (750, LV i, [], (khp K c, N), nc, ns) Q := by
  obtain ⟨hK, hM, hIK, hIM, hm, hc, hF, hN, hN2, hn1, hn2⟩ := hI
  obtain ⟨m_ct, m_pth, m_pld, m_hNM0, m_hFA0, m_hPA0, m_hHB0, m_wCN, m_wSO, m_wSt, m_wTd, m_wAc, m_wTb, m_wIN, m_wHO, m_wAR, m_wSp, m_wEM, m_wNA, m_hEMp, m_hEAp, m_hLT, m_pin, m_pou⟩ := id hIM
  refine T_ld 751 (.ref 0) rfl (fun _ => rfl) ?_
  refine T_ld 752 (.ref 1000000) rfl (fun _ => rfl) ?_
  refine T_ld 754 (.int (i32 i)) rfl (fun _ => rfl) ?_
  refine T_ld 755 (.int (i32 1)) rfl (fun _ => rfl) ?_
  refine T_iadd 756 rfl rfl ?_
  refine L_sl 757 rfl hX (by omega) (by omega) hL rfl ?_
  refine T_ld 758 (.ref 1000000) rfl (fun _ => rfl) ?_
  refine T_ld 760 (.int (i32 i)) rfl (fun _ => rfl) ?_
  refine T_ld 761 (.int (i32 2)) rfl (fun _ => rfl) ?_
  refine T_iadd 762 rfl rfl ?_
  refine L_sl 763 rfl hX (by omega) (by omega) hL rfl ?_
  refine T_callx 766 34 [.ref 0, .int (i32 (sx xs (i + 1))), .int (i32 (sx xs (i + 2)))] [] rfl (fun _ => rfl) rfl rfl (c_pw_out w K c N 17 (by omega) hK (sx xs (i + 1)) (sx xs (i + 2)) (sx_r _ _) (sx_r _ _)) (fun rr1 hr2 => ?_)
  obtain ⟨r1, g1, rfl⟩ := hr2
  refine Or.inl ⟨_, _, _, _, rfl, ?_⟩
  refine T_ns (st' := [.int (i32 r1)]) rfl ?_
  refine T_pop 767 rfl (fun _ => rfl) ?_
  refine T_ld 768 (.ref 189) rfl (fun _ => rfl) ?_
  refine T_ld 769 (.ref 1000000) rfl (fun _ => rfl) ?_
  refine T_ld 771 (.int (i32 i)) rfl (fun _ => rfl) ?_
  refine T_ld 772 (.int (i32 1)) rfl (fun _ => rfl) ?_
  refine T_iadd 773 rfl rfl ?_
  refine L_sl 774 rfl hX (by omega) (by omega) hL rfl ?_
  refine T_ld 775 (.ref 1000000) rfl (fun _ => rfl) ?_
  refine T_ld 777 (.int (i32 i)) rfl (fun _ => rfl) ?_
  refine T_ld 778 (.int (i32 2)) rfl (fun _ => rfl) ?_
  refine T_iadd 779 rfl rfl ?_
  refine L_sl 780 rfl hX (by omega) (by omega) hL rfl ?_
  refine L_ref (m := m) 783 342 [.int (i32 (sx xs (i + 2))), .int (i32 (sx xs (i + 1)))] [] rfl rfl rfl rfl rfl rfl rfl hK hm (c_out w m (khp K c) N 17 (by omega) hM (sx xs (i + 1)) (sx xs (i + 2)) (sx_r _ _) (sx_r _ _) ) (fun rr3 hr4 => ?_)
  obtain ⟨M2, r2, TM, FM, g2, rfl⟩ := hr4
  refine ⟨_, M2, rfl, ?_⟩
  refine T_ns (st' := [.int (i32 r2)]) rfl ?_
  refine T_pop 784 rfl (fun _ => rfl) ?_
  refine T_goto 966 rfl (fun _ => rfl) ?_
  refine Tm_lv (a := LV i) (b := [(4, .int (i32 i)), (3, .ref 326), (2, .ref 189), (1, .ref 0), (0, .ref 1000000)]) rfl rfl ⟨rfl, rfl, rfl, rfl, rfl, trivial⟩ (H K M2 (mhp M2 c) N _ _ ⟨hK, TM, (IK_i hIK (show i ≤ i + 6 by omega)), (IM_f hIM (show i ≤ i + 6 by omega) FM rfl), mhp_id, (show ∃ F, mhp M2 c 326 = some (ocl F) from by rw [mhp_lo (by omega)]; exact hc), hF, by omega, by omega, by omega, by omega⟩)
set_option maxHeartbeats 4000000 in
theorem lw_15 {w : wX} {L : Nat} {xs : Nat → Int32} {Q : ag_Re af_T → Prop} {K m : mR} {c : Nat → Option am_C} {N nc ns : Nat} {i : Int} (hX : w.1 = (some L, fun j => some (xs j))) (h0 : 0 ≤ i) (h1 : i + 6 ≤ L) (hL : L ≤ 3072) (hI : LI i K m c N nc ns) (H : ∀ K m c N nc ns, LI (i + 6) K m c N nc ns → TT w 17 pm_0 (966, LV i, [], (khp K c, N), nc, ns) Q) : TT w 17 pm_0 (787, LV i, [], (khp K c, N), nc, ns) Q := by
  obtain ⟨hK, hM, hIK, hIM, hm, hc, hF, hN, hN2, hn1, hn2⟩ := hI
  obtain ⟨m_ct, m_pth, m_pld, m_hNM0, m_hFA0, m_hPA0, m_hHB0, m_wCN, m_wSO, m_wSt, m_wTd, m_wAc, m_wTb, m_wIN, m_wHO, m_wAR, m_wSp, m_wEM, m_wNA, m_hEMp, m_hEAp, m_hLT, m_pin, m_pou⟩ := id hIM
  refine T_ld 788 (.ref 0) rfl (fun _ => rfl) ?_
  refine T_ld 789 (.ref 1000000) rfl (fun _ => rfl) ?_
  refine T_ld 791 (.int (i32 i)) rfl (fun _ => rfl) ?_
  refine T_ld 792 (.int (i32 1)) rfl (fun _ => rfl) ?_
  refine T_iadd 793 rfl rfl ?_
  refine L_sl 794 rfl hX (by omega) (by omega) hL rfl ?_
  refine T_ld 795 (.ref 1000000) rfl (fun _ => rfl) ?_
  refine T_ld 797 (.int (i32 i)) rfl (fun _ => rfl) ?_
  refine T_ld 798 (.int (i32 2)) rfl (fun _ => rfl) ?_
  refine T_iadd 799 rfl rfl ?_
  refine L_sl 800 rfl hX (by omega) (by omega) hL rfl ?_
  refine T_callx 803 37 [.ref 0, .int (i32 (sx xs (i + 1))), .int (i32 (sx xs (i + 2)))] [] rfl (fun _ => rfl) rfl rfl (c_pw_byteAt w K c N 17 (by omega) hK (sx xs (i + 1)) (sx xs (i + 2)) (sx_r _ _) (sx_r _ _)) (fun rr1 hr2 => ?_)
  obtain ⟨r1, g1, rfl⟩ := hr2
  refine Or.inl ⟨_, _, _, _, rfl, ?_⟩
  refine T_ns (st' := [.int (i32 r1)]) rfl ?_
  refine T_pop 804 rfl (fun _ => rfl) ?_
  refine T_ld 805 (.ref 189) rfl (fun _ => rfl) ?_
  refine T_ld 806 (.ref 1000000) rfl (fun _ => rfl) ?_
  refine T_ld 808 (.int (i32 i)) rfl (fun _ => rfl) ?_
  refine T_ld 809 (.int (i32 1)) rfl (fun _ => rfl) ?_
  refine T_iadd 810 rfl rfl ?_
  refine L_sl 811 rfl hX (by omega) (by omega) hL rfl ?_
  refine T_ld 812 (.ref 1000000) rfl (fun _ => rfl) ?_
  refine T_ld 814 (.int (i32 i)) rfl (fun _ => rfl) ?_
  refine T_ld 815 (.int (i32 2)) rfl (fun _ => rfl) ?_
  refine T_iadd 816 rfl rfl ?_
  refine L_sl 817 rfl hX (by omega) (by omega) hL rfl ?_
  refine L_ref (m := m) 820 344 [.int (i32 (sx xs (i + 2))), .int (i32 (sx xs (i + 1)))] [] rfl rfl rfl rfl rfl rfl rfl hK hm (c_byteAt2 w m (khp K c) N 17 (by omega) hM (sx xs (i + 1)) (sx xs (i + 2)) (sx_r _ _) (sx_r _ _) ) (fun rr3 hr4 => ?_)
  obtain ⟨M2, r2, TM, FM, g2, rfl⟩ := hr4
  refine ⟨_, M2, rfl, ?_⟩
  refine T_ns (st' := [.int (i32 r2)]) rfl ?_
  refine T_pop 821 rfl (fun _ => rfl) ?_
  refine T_goto 966 rfl (fun _ => rfl) ?_
  refine Tm_lv (a := LV i) (b := [(4, .int (i32 i)), (3, .ref 326), (2, .ref 189), (1, .ref 0), (0, .ref 1000000)]) rfl rfl ⟨rfl, rfl, rfl, rfl, rfl, trivial⟩ (H K M2 (mhp M2 c) N _ _ ⟨hK, TM, (IK_i hIK (show i ≤ i + 6 by omega)), (IM_f hIM (show i ≤ i + 6 by omega) FM rfl), mhp_id, (show ∃ F, mhp M2 c 326 = some (ocl F) from by rw [mhp_lo (by omega)]; exact hc), hF, by omega, by omega, by omega, by omega⟩)
set_option maxHeartbeats 4000000 in
theorem lw_16 {w : wX} {L : Nat} {xs : Nat → Int32} {Q : ag_Re af_T → Prop} {K m : mR} {c : Nat → Option am_C} {N nc ns : Nat} {i : Int} (hX : w.1 = (some L, fun j => some (xs j))) (h0 : 0 ≤ i) (h1 : i + 6 ≤ L) (hL : L ≤ 3072) (hI : LI i K m c N nc ns) (H : ∀ K m c N nc ns, LI (i + 6) K m c N nc ns → TT w 17 pm_0 (966, LV i, [], (khp K c, N), nc, ns) Q) : TT w 17 pm_0 (824, LV i, [], (khp K c, N), nc, ns) Q := by
  obtain ⟨hK, hM, hIK, hIM, hm, hc, hF, hN, hN2, hn1, hn2⟩ := hI
  obtain ⟨m_ct, m_pth, m_pld, m_hNM0, m_hFA0, m_hPA0, m_hHB0, m_wCN, m_wSO, m_wSt, m_wTd, m_wAc, m_wTb, m_wIN, m_wHO, m_wAR, m_wSp, m_wEM, m_wNA, m_hEMp, m_hEAp, m_hLT, m_pin, m_pou⟩ := id hIM
  refine T_ld 825 (.ref 0) rfl (fun _ => rfl) ?_
  refine T_ld 826 (.ref 1000000) rfl (fun _ => rfl) ?_
  refine T_ld 828 (.int (i32 i)) rfl (fun _ => rfl) ?_
  refine T_ld 829 (.int (i32 1)) rfl (fun _ => rfl) ?_
  refine T_iadd 830 rfl rfl ?_
  refine L_sl 831 rfl hX (by omega) (by omega) hL rfl ?_
  refine T_ld 832 (.ref 1000000) rfl (fun _ => rfl) ?_
  refine T_ld 834 (.int (i32 i)) rfl (fun _ => rfl) ?_
  refine T_ld 835 (.int (i32 2)) rfl (fun _ => rfl) ?_
  refine T_iadd 836 rfl rfl ?_
  refine L_sl 837 rfl hX (by omega) (by omega) hL rfl ?_
  refine T_callx 840 38 [.ref 0, .int (i32 (sx xs (i + 1))), .int (i32 (sx xs (i + 2)))] [] rfl (fun _ => rfl) rfl rfl (c_pw_did w K c N 17 (by omega) hK (sx xs (i + 1)) (sx xs (i + 2)) (sx_r _ _) (sx_r _ _)) (fun rr1 hr2 => ?_)
  obtain ⟨r1, g1, rfl⟩ := hr2
  refine Or.inl ⟨_, _, _, _, rfl, ?_⟩
  refine T_ns (st' := [.int (i32 r1)]) rfl ?_
  refine T_pop 841 rfl (fun _ => rfl) ?_
  refine T_ld 842 (.ref 189) rfl (fun _ => rfl) ?_
  refine T_ld 843 (.ref 1000000) rfl (fun _ => rfl) ?_
  refine T_ld 845 (.int (i32 i)) rfl (fun _ => rfl) ?_
  refine T_ld 846 (.int (i32 1)) rfl (fun _ => rfl) ?_
  refine T_iadd 847 rfl rfl ?_
  refine L_sl 848 rfl hX (by omega) (by omega) hL rfl ?_
  refine T_ld 849 (.ref 1000000) rfl (fun _ => rfl) ?_
  refine T_ld 851 (.int (i32 i)) rfl (fun _ => rfl) ?_
  refine T_ld 852 (.int (i32 2)) rfl (fun _ => rfl) ?_
  refine T_iadd 853 rfl rfl ?_
  refine L_sl 854 rfl hX (by omega) (by omega) hL rfl ?_
  refine L_ref (m := m) 857 345 [.int (i32 (sx xs (i + 2))), .int (i32 (sx xs (i + 1)))] [] rfl rfl rfl rfl rfl rfl rfl hK hm (c_did w m (khp K c) N 17 (by omega) hM (sx xs (i + 1)) (sx xs (i + 2)) (sx_r _ _) (sx_r _ _) ) (fun rr3 hr4 => ?_)
  obtain ⟨M2, r2, TM, FM, g2, rfl⟩ := hr4
  refine ⟨_, M2, rfl, ?_⟩
  refine T_ns (st' := [.int (i32 r2)]) rfl ?_
  refine T_pop 858 rfl (fun _ => rfl) ?_
  refine T_goto 966 rfl (fun _ => rfl) ?_
  refine Tm_lv (a := LV i) (b := [(4, .int (i32 i)), (3, .ref 326), (2, .ref 189), (1, .ref 0), (0, .ref 1000000)]) rfl rfl ⟨rfl, rfl, rfl, rfl, rfl, trivial⟩ (H K M2 (mhp M2 c) N _ _ ⟨hK, TM, (IK_i hIK (show i ≤ i + 6 by omega)), (IM_f hIM (show i ≤ i + 6 by omega) FM rfl), mhp_id, (show ∃ F, mhp M2 c 326 = some (ocl F) from by rw [mhp_lo (by omega)]; exact hc), hF, by omega, by omega, by omega, by omega⟩)
set_option maxHeartbeats 4000000 in
theorem lw_17 {w : wX} {L : Nat} {xs : Nat → Int32} {Q : ag_Re af_T → Prop} {K m : mR} {c : Nat → Option am_C} {N nc ns : Nat} {i : Int} (hX : w.1 = (some L, fun j => some (xs j))) (h0 : 0 ≤ i) (h1 : i + 6 ≤ L) (hL : L ≤ 3072) (hI : LI i K m c N nc ns) (H : ∀ K m c N nc ns, LI (i + 6) K m c N nc ns → TT w 17 pm_0 (966, LV i, [], (khp K c, N), nc, ns) Q) : TT w 17 pm_0 (861, LV i, [], (khp K c, N), nc, ns) Q := by
  obtain ⟨hK, hM, hIK, hIM, hm, hc, hF, hN, hN2, hn1, hn2⟩ := hI
  obtain ⟨m_ct, m_pth, m_pld, m_hNM0, m_hFA0, m_hPA0, m_hHB0, m_wCN, m_wSO, m_wSt, m_wTd, m_wAc, m_wTb, m_wIN, m_wHO, m_wAR, m_wSp, m_wEM, m_wNA, m_hEMp, m_hEAp, m_hLT, m_pin, m_pou⟩ := id hIM
  refine T_ld 862 (.ref 0) rfl (fun _ => rfl) ?_
  refine T_ld 863 (.ref 1000000) rfl (fun _ => rfl) ?_
  refine T_ld 865 (.int (i32 i)) rfl (fun _ => rfl) ?_
  refine T_ld 866 (.int (i32 1)) rfl (fun _ => rfl) ?_
  refine T_iadd 867 rfl rfl ?_
  refine L_sl 868 rfl hX (by omega) (by omega) hL rfl ?_
  refine T_ld 869 (.ref 1000000) rfl (fun _ => rfl) ?_
  refine T_ld 871 (.int (i32 i)) rfl (fun _ => rfl) ?_
  refine T_ld 872 (.int (i32 2)) rfl (fun _ => rfl) ?_
  refine T_iadd 873 rfl rfl ?_
  refine L_sl 874 rfl hX (by omega) (by omega) hL rfl ?_
  refine T_ld 875 (.ref 326) rfl (fun _ => rfl) ?_
  refine T_callx 878 202 [.ref 0, .int (i32 (sx xs (i + 1))), .int (i32 (sx xs (i + 2))), .ref 326] [] rfl (fun _ => rfl) rfl rfl (h_word w K c N 17 (by omega) hK i (i + 6) h0 (by omega) hIK rfl hc hF ⟨by omega, by omega⟩ (sx xs (i + 1)) (sx_r _ _) (sx xs (i + 2)) (sx_r _ _)) (fun rr1 hr2 => ?_)
  obtain ⟨K1, c1, N1, k1, n1, r1, TK1, IK1, oc1, F1, b1, ⟨g1, P1⟩, rfl⟩ := hr2
  refine Or.inl ⟨_, _, _, _, rfl, ?_⟩
  obtain ⟨g1a, g1b⟩ := g1
  refine T_ns (st' := [.int (i32 r1)]) rfl ?_
  refine Tm_step (S' := (880, [(5, .int (i32 r1)), (4, .int (i32 i)), (3, .ref 326), (2, .ref 189), (1, .ref 0), (0, .ref 1000000)], [], (khp K1 c1, N1), _, _)) rfl (fun _ => rfl) ?_
  refine T_ld 881 (.ref 189) rfl (fun _ => rfl) ?_
  refine T_ld 882 (.ref 1000000) rfl (fun _ => rfl) ?_
  refine T_ld 884 (.int (i32 i)) rfl (fun _ => rfl) ?_
  refine T_ld 885 (.int (i32 1)) rfl (fun _ => rfl) ?_
  refine T_iadd 886 rfl rfl ?_
  refine L_sl 887 rfl hX (by omega) (by omega) hL rfl ?_
  refine T_ld 888 (.ref 1000000) rfl (fun _ => rfl) ?_
  refine T_ld 890 (.int (i32 i)) rfl (fun _ => rfl) ?_
  refine T_ld 891 (.int (i32 2)) rfl (fun _ => rfl) ?_
  refine T_iadd 892 rfl rfl ?_
  refine L_sl 893 rfl hX (by omega) (by omega) hL rfl ?_
  refine L_ref (m := m) 896 346 [.int (i32 (sx xs (i + 2))), .int (i32 (sx xs (i + 1)))] [] rfl rfl rfl rfl rfl rfl rfl TK1 (OC_m oc1 hm) (c_word w m (khp K1 c1) N1 17 (by omega) hM (sx xs (i + 1)) (sx xs (i + 2)) (sx_r _ _) (sx_r _ _) ) (fun rr3 hr4 => ?_)
  obtain ⟨M2, r2, TM, FM, g2, rfl⟩ := hr4
  refine ⟨_, M2, rfl, ?_⟩
  refine T_ns (st' := [.long (i64 r2)]) rfl ?_
  refine Tm_step (S' := (898, [(6, .long (i64 r2)), (5, .int (i32 r1)), (4, .int (i32 i)), (3, .ref 326), (2, .ref 189), (1, .ref 0), (0, .ref 1000000)], [], (khp K1 (mhp M2 c1), N1), _, _)) rfl (fun _ => rfl) ?_
  refine T_goto 966 rfl (fun _ => rfl) ?_
  refine Tm_lv (a := LV i) (b := [(6, .long (i64 r2)), (5, .int (i32 r1)), (4, .int (i32 i)), (3, .ref 326), (2, .ref 189), (1, .ref 0), (0, .ref 1000000)]) rfl rfl ⟨rfl, rfl, rfl, rfl, rfl, trivial⟩ (H K1 M2 (mhp M2 c1) N1 _ _ ⟨TK1, TM, IK1, (IM_f hIM (show i ≤ i + 6 by omega) FM rfl), mhp_id, (show ∃ F, mhp M2 c1 326 = some (ocl F) from by rw [mhp_lo (by omega)]; exact oc1.2), F1, by omega, by omega, by omega, by omega⟩)
set_option maxHeartbeats 4000000 in
theorem lw_18 {w : wX} {L : Nat} {xs : Nat → Int32} {Q : ag_Re af_T → Prop} {K m : mR} {c : Nat → Option am_C} {N nc ns : Nat} {i : Int} (hX : w.1 = (some L, fun j => some (xs j))) (h0 : 0 ≤ i) (h1 : i + 6 ≤ L) (hL : L ≤ 3072) (hI : LI i K m c N nc ns) (H : ∀ K m c N nc ns, LI (i + 6) K m c N nc ns → TT w 17 pm_0 (966, LV i, [], (khp K c, N), nc, ns) Q) : TT w 17 pm_0 (901, LV i, [], (khp K c, N), nc, ns) Q := by
  obtain ⟨hK, hM, hIK, hIM, hm, hc, hF, hN, hN2, hn1, hn2⟩ := hI
  obtain ⟨m_ct, m_pth, m_pld, m_hNM0, m_hFA0, m_hPA0, m_hHB0, m_wCN, m_wSO, m_wSt, m_wTd, m_wAc, m_wTb, m_wIN, m_wHO, m_wAR, m_wSp, m_wEM, m_wNA, m_hEMp, m_hEAp, m_hLT, m_pin, m_pou⟩ := id hIM
  refine T_ld 902 (.ref 0) rfl (fun _ => rfl) ?_
  refine T_ld 903 (.ref 1000000) rfl (fun _ => rfl) ?_
  refine T_ld 905 (.int (i32 i)) rfl (fun _ => rfl) ?_
  refine T_ld 906 (.int (i32 1)) rfl (fun _ => rfl) ?_
  refine T_iadd 907 rfl rfl ?_
  refine L_sl 908 rfl hX (by omega) (by omega) hL rfl ?_
  refine T_ld 909 (.ref 1000000) rfl (fun _ => rfl) ?_
  refine T_ld 911 (.int (i32 i)) rfl (fun _ => rfl) ?_
  refine T_ld 912 (.int (i32 2)) rfl (fun _ => rfl) ?_
  refine T_iadd 913 rfl rfl ?_
  refine L_sl 914 rfl hX (by omega) (by omega) hL rfl ?_
  refine T_ld 915 (.ref 326) rfl (fun _ => rfl) ?_
  refine T_callx 918 204 [.ref 0, .int (i32 (sx xs (i + 1))), .int (i32 (sx xs (i + 2))), .ref 326] [] rfl (fun _ => rfl) rfl rfl (h_entries w K c N 17 (by omega) hK i (i + 6) h0 (by omega) hIK rfl hc hF ⟨by omega, by omega⟩ (sx xs (i + 1)) (sx_r _ _) (sx xs (i + 2)) (sx_r _ _)) (fun rr1 hr2 => ?_)
  obtain ⟨K1, c1, N1, k1, n1, r1, TK1, IK1, oc1, F1, b1, ⟨g1, P1⟩, rfl⟩ := hr2
  refine Or.inl ⟨_, _, _, _, rfl, ?_⟩
  obtain ⟨g1a, g1b⟩ := g1
  refine T_ns (st' := [.int (i32 r1)]) rfl ?_
  refine Tm_step (S' := (920, [(5, .int (i32 r1)), (4, .int (i32 i)), (3, .ref 326), (2, .ref 189), (1, .ref 0), (0, .ref 1000000)], [], (khp K1 c1, N1), _, _)) rfl (fun _ => rfl) ?_
  refine T_ld 921 (.ref 189) rfl (fun _ => rfl) ?_
  refine T_ld 922 (.ref 1000000) rfl (fun _ => rfl) ?_
  refine T_ld 924 (.int (i32 i)) rfl (fun _ => rfl) ?_
  refine T_ld 925 (.int (i32 1)) rfl (fun _ => rfl) ?_
  refine T_iadd 926 rfl rfl ?_
  refine L_sl 927 rfl hX (by omega) (by omega) hL rfl ?_
  refine T_ld 928 (.ref 1000000) rfl (fun _ => rfl) ?_
  refine T_ld 930 (.int (i32 i)) rfl (fun _ => rfl) ?_
  refine T_ld 931 (.int (i32 2)) rfl (fun _ => rfl) ?_
  refine T_iadd 932 rfl rfl ?_
  refine L_sl 933 rfl hX (by omega) (by omega) hL rfl ?_
  refine L_ref (m := m) 936 347 [.int (i32 (sx xs (i + 2))), .int (i32 (sx xs (i + 1)))] [] rfl rfl rfl rfl rfl rfl rfl TK1 (OC_m oc1 hm) (c_entries w m (khp K1 c1) N1 17 (by omega) hM (sx xs (i + 1)) (sx xs (i + 2)) (sx_r _ _) (sx_r _ _) m_wCN m_wSO m_wSt m_wTd m_wAc m_wTb m_wIN m_wHO m_wAR m_wSp m_wEM m_wNA m_pth) (fun rr3 hr4 => ?_)
  obtain ⟨M2, r2, TM, FM, g2, rfl⟩ := hr4
  refine ⟨_, M2, rfl, ?_⟩
  refine T_ns (st' := [.int (i32 r2)]) rfl ?_
  refine Tm_step (S' := (938, [(6, .int (i32 r2)), (5, .int (i32 r1)), (4, .int (i32 i)), (3, .ref 326), (2, .ref 189), (1, .ref 0), (0, .ref 1000000)], [], (khp K1 (mhp M2 c1), N1), _, _)) rfl (fun _ => rfl) ?_
  refine T_goto 966 rfl (fun _ => rfl) ?_
  refine Tm_lv (a := LV i) (b := [(6, .int (i32 r2)), (5, .int (i32 r1)), (4, .int (i32 i)), (3, .ref 326), (2, .ref 189), (1, .ref 0), (0, .ref 1000000)]) rfl rfl ⟨rfl, rfl, rfl, rfl, rfl, trivial⟩ (H K1 M2 (mhp M2 c1) N1 _ _ ⟨TK1, TM, IK1, (IM_f hIM (show i ≤ i + 6 by omega) FM rfl), mhp_id, (show ∃ F, mhp M2 c1 326 = some (ocl F) from by rw [mhp_lo (by omega)]; exact oc1.2), F1, by omega, by omega, by omega, by omega⟩)
set_option maxHeartbeats 4000000 in
theorem lw_19 {w : wX} {L : Nat} {xs : Nat → Int32} {Q : ag_Re af_T → Prop} {K m : mR} {c : Nat → Option am_C} {N nc ns : Nat} {i : Int} (hX : w.1 = (some L, fun j => some (xs j))) (h0 : 0 ≤ i) (h1 : i + 6 ≤ L) (hL : L ≤ 3072) (hI : LI i K m c N nc ns) (H : ∀ K m c N nc ns, LI (i + 6) K m c N nc ns → TT w 17 pm_0 (966, LV i, [], (khp K c, N), nc, ns) Q) : TT w 17 pm_0 (941, LV i, [], (khp K c, N), nc, ns) Q := by
  obtain ⟨hK, hM, hIK, hIM, hm, hc, hF, hN, hN2, hn1, hn2⟩ := hI
  obtain ⟨m_ct, m_pth, m_pld, m_hNM0, m_hFA0, m_hPA0, m_hHB0, m_wCN, m_wSO, m_wSt, m_wTd, m_wAc, m_wTb, m_wIN, m_wHO, m_wAR, m_wSp, m_wEM, m_wNA, m_hEMp, m_hEAp, m_hLT, m_pin, m_pou⟩ := id hIM
  refine T_ld 942 (.ref 0) rfl (fun _ => rfl) ?_
  refine T_ld 943 (.ref 1000000) rfl (fun _ => rfl) ?_
  refine T_ld 945 (.int (i32 i)) rfl (fun _ => rfl) ?_
  refine T_ld 946 (.int (i32 1)) rfl (fun _ => rfl) ?_
  refine T_iadd 947 rfl rfl ?_
  refine L_sl 948 rfl hX (by omega) (by omega) hL rfl ?_
  refine T_callx 951 39 [.ref 0, .int (i32 (sx xs (i + 1)))] [] rfl (fun _ => rfl) rfl rfl (c_pw_count w K c N 17 (by omega) hK (sx xs (i + 1)) (sx_r _ _)) (fun rr1 hr2 => ?_)
  obtain ⟨r1, g1, rfl⟩ := hr2
  refine Or.inl ⟨_, _, _, _, rfl, ?_⟩
  refine T_ns (st' := [.int (i32 r1)]) rfl ?_
  refine T_pop 952 rfl (fun _ => rfl) ?_
  refine T_ld 953 (.ref 189) rfl (fun _ => rfl) ?_
  refine T_ld 954 (.ref 1000000) rfl (fun _ => rfl) ?_
  refine T_ld 956 (.int (i32 i)) rfl (fun _ => rfl) ?_
  refine T_ld 957 (.int (i32 1)) rfl (fun _ => rfl) ?_
  refine T_iadd 958 rfl rfl ?_
  refine L_sl 959 rfl hX (by omega) (by omega) hL rfl ?_
  refine L_ref (m := m) 962 348 [.int (i32 (sx xs (i + 1)))] [] rfl rfl rfl rfl rfl rfl rfl hK hm (c_count w m (khp K c) N 17 (by omega) hM (sx xs (i + 1)) (sx_r _ _) ) (fun rr3 hr4 => ?_)
  obtain ⟨M2, r2, TM, FM, g2, rfl⟩ := hr4
  refine ⟨_, M2, rfl, ?_⟩
  refine T_ns (st' := [.int (i32 r2)]) rfl ?_
  refine T_pop 963 rfl (fun _ => rfl) ?_
  refine T_goto 966 rfl (fun _ => rfl) ?_
  refine Tm_lv (a := LV i) (b := [(4, .int (i32 i)), (3, .ref 326), (2, .ref 189), (1, .ref 0), (0, .ref 1000000)]) rfl rfl ⟨rfl, rfl, rfl, rfl, rfl, trivial⟩ (H K M2 (mhp M2 c) N _ _ ⟨hK, TM, (IK_i hIK (show i ≤ i + 6 by omega)), (IM_f hIM (show i ≤ i + 6 by omega) FM rfl), mhp_id, (show ∃ F, mhp M2 c 326 = some (ocl F) from by rw [mhp_lo (by omega)]; exact hc), hF, by omega, by omega, by omega, by omega⟩)
theorem LI_i {i : Int} {K m : mR} {c : Nat → Option am_C} {N nc ns : Nat} (h : LI i K m c N nc ns) : LI (i + 6) K m c N nc ns := by
  obtain ⟨hK, hM, hIK, hIM, hm, hc, hF, hN, hN2, hn1, hn2⟩ := h
  exact ⟨hK, hM, IK_i hIK (by omega), IM_i hIM (by omega), hm, hc, hF, by omega, by omega, by omega, by omega⟩
set_option maxHeartbeats 4000000 in
theorem lw_loop {w : wX} {L : Nat} {xs : Nat → Int32} {Q : ag_Re af_T → Prop} (hsio : (w.2.2.2).category = 1) (hX : w.1 = (some L, fun j => some (xs j))) (hL : L ≤ 3072) (HQ : ∀ K m c N nc ns i, LI i K m c N nc ns → i ≤ 3072 → Q (.inl (some (.int 1)), (khp K c, N), nc, ns)) : ∀ (n : Nat) (i : Int) (K m : mR) (c : Nat → Option am_C) (N nc ns : Nat), 0 ≤ i → i ≤ L → L - i < 6 * n → LI i K m c N nc ns → TT w 17 pm_0 (23, LV i, [], (khp K c, N), nc, ns) Q := by
  intro n
  induction n with
  | zero => intro i K m c N nc ns h0 h1 h2; omega
  | succ n ih =>
    intro i K m c N nc ns h0 h1 h2 hI
    refine T_ld 25 (.int (i32 i)) rfl (fun _ => rfl) ?_
    refine T_ld 26 (.ref 1000000) rfl (fun _ => rfl) ?_
    refine L_al 27 rfl hX rfl ?_
    refine T_ld 29 (.int (i32 6)) rfl (fun _ => rfl) ?_
    refine T_isub 30 rfl rfl ?_
    refine T_icmp 972 33 rfl rfl rfl ⟨by omega, by omega⟩ ⟨by omega, by omega⟩ (fun (h9 : i > (L : Int) - 6) => ?_) (fun (h9 : ¬ i > (L : Int) - 6) => ?_)
    · refine T_ld 973 (.int (i32 1)) rfl (fun _ => rfl) ?_
      refine T_ret rfl (fun _ => rfl) ?_
      exact HQ K m c N nc ns i hI (by omega)
    · have next : ∀ K m c N nc ns, LI (i + 6) K m c N nc ns → TT w 17 pm_0 (966, LV i, [], (khp K c, N), nc, ns) Q := by
        intro K m c N nc ns hI
        refine T_iinc 969 (LV (i + 6)) rfl rfl (by decide) rfl rfl ?_
        refine T_goto 23 rfl (fun _ => rfl) ?_
        exact ih (i + 6) K m c N nc ns (by omega) (by omega) (by omega) hI
      refine T_ld 34 (.ref 1000000) rfl (fun _ => rfl) ?_
      refine T_ld 36 (.int (i32 i)) rfl (fun _ => rfl) ?_
      refine L_sl 37 rfl hX (by omega) (by omega) hL rfl ?_
      refine T_ld 39 (.int (i32 31)) rfl (fun _ => rfl) ?_
      refine T_iand 40 rfl rfl (by decide) (by decide) (fun z hz => ?_)
      by_cases h_0 : z = 0
      · refine T_cast 0 h_0 ?_
        refine T_pop 136 rfl (fun _ => rfl) ?_
        exact lw_0 hX h0 (by omega) hL hI next
      by_cases h_1 : z = 1
      · refine T_cast 1 h_1 ?_
        refine T_pop 207 rfl (fun _ => rfl) ?_
        exact lw_1 hX h0 (by omega) hL hI next
      by_cases h_2 : z = 2
      · refine T_cast 2 h_2 ?_
        refine T_pop 232 rfl (fun _ => rfl) ?_
        exact lw_2 hsio hX h0 (by omega) hL hI next
      by_cases h_3 : z = 3
      · refine T_cast 3 h_3 ?_
        refine T_pop 248 rfl (fun _ => rfl) ?_
        exact lw_3 hX h0 (by omega) hL hI next
      by_cases h_4 : z = 4
      · refine T_cast 4 h_4 ?_
        refine T_pop 273 rfl (fun _ => rfl) ?_
        exact lw_4 hX h0 (by omega) hL hI next
      by_cases h_5 : z = 5
      · refine T_cast 5 h_5 ?_
        refine T_pop 298 rfl (fun _ => rfl) ?_
        exact lw_5 hX h0 (by omega) hL hI next
      by_cases h_6 : z = 6
      · refine T_cast 6 h_6 ?_
        refine T_pop 350 rfl (fun _ => rfl) ?_
        exact lw_6 hX h0 (by omega) hL hI next
      by_cases h_7 : z = 7
      · refine T_cast 7 h_7 ?_
        refine T_pop 363 rfl (fun _ => rfl) ?_
        exact lw_7 hX h0 (by omega) hL hI next
      by_cases h_8 : z = 8
      · refine T_cast 8 h_8 ?_
        refine T_pop 400 rfl (fun _ => rfl) ?_
        exact lw_8 hX h0 (by omega) hL hI next
      by_cases h_9 : z = 9
      · refine T_cast 9 h_9 ?_
        refine T_pop 437 rfl (fun _ => rfl) ?_
        exact lw_9 hX h0 (by omega) hL hI next
      by_cases h_10 : z = 10
      · refine T_cast 10 h_10 ?_
        refine T_pop 465 rfl (fun _ => rfl) ?_
        exact lw_10 hX h0 (by omega) hL hI next
      by_cases h_11 : z = 11
      · refine T_cast 11 h_11 ?_
        refine T_pop 578 rfl (fun _ => rfl) ?_
        exact lw_11 hX h0 (by omega) hL hI next
      by_cases h_12 : z = 12
      · refine T_cast 12 h_12 ?_
        refine T_pop 658 rfl (fun _ => rfl) ?_
        exact lw_12 hX h0 (by omega) hL hI next
      by_cases h_13 : z = 13
      · refine T_cast 13 h_13 ?_
        refine T_pop 722 rfl (fun _ => rfl) ?_
        exact lw_13 hX h0 (by omega) hL hI next
      by_cases h_14 : z = 14
      · refine T_cast 14 h_14 ?_
        refine T_pop 750 rfl (fun _ => rfl) ?_
        exact lw_14 hX h0 (by omega) hL hI next
      by_cases h_15 : z = 15
      · refine T_cast 15 h_15 ?_
        refine T_pop 787 rfl (fun _ => rfl) ?_
        exact lw_15 hX h0 (by omega) hL hI next
      by_cases h_16 : z = 16
      · refine T_cast 16 h_16 ?_
        refine T_pop 824 rfl (fun _ => rfl) ?_
        exact lw_16 hX h0 (by omega) hL hI next
      by_cases h_17 : z = 17
      · refine T_cast 17 h_17 ?_
        refine T_pop 861 rfl (fun _ => rfl) ?_
        exact lw_17 hX h0 (by omega) hL hI next
      by_cases h_18 : z = 18
      · refine T_cast 18 h_18 ?_
        refine T_pop 901 rfl (fun _ => rfl) ?_
        exact lw_18 hX h0 (by omega) hL hI next
      by_cases h_19 : z = 19
      · refine T_cast 19 h_19 ?_
        refine T_pop 941 rfl (fun _ => rfl) ?_
        exact lw_19 hX h0 (by omega) hL hI next
      refine T_tsd 966 rfl rfl ⟨by omega, by omega⟩ (by omega) ?_
      exact next K m c N nc ns (LI_i hI)
