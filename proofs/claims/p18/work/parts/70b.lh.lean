set_option maxHeartbeats 4000000 in
theorem h_read (w : wX) (K : mR) (c : Nat → Option am_C) (N D : Nat) (hD : 14 ≤ D) (hT : KTy K) (i i9 : Int) (h0 : 0 ≤ i) (h3 : i ≤ 3072) (hI : IK i K) (hii : i9 = i + 6) (hc : ∃ F, c 326 = some (ocl F)) (hFR : FRp N K) (hNN : 327 ≤ N ∧ N ≤ 8100) (hsio : (w.2.2.2).category = 1) (Kp : mR) (hA : AGk K Kp) : TC w D 42 [.ref 0, .ref 326] (khp K c, N) (HQ i9 c N (fun r K9 c9 => (K9.1 233 = 0 ∧ K9.1 234 = 0 ∧ ∀ g, 0 ≤ g → g < 12 → K9.2 106 g = -1) ∧ (K9.1 232 = 0 ∧ K9.1 233 = 0 ∧ (K9.1 201 = 1 → ∀ t, 0 ≤ t → t < K9.1 219 → K9.2 78 t = 0)) ∧ ∃ y, kf_pw_read Kp = some y ∧ KCn y.2.2 ∧ khp K9 c = khp y.2.2 c ∧ fr fF_pw_read fA_pw_read K K9 ∧ ((r = 0 ∧ y.1 = 0 ∧ ∃ F, c9 326 = some (ocl F) ∧ F 0 = i64 y.2.1 ∧ R64 y.2.1) ∨ (r = 1 ∧ y.1 = 1)))) := by
  obtain ⟨D, rfl⟩ : ∃ k, D = k + 1 := ⟨D - 1, by omega⟩
  have hI6 : IK i9 K := IK_i hI (by omega)
  obtain ⟨k_ct, k_hNu, k_hNK, k_hPI, k_hHB0, k_hIH0, k_hEM0, k_hDE0, k_hAC0, k_hTL0, k_hTD0, k_hTC0, k_hSP0⟩ := id hI
  refine Tc_of rfl ?_
  show TT w D pm_42 (0, [(0, .ref 0), (1, .ref 326)], [], (khp K c, N), 0, 0) _
  refine T_ld 1 (.ref 326) rfl (fun _ => rfl) ?_
  refine T_ld 2 (.int (i32 0)) rfl (fun _ => rfl) ?_
  refine T_ld 3 (.ref 0) rfl (fun _ => rfl) ?_
  refine T_callc 6 43 [.ref 0] [.int (i32 0), .ref 326] rfl (fun _ => rfl) rfl rfl (Tc_a (c_pw_read w K c N D (by omega) hT   hsio k_hNK) (D_k hA (D_pw_read w Kp c N D (AGk_C hA hT)  ))) (fun r hr => ?_)
  obtain ⟨hr, y, hy, hyr⟩ := hr
  rcases hr with ⟨M1, r1, T1, F1, g1, b0, b1, b2, b3, b4, b5, b6, b7, b8, b9, b10, b11, b12, b13, rfl⟩ | ⟨x1, M1, hx, T1, F1, b0, b1, b2, b3, b4, b5, b6, b7, b8, b9, b10, b11, b12, b13, rfl⟩
  · refine Or.inl ⟨_, _, _, _, rfl, ?_⟩
    obtain ⟨e1y, e2y, e3y, e4y⟩ := FX1_n (a := r1) ⟨by omega, by omega⟩ hyr
    have hik : IK i9 M1 := ⟨(show (M1.1 232) ≤ i9 ∧ (M1.1 235) ≤ 20 * i9 ∧ (M1.1 234) ≤ (M1.1 235) ∧ (M1.1 233) ≤ (M1.1 232) by omega), (show ∀ r9, 0 ≤ r9 → r9 < 128 → r9 < (M1.1 232) → 1 ≤ (M1.2 107) r9 by rw [fr2 F1 107 rfl]; exact (fun r9 a9 b9 c9 => absurd c9 (by omega))), (show NKp (M1.2 18) (M1.2 19) by exact b1), (show PIp (M1.1 226) (M1.1 233) (M1.1 232) (M1.2 106) (M1.2 91) (M1.2 92) (M1.2 94) by rw [fr2 F1 91 rfl, fr2 F1 92 rfl, fr2 F1 94 rfl]; exact b2), (show (M1.1 201) = 1 → HBp (M1.1 214) (M1.2 10) by exact b4), (show (M1.1 201) = 1 → IHp (M1.1 215) (M1.2 13) (M1.1 214) by exact b5), (show (M1.1 201) = 1 → LTp (M1.1 218) (M1.2 17) (M1.1 215) by exact b6), (show (M1.1 201) = 1 → DEp (M1.1 224) (M1.2 45) (M1.2 46) (M1.2 47) (M1.2 49) by exact b7), (show (M1.1 201) = 1 → AcP (M1.1 223) (M1.1 224) (M1.2 43) (M1.2 44) by exact b8), (show (M1.1 201) = 1 → TLp (M1.1 219) (M1.2 73) (M1.2 83) (M1.1 223) by exact b9), (show (M1.1 201) = 1 → LTp (M1.1 219) (M1.2 74) (M1.1 223) by exact b10), (show (M1.1 201) = 1 → TCp (M1.1 219) (M1.2 78) (M1.2 89) (M1.1 223) by rw [fr2 F1 89 rfl]; exact b11), (show (M1.1 201) = 1 → SPp (M1.1 225) (M1.2 52) (M1.2 58) (M1.2 55) (M1.2 56) (M1.1 219) (M1.1 224) by exact b12)⟩
    refine T_ns (st' := [.int (i32 r1), .int (i32 0), .ref 326]) rfl ?_
    refine T_i2l 7 rfl rfl ⟨by omega, by omega⟩ ?_
    refine L_out 8 rfl T1 hc rfl (fun c1 oc ho => ?_)
    refine T_goto 14 rfl (fun _ => rfl) ?_
    refine T_ld 15 (.int (i32 0)) rfl (fun _ => rfl) ?_
    refine T_ret rfl (fun _ => rfl) ?_
    exact ⟨M1, c1, _, _, _, 0, T1, hik, oc, (FR_c (fr2 F1 108 rfl) hFR), ⟨by omega, by omega, by omega, by omega⟩, ⟨⟨by decide, by decide⟩, ⟨⟨by omega, by omega, b3⟩, ⟨by omega, by omega, b13⟩, y, hy, e4y, e3y, F1, Or.inl ⟨rfl, e1y, (by obtain ⟨Fo, o1, o2⟩ := ho; exact ⟨Fo, o1, (by rw [e2y]; exact o2), ⟨by omega, by omega⟩⟩)⟩⟩⟩, rfl⟩
  · have hik : IK i9 M1 := ⟨(show (M1.1 232) ≤ i9 ∧ (M1.1 235) ≤ 20 * i9 ∧ (M1.1 234) ≤ (M1.1 235) ∧ (M1.1 233) ≤ (M1.1 232) by omega), (show ∀ r9, 0 ≤ r9 → r9 < 128 → r9 < (M1.1 232) → 1 ≤ (M1.2 107) r9 by rw [fr2 F1 107 rfl]; exact (fun r9 a9 b9 c9 => absurd c9 (by omega))), (show NKp (M1.2 18) (M1.2 19) by exact b1), (show PIp (M1.1 226) (M1.1 233) (M1.1 232) (M1.2 106) (M1.2 91) (M1.2 92) (M1.2 94) by rw [fr2 F1 91 rfl, fr2 F1 92 rfl, fr2 F1 94 rfl]; exact b2), (show (M1.1 201) = 1 → HBp (M1.1 214) (M1.2 10) by exact b4), (show (M1.1 201) = 1 → IHp (M1.1 215) (M1.2 13) (M1.1 214) by exact b5), (show (M1.1 201) = 1 → LTp (M1.1 218) (M1.2 17) (M1.1 215) by exact b6), (show (M1.1 201) = 1 → DEp (M1.1 224) (M1.2 45) (M1.2 46) (M1.2 47) (M1.2 49) by exact b7), (show (M1.1 201) = 1 → AcP (M1.1 223) (M1.1 224) (M1.2 43) (M1.2 44) by exact b8), (show (M1.1 201) = 1 → TLp (M1.1 219) (M1.2 73) (M1.2 83) (M1.1 223) by exact b9), (show (M1.1 201) = 1 → LTp (M1.1 219) (M1.2 74) (M1.1 223) by exact b10), (show (M1.1 201) = 1 → TCp (M1.1 219) (M1.2 78) (M1.2 89) (M1.1 223) by rw [fr2 F1 89 rfl]; exact b11), (show (M1.1 201) = 1 → SPp (M1.1 225) (M1.2 52) (M1.2 58) (M1.2 55) (M1.2 56) (M1.1 219) (M1.1 224) by exact b12)⟩
    obtain ⟨c1, e1, oc⟩ := L_exc (x := nm_xc x1) (c := c) (c0 := c) (FR_c (fr2 F1 108 rfl) hFR) hNN.1 hc
    subst hx
    refine Or.inr ⟨_, _, _, _, _, _, rfl, rfl, by omega, ?_⟩
    rw [e1]
    obtain ⟨e1y, e3y, e4y⟩ := FX1_x hyr
    refine Tm_step (S' := (12, (2, .ref N) :: [(0, .ref 0), (1, .ref 326)], [], (khp M1 c1, N + 1), _, _)) rfl (fun _ => rfl) ?_
    refine T_ld 13 (.int (i32 1)) rfl (fun _ => rfl) ?_
    refine T_ret rfl (fun _ => rfl) ?_
    exact ⟨M1, c1, _, _, _, 1, T1, hik, oc, FR_s (FR_c (fr2 F1 108 rfl) hFR) (by omega), ⟨by omega, by omega, by omega, by omega⟩, ⟨⟨by decide, by decide⟩, ⟨⟨by omega, by omega, b3⟩, ⟨by omega, by omega, b13⟩, y, hy, e4y, e3y, F1, Or.inr ⟨rfl, by omega⟩⟩⟩, rfl⟩
set_option maxHeartbeats 4000000 in
theorem h_lay (w : wX) (K : mR) (c : Nat → Option am_C) (N D : Nat) (hD : 8 ≤ D) (hT : KTy K) (i i9 : Int) (h0 : 0 ≤ i) (h3 : i ≤ 3072) (hI : IK i K) (hii : i9 = i + 6) (hc : ∃ F, c 326 = some (ocl F)) (hFR : FRp N K) (hNN : 327 ≤ N ∧ N ≤ 8100) (Kp : mR) (hA : AGk K Kp) (Kj : mR) (hj : ∀ c9, khp Kj c9 = khp K c9) (hCj : KCo (Kj.2 107, Kj.2 108) Kj) (a0 : Int) (q0 : R32 a0) (a1 : Int) (q1 : R32 a1) (a2 : Int) (q2 : R32 a2) : TC w D 148 [.ref 0, .int (i32 a0), .int (i32 a1), .int (i32 a2), .ref 326] (khp K c, N) (HQ i9 c N (fun r K9 c9 => (∃ yj, kf_pw_lay a0 a1 a2 Kj = some yj ∧ KCn yj.2.2 ∧ khp K9 c = khp yj.2.2 c) ∧ ∃ y, kf_pw_lay a0 a1 a2 Kp = some y ∧ KCn y.2.2 ∧ khp K9 c = khp y.2.2 c ∧ fr fF_pw_lay fA_pw_lay K K9 ∧ ((r = 0 ∧ y.1 = 0 ∧ ∃ F, c9 326 = some (ocl F) ∧ F 0 = i64 y.2.1 ∧ R64 y.2.1) ∨ (r = 1 ∧ y.1 = 2) ∨ (r = 2 ∧ y.1 = 1) ∨ (r = 3 ∧ y.1 = 3)))) := by
  obtain ⟨D, rfl⟩ : ∃ k, D = k + 1 := ⟨D - 1, by omega⟩
  have hI6 : IK i9 K := IK_i hI (by omega)
  obtain ⟨k_ct, k_hNu, k_hNK, k_hPI, k_hHB0, k_hIH0, k_hEM0, k_hDE0, k_hAC0, k_hTL0, k_hTD0, k_hTC0, k_hSP0⟩ := id hI
  refine Tc_of rfl ?_
  show TT w D pm_148 (0, [(0, .ref 0), (1, .int (i32 a0)), (2, .int (i32 a1)), (3, .int (i32 a2)), (4, .ref 326)], [], (khp K c, N), 0, 0) _
  refine T_ld 2 (.ref 326) rfl (fun _ => rfl) ?_
  refine T_ld 3 (.int (i32 0)) rfl (fun _ => rfl) ?_
  refine T_ld 4 (.ref 0) rfl (fun _ => rfl) ?_
  refine T_ld 5 (.int (i32 a0)) rfl (fun _ => rfl) ?_
  refine T_ld 6 (.int (i32 a1)) rfl (fun _ => rfl) ?_
  refine T_ld 7 (.int (i32 a2)) rfl (fun _ => rfl) ?_
  refine T_callc 10 149 [.ref 0, .int (i32 a0), .int (i32 a1), .int (i32 a2)] [.int (i32 0), .ref 326] rfl (fun _ => rfl) rfl rfl (Tc_a (Tc_a (c_pw_lay w K c N D (by omega) hT a0 a1 a2 q0 q1 q2 k_hPI k_hNK k_hHB0 k_hIH0 k_hEM0 k_hDE0 k_hAC0 k_hTL0 k_hTD0 k_hTC0 k_hSP0) (D_k hA (D_pw_lay w Kp c N D (AGk_C hA hT) a0 a1 a2 q0 q1 q2))) (D_kh (hj c) (D_pw_lay w Kj c N D hCj.1 a0 a1 a2 q0 q1 q2))) (fun r hr => ?_)
  obtain ⟨hr, yj, hyj, hyrj⟩ := hr
  obtain ⟨hr, y, hy, hyr⟩ := hr
  rcases hr with ⟨M1, r1, T1, F1, g1, b0, rfl⟩ | ⟨x1, M1, hx, T1, F1, b0, rfl⟩
  · refine Or.inl ⟨_, _, _, _, rfl, ?_⟩
    obtain ⟨e1y, e2y, e3y, e4y⟩ := FX1_n (a := r1) ⟨by omega, by omega⟩ hyr
    obtain ⟨e1j, e2j, e3j, e4j⟩ := FX1_n (a := r1) ⟨by omega, by omega⟩ hyrj
    have hik : IK i9 M1 := ⟨(show (M1.1 232) ≤ i9 ∧ (M1.1 235) ≤ 20 * i9 ∧ (M1.1 234) ≤ (M1.1 235) ∧ (M1.1 233) ≤ (M1.1 232) by rw [fr1 F1 232 rfl, fr1 F1 235 rfl, fr1 F1 234 rfl, fr1 F1 233 rfl]; omega), (show ∀ r9, 0 ≤ r9 → r9 < 128 → r9 < (M1.1 232) → 1 ≤ (M1.2 107) r9 by rw [fr1 F1 232 rfl, fr2 F1 107 rfl]; exact k_hNu), (show NKp (M1.2 18) (M1.2 19) by rw [fr2 F1 18 rfl, fr2 F1 19 rfl]; exact k_hNK), (show PIp (M1.1 226) (M1.1 233) (M1.1 232) (M1.2 106) (M1.2 91) (M1.2 92) (M1.2 94) by rw [fr1 F1 233 rfl, fr1 F1 232 rfl, fr2 F1 106 rfl, fr2 F1 91 rfl, fr2 F1 92 rfl, fr2 F1 94 rfl]; exact b0), (show (M1.1 201) = 1 → HBp (M1.1 214) (M1.2 10) by rw [fr1 F1 201 rfl, fr1 F1 214 rfl, fr2 F1 10 rfl]; exact k_hHB0), (show (M1.1 201) = 1 → IHp (M1.1 215) (M1.2 13) (M1.1 214) by rw [fr1 F1 201 rfl, fr1 F1 215 rfl, fr2 F1 13 rfl, fr1 F1 214 rfl]; exact k_hIH0), (show (M1.1 201) = 1 → LTp (M1.1 218) (M1.2 17) (M1.1 215) by rw [fr1 F1 201 rfl, fr1 F1 218 rfl, fr2 F1 17 rfl, fr1 F1 215 rfl]; exact k_hEM0), (show (M1.1 201) = 1 → DEp (M1.1 224) (M1.2 45) (M1.2 46) (M1.2 47) (M1.2 49) by rw [fr1 F1 201 rfl, fr1 F1 224 rfl, fr2 F1 45 rfl, fr2 F1 46 rfl, fr2 F1 47 rfl, fr2 F1 49 rfl]; exact k_hDE0), (show (M1.1 201) = 1 → AcP (M1.1 223) (M1.1 224) (M1.2 43) (M1.2 44) by rw [fr1 F1 201 rfl, fr1 F1 223 rfl, fr1 F1 224 rfl, fr2 F1 43 rfl, fr2 F1 44 rfl]; exact k_hAC0), (show (M1.1 201) = 1 → TLp (M1.1 219) (M1.2 73) (M1.2 83) (M1.1 223) by rw [fr1 F1 201 rfl, fr1 F1 219 rfl, fr2 F1 73 rfl, fr2 F1 83 rfl, fr1 F1 223 rfl]; exact k_hTL0), (show (M1.1 201) = 1 → LTp (M1.1 219) (M1.2 74) (M1.1 223) by rw [fr1 F1 201 rfl, fr1 F1 219 rfl, fr2 F1 74 rfl, fr1 F1 223 rfl]; exact k_hTD0), (show (M1.1 201) = 1 → TCp (M1.1 219) (M1.2 78) (M1.2 89) (M1.1 223) by rw [fr1 F1 201 rfl, fr1 F1 219 rfl, fr2 F1 78 rfl, fr2 F1 89 rfl, fr1 F1 223 rfl]; exact k_hTC0), (show (M1.1 201) = 1 → SPp (M1.1 225) (M1.2 52) (M1.2 58) (M1.2 55) (M1.2 56) (M1.1 219) (M1.1 224) by rw [fr1 F1 201 rfl, fr1 F1 225 rfl, fr2 F1 52 rfl, fr2 F1 58 rfl, fr2 F1 55 rfl, fr2 F1 56 rfl, fr1 F1 219 rfl, fr1 F1 224 rfl]; exact k_hSP0)⟩
    refine T_ns (st' := [.int (i32 r1), .int (i32 0), .ref 326]) rfl ?_
    refine T_i2l 11 rfl rfl ⟨by omega, by omega⟩ ?_
    refine L_out 12 rfl T1 hc rfl (fun c1 oc ho => ?_)
    refine T_goto 27 rfl (fun _ => rfl) ?_
    refine T_ld 28 (.int (i32 0)) rfl (fun _ => rfl) ?_
    refine T_ret rfl (fun _ => rfl) ?_
    exact ⟨M1, c1, _, _, _, 0, T1, hik, oc, (FR_c (fr2 F1 108 rfl) hFR), ⟨by omega, by omega, by omega, by omega⟩, ⟨⟨by decide, by decide⟩, ⟨⟨yj, hyj, e4j, e3j⟩, y, hy, e4y, e3y, F1, Or.inl ⟨rfl, e1y, (by obtain ⟨Fo, o1, o2⟩ := ho; exact ⟨Fo, o1, (by rw [e2y]; exact o2), ⟨by omega, by omega⟩⟩)⟩⟩⟩, rfl⟩
  · have hik : IK i9 M1 := ⟨(show (M1.1 232) ≤ i9 ∧ (M1.1 235) ≤ 20 * i9 ∧ (M1.1 234) ≤ (M1.1 235) ∧ (M1.1 233) ≤ (M1.1 232) by rw [fr1 F1 232 rfl, fr1 F1 235 rfl, fr1 F1 234 rfl, fr1 F1 233 rfl]; omega), (show ∀ r9, 0 ≤ r9 → r9 < 128 → r9 < (M1.1 232) → 1 ≤ (M1.2 107) r9 by rw [fr1 F1 232 rfl, fr2 F1 107 rfl]; exact k_hNu), (show NKp (M1.2 18) (M1.2 19) by rw [fr2 F1 18 rfl, fr2 F1 19 rfl]; exact k_hNK), (show PIp (M1.1 226) (M1.1 233) (M1.1 232) (M1.2 106) (M1.2 91) (M1.2 92) (M1.2 94) by rw [fr1 F1 233 rfl, fr1 F1 232 rfl, fr2 F1 106 rfl, fr2 F1 91 rfl, fr2 F1 92 rfl, fr2 F1 94 rfl]; exact b0), (show (M1.1 201) = 1 → HBp (M1.1 214) (M1.2 10) by rw [fr1 F1 201 rfl, fr1 F1 214 rfl, fr2 F1 10 rfl]; exact k_hHB0), (show (M1.1 201) = 1 → IHp (M1.1 215) (M1.2 13) (M1.1 214) by rw [fr1 F1 201 rfl, fr1 F1 215 rfl, fr2 F1 13 rfl, fr1 F1 214 rfl]; exact k_hIH0), (show (M1.1 201) = 1 → LTp (M1.1 218) (M1.2 17) (M1.1 215) by rw [fr1 F1 201 rfl, fr1 F1 218 rfl, fr2 F1 17 rfl, fr1 F1 215 rfl]; exact k_hEM0), (show (M1.1 201) = 1 → DEp (M1.1 224) (M1.2 45) (M1.2 46) (M1.2 47) (M1.2 49) by rw [fr1 F1 201 rfl, fr1 F1 224 rfl, fr2 F1 45 rfl, fr2 F1 46 rfl, fr2 F1 47 rfl, fr2 F1 49 rfl]; exact k_hDE0), (show (M1.1 201) = 1 → AcP (M1.1 223) (M1.1 224) (M1.2 43) (M1.2 44) by rw [fr1 F1 201 rfl, fr1 F1 223 rfl, fr1 F1 224 rfl, fr2 F1 43 rfl, fr2 F1 44 rfl]; exact k_hAC0), (show (M1.1 201) = 1 → TLp (M1.1 219) (M1.2 73) (M1.2 83) (M1.1 223) by rw [fr1 F1 201 rfl, fr1 F1 219 rfl, fr2 F1 73 rfl, fr2 F1 83 rfl, fr1 F1 223 rfl]; exact k_hTL0), (show (M1.1 201) = 1 → LTp (M1.1 219) (M1.2 74) (M1.1 223) by rw [fr1 F1 201 rfl, fr1 F1 219 rfl, fr2 F1 74 rfl, fr1 F1 223 rfl]; exact k_hTD0), (show (M1.1 201) = 1 → TCp (M1.1 219) (M1.2 78) (M1.2 89) (M1.1 223) by rw [fr1 F1 201 rfl, fr1 F1 219 rfl, fr2 F1 78 rfl, fr2 F1 89 rfl, fr1 F1 223 rfl]; exact k_hTC0), (show (M1.1 201) = 1 → SPp (M1.1 225) (M1.2 52) (M1.2 58) (M1.2 55) (M1.2 56) (M1.1 219) (M1.1 224) by rw [fr1 F1 201 rfl, fr1 F1 225 rfl, fr2 F1 52 rfl, fr2 F1 58 rfl, fr2 F1 55 rfl, fr2 F1 56 rfl, fr1 F1 219 rfl, fr1 F1 224 rfl]; exact k_hSP0)⟩
    obtain ⟨c1, e1, oc⟩ := L_exc (x := nm_xc x1) (c := c) (c0 := c) (FR_c (fr2 F1 108 rfl) hFR) hNN.1 hc
    rcases hx with rfl | rfl | rfl
    · refine Or.inr ⟨_, _, _, _, _, _, rfl, rfl, by omega, ?_⟩
      rw [e1]
      obtain ⟨e1y, e3y, e4y⟩ := FX1_x hyr
      obtain ⟨e1j, e3j, e4j⟩ := FX1_x hyrj
      refine Tm_step (S' := (17, (5, .ref N) :: [(0, .ref 0), (1, .int (i32 a0)), (2, .int (i32 a1)), (3, .int (i32 a2)), (4, .ref 326)], [], (khp M1 c1, N + 1), _, _)) rfl (fun _ => rfl) ?_
      refine T_ld 18 (.int (i32 1)) rfl (fun _ => rfl) ?_
      refine T_ret rfl (fun _ => rfl) ?_
      exact ⟨M1, c1, _, _, _, 1, T1, hik, oc, FR_s (FR_c (fr2 F1 108 rfl) hFR) (by omega), ⟨by omega, by omega, by omega, by omega⟩, ⟨⟨by decide, by decide⟩, ⟨⟨yj, hyj, e4j, e3j⟩, y, hy, e4y, e3y, F1, Or.inr (Or.inl ⟨rfl, by omega⟩)⟩⟩, rfl⟩
    · refine Or.inr ⟨_, _, _, _, _, _, rfl, rfl, by omega, ?_⟩
      rw [e1]
      obtain ⟨e1y, e3y, e4y⟩ := FX1_x hyr
      obtain ⟨e1j, e3j, e4j⟩ := FX1_x hyrj
      refine Tm_step (S' := (21, (5, .ref N) :: [(0, .ref 0), (1, .int (i32 a0)), (2, .int (i32 a1)), (3, .int (i32 a2)), (4, .ref 326)], [], (khp M1 c1, N + 1), _, _)) rfl (fun _ => rfl) ?_
      refine T_ld 22 (.int (i32 2)) rfl (fun _ => rfl) ?_
      refine T_ret rfl (fun _ => rfl) ?_
      exact ⟨M1, c1, _, _, _, 2, T1, hik, oc, FR_s (FR_c (fr2 F1 108 rfl) hFR) (by omega), ⟨by omega, by omega, by omega, by omega⟩, ⟨⟨by decide, by decide⟩, ⟨⟨yj, hyj, e4j, e3j⟩, y, hy, e4y, e3y, F1, Or.inr (Or.inr (Or.inl ⟨rfl, by omega⟩))⟩⟩, rfl⟩
    · refine Or.inr ⟨_, _, _, _, _, _, rfl, rfl, by omega, ?_⟩
      rw [e1]
      obtain ⟨e1y, e3y, e4y⟩ := FX1_x hyr
      obtain ⟨e1j, e3j, e4j⟩ := FX1_x hyrj
      refine Tm_step (S' := (25, (5, .ref N) :: [(0, .ref 0), (1, .int (i32 a0)), (2, .int (i32 a1)), (3, .int (i32 a2)), (4, .ref 326)], [], (khp M1 c1, N + 1), _, _)) rfl (fun _ => rfl) ?_
      refine T_ld 26 (.int (i32 3)) rfl (fun _ => rfl) ?_
      refine T_ret rfl (fun _ => rfl) ?_
      exact ⟨M1, c1, _, _, _, 3, T1, hik, oc, FR_s (FR_c (fr2 F1 108 rfl) hFR) (by omega), ⟨by omega, by omega, by omega, by omega⟩, ⟨⟨by decide, by decide⟩, ⟨⟨yj, hyj, e4j, e3j⟩, y, hy, e4y, e3y, F1, Or.inr (Or.inr (Or.inr ⟨rfl, by omega⟩))⟩⟩, rfl⟩
set_option maxHeartbeats 4000000 in
theorem h_packet (w : wX) (K : mR) (c : Nat → Option am_C) (N D : Nat) (hD : 7 ≤ D) (hT : KTy K) (i i9 : Int) (h0 : 0 ≤ i) (h3 : i ≤ 3072) (hI : IK i K) (hii : i9 = i + 6) (hc : ∃ F, c 326 = some (ocl F)) (hFR : FRp N K) (hNN : 327 ≤ N ∧ N ≤ 8100) (a0 : Int) (q0 : R32 a0) : TC w D 161 [.ref 0, .int (i32 a0), .ref 326] (khp K c, N) (HQ i9 c N (fun r K9 c9 => fr fF_pw_packet fA_pw_packet K K9 ∧ (∀ g, kopi (K9.2 106) (K9.2 107) g = kopi (K.2 106) (K.2 107) g) ∧ ((K.1 201 = 1 ∧ 1 ≤ K.1 226 ∧ K.1 232 - K.1 233 < 40 ∧ K.1 200 ≤ 128 ∧ rwO (K.1 232 % 128) K K9 ∧ K9.2 91 (K.1 232 % 128) = 0) ∨ ((K.1 201 = 0 ∨ K.1 226 ≤ 0 ∨ 40 ≤ K.1 232 - K.1 233 ∨ 128 < K.1 200) ∧ ∀ r, opE K K9 r)) ∧ RQP a0 K K9 ∧ (r = 0 → ∃ F, c9 326 = some (ocl F) ∧ F 0 = i64 (K.1 232) ∧ R64 (K.1 232)) ∧ ((r = 0 ∧ K.1 201 = 1 ∧ 1 ≤ K.1 226 ∧ K.1 232 - K.1 233 < 40 ∧ K.1 200 ≤ 128 ∧ K9.1 200 = 0 ∧ K9.1 232 = K.1 232 + 1) ∨ (r = 1 ∧ (K.1 201 = 0 ∨ K.1 226 ≤ 0 ∨ 40 ≤ K.1 232 - K.1 233) ∧ K9.1 232 = K.1 232 ∧ K9.1 200 = K.1 200) ∨ (r = 2 ∧ K.1 201 = 1 ∧ 1 ≤ K.1 226 ∧ K.1 232 - K.1 233 < 40 ∧ 128 < K.1 200 ∧ K9.1 232 = K.1 232 ∧ K9.1 200 = K.1 200)))) := by
  obtain ⟨D, rfl⟩ : ∃ k, D = k + 1 := ⟨D - 1, by omega⟩
  have hI6 : IK i9 K := IK_i hI (by omega)
  obtain ⟨k_ct, k_hNu, k_hNK, k_hPI, k_hHB0, k_hIH0, k_hEM0, k_hDE0, k_hAC0, k_hTL0, k_hTD0, k_hTC0, k_hSP0⟩ := id hI
  refine Tc_of rfl ?_
  show TT w D pm_161 (0, [(0, .ref 0), (1, .int (i32 a0)), (2, .ref 326)], [], (khp K c, N), 0, 0) _
  refine T_ld 1 (.ref 326) rfl (fun _ => rfl) ?_
  refine T_ld 2 (.int (i32 0)) rfl (fun _ => rfl) ?_
  refine T_ld 3 (.ref 0) rfl (fun _ => rfl) ?_
  refine T_ld 4 (.int (i32 a0)) rfl (fun _ => rfl) ?_
  refine T_callc 7 162 [.ref 0, .int (i32 a0)] [.int (i32 0), .ref 326] rfl (fun _ => rfl) rfl rfl (c_pw_packet w K c N D (by omega) hT a0 q0 k_hNu k_hPI hFR hNN (by omega)) (fun r hr => ?_)
  rcases hr with ⟨M1, r1, T1, F1, g1, b0, b1, b2, b3, b4, b5, b6, b7, b8, b9, b10, N2, k2, n2, hn2, f2, rfl⟩ | ⟨x1, M1, hx, T1, F1, b0, b1, b2, b3, b4, b5, b6, b7, b8, b9, rfl⟩
  · refine Or.inl ⟨_, _, _, _, rfl, ?_⟩
    have hik : IK i9 M1 := ⟨(show (M1.1 232) ≤ i9 ∧ (M1.1 235) ≤ 20 * i9 ∧ (M1.1 234) ≤ (M1.1 235) ∧ (M1.1 233) ≤ (M1.1 232) by rw [fr1 F1 235 rfl, fr1 F1 234 rfl, fr1 F1 233 rfl]; omega), (show ∀ r9, 0 ≤ r9 → r9 < 128 → r9 < (M1.1 232) → 1 ≤ (M1.2 107) r9 by exact b1), (show NKp (M1.2 18) (M1.2 19) by rw [fr2 F1 18 rfl, fr2 F1 19 rfl]; exact k_hNK), (show PIp (M1.1 226) (M1.1 233) (M1.1 232) (M1.2 106) (M1.2 91) (M1.2 92) (M1.2 94) by rw [fr1 F1 226 rfl, fr1 F1 233 rfl]; exact b0), (show (M1.1 201) = 1 → HBp (M1.1 214) (M1.2 10) by rw [fr1 F1 201 rfl, fr1 F1 214 rfl, fr2 F1 10 rfl]; exact k_hHB0), (show (M1.1 201) = 1 → IHp (M1.1 215) (M1.2 13) (M1.1 214) by rw [fr1 F1 201 rfl, fr1 F1 215 rfl, fr2 F1 13 rfl, fr1 F1 214 rfl]; exact k_hIH0), (show (M1.1 201) = 1 → LTp (M1.1 218) (M1.2 17) (M1.1 215) by rw [fr1 F1 201 rfl, fr1 F1 218 rfl, fr2 F1 17 rfl, fr1 F1 215 rfl]; exact k_hEM0), (show (M1.1 201) = 1 → DEp (M1.1 224) (M1.2 45) (M1.2 46) (M1.2 47) (M1.2 49) by rw [fr1 F1 201 rfl, fr1 F1 224 rfl, fr2 F1 45 rfl, fr2 F1 46 rfl, fr2 F1 47 rfl, fr2 F1 49 rfl]; exact k_hDE0), (show (M1.1 201) = 1 → AcP (M1.1 223) (M1.1 224) (M1.2 43) (M1.2 44) by rw [fr1 F1 201 rfl, fr1 F1 223 rfl, fr1 F1 224 rfl, fr2 F1 43 rfl, fr2 F1 44 rfl]; exact k_hAC0), (show (M1.1 201) = 1 → TLp (M1.1 219) (M1.2 73) (M1.2 83) (M1.1 223) by rw [fr1 F1 201 rfl, fr1 F1 219 rfl, fr2 F1 73 rfl, fr2 F1 83 rfl, fr1 F1 223 rfl]; exact k_hTL0), (show (M1.1 201) = 1 → LTp (M1.1 219) (M1.2 74) (M1.1 223) by rw [fr1 F1 201 rfl, fr1 F1 219 rfl, fr2 F1 74 rfl, fr1 F1 223 rfl]; exact k_hTD0), (show (M1.1 201) = 1 → TCp (M1.1 219) (M1.2 78) (M1.2 89) (M1.1 223) by rw [fr1 F1 201 rfl, fr1 F1 219 rfl, fr2 F1 78 rfl, fr2 F1 89 rfl, fr1 F1 223 rfl]; exact k_hTC0), (show (M1.1 201) = 1 → SPp (M1.1 225) (M1.2 52) (M1.2 58) (M1.2 55) (M1.2 56) (M1.1 219) (M1.1 224) by rw [fr1 F1 201 rfl, fr1 F1 225 rfl, fr2 F1 52 rfl, fr2 F1 58 rfl, fr2 F1 55 rfl, fr2 F1 56 rfl, fr1 F1 219 rfl, fr1 F1 224 rfl]; exact k_hSP0)⟩
    refine T_ns (st' := [.int (i32 r1), .int (i32 0), .ref 326]) rfl ?_
    refine T_i2l 8 rfl rfl ⟨by omega, by omega⟩ ?_
    refine L_out 9 rfl T1 hc rfl (fun c1 oc ho => ?_)
    refine T_goto 18 rfl (fun _ => rfl) ?_
    refine T_ld 19 (.int (i32 0)) rfl (fun _ => rfl) ?_
    refine T_ret rfl (fun _ => rfl) ?_
    exact ⟨M1, c1, _, _, _, 0, T1, hik, oc, f2, ⟨by omega, by omega, by omega, by omega⟩, ⟨⟨by decide, by decide⟩, ⟨F1, b10, Or.inl ⟨by omega, by omega, by omega, by omega, ⟨b7, b8⟩, b9⟩, Or.inl ⟨by omega, by omega, by omega, by omega, ⟨b7, b8⟩, b4, b5, b6⟩, fun _ => (by obtain ⟨Fo, o1, o2⟩ := ho; exact ⟨Fo, o1, (by rw [show K.1 232 = r1 by omega]; exact o2), ⟨by omega, by omega⟩⟩), Or.inl ⟨rfl, by omega⟩⟩⟩, rfl⟩
  · have hik : IK i9 M1 := ⟨(show (M1.1 232) ≤ i9 ∧ (M1.1 235) ≤ 20 * i9 ∧ (M1.1 234) ≤ (M1.1 235) ∧ (M1.1 233) ≤ (M1.1 232) by rw [fr1 F1 235 rfl, fr1 F1 234 rfl, fr1 F1 233 rfl]; omega), (show ∀ r9, 0 ≤ r9 → r9 < 128 → r9 < (M1.1 232) → 1 ≤ (M1.2 107) r9 by exact b1), (show NKp (M1.2 18) (M1.2 19) by rw [fr2 F1 18 rfl, fr2 F1 19 rfl]; exact k_hNK), (show PIp (M1.1 226) (M1.1 233) (M1.1 232) (M1.2 106) (M1.2 91) (M1.2 92) (M1.2 94) by rw [fr1 F1 226 rfl, fr1 F1 233 rfl]; exact b0), (show (M1.1 201) = 1 → HBp (M1.1 214) (M1.2 10) by rw [fr1 F1 201 rfl, fr1 F1 214 rfl, fr2 F1 10 rfl]; exact k_hHB0), (show (M1.1 201) = 1 → IHp (M1.1 215) (M1.2 13) (M1.1 214) by rw [fr1 F1 201 rfl, fr1 F1 215 rfl, fr2 F1 13 rfl, fr1 F1 214 rfl]; exact k_hIH0), (show (M1.1 201) = 1 → LTp (M1.1 218) (M1.2 17) (M1.1 215) by rw [fr1 F1 201 rfl, fr1 F1 218 rfl, fr2 F1 17 rfl, fr1 F1 215 rfl]; exact k_hEM0), (show (M1.1 201) = 1 → DEp (M1.1 224) (M1.2 45) (M1.2 46) (M1.2 47) (M1.2 49) by rw [fr1 F1 201 rfl, fr1 F1 224 rfl, fr2 F1 45 rfl, fr2 F1 46 rfl, fr2 F1 47 rfl, fr2 F1 49 rfl]; exact k_hDE0), (show (M1.1 201) = 1 → AcP (M1.1 223) (M1.1 224) (M1.2 43) (M1.2 44) by rw [fr1 F1 201 rfl, fr1 F1 223 rfl, fr1 F1 224 rfl, fr2 F1 43 rfl, fr2 F1 44 rfl]; exact k_hAC0), (show (M1.1 201) = 1 → TLp (M1.1 219) (M1.2 73) (M1.2 83) (M1.1 223) by rw [fr1 F1 201 rfl, fr1 F1 219 rfl, fr2 F1 73 rfl, fr2 F1 83 rfl, fr1 F1 223 rfl]; exact k_hTL0), (show (M1.1 201) = 1 → LTp (M1.1 219) (M1.2 74) (M1.1 223) by rw [fr1 F1 201 rfl, fr1 F1 219 rfl, fr2 F1 74 rfl, fr1 F1 223 rfl]; exact k_hTD0), (show (M1.1 201) = 1 → TCp (M1.1 219) (M1.2 78) (M1.2 89) (M1.1 223) by rw [fr1 F1 201 rfl, fr1 F1 219 rfl, fr2 F1 78 rfl, fr2 F1 89 rfl, fr1 F1 223 rfl]; exact k_hTC0), (show (M1.1 201) = 1 → SPp (M1.1 225) (M1.2 52) (M1.2 58) (M1.2 55) (M1.2 56) (M1.1 219) (M1.1 224) by rw [fr1 F1 201 rfl, fr1 F1 225 rfl, fr2 F1 52 rfl, fr2 F1 58 rfl, fr2 F1 55 rfl, fr2 F1 56 rfl, fr1 F1 219 rfl, fr1 F1 224 rfl]; exact k_hSP0)⟩
    obtain ⟨c1, e1, oc⟩ := L_exc (x := nm_xc x1) (c := c) (c0 := c) b3 hNN.1 hc
    rcases hx with rfl | rfl
    · refine Or.inr ⟨_, _, _, _, _, _, rfl, rfl, by omega, ?_⟩
      rw [e1]
      refine Tm_step (S' := (13, (3, .ref N) :: [(0, .ref 0), (1, .int (i32 a0)), (2, .ref 326)], [], (khp M1 c1, N + 1), _, _)) rfl (fun _ => rfl) ?_
      refine T_ld 14 (.int (i32 1)) rfl (fun _ => rfl) ?_
      refine T_ret rfl (fun _ => rfl) ?_
      exact ⟨M1, c1, _, _, _, 1, T1, hik, oc, FR_s b3 (by omega), ⟨by omega, by omega, by omega, by omega⟩, ⟨⟨by decide, by decide⟩, ⟨F1, b9, Or.inr ⟨by omega, fun v9 => opE_r b8⟩, Or.inr ⟨by omega, b8, b7⟩, fun h9 => absurd h9 (by decide), Or.inr (Or.inl ⟨rfl, by omega⟩)⟩⟩, rfl⟩
    · refine Or.inr ⟨_, _, _, _, _, _, rfl, rfl, by omega, ?_⟩
      rw [e1]
      refine Tm_step (S' := (16, (3, .ref N) :: [(0, .ref 0), (1, .int (i32 a0)), (2, .ref 326)], [], (khp M1 c1, N + 1), _, _)) rfl (fun _ => rfl) ?_
      refine T_ld 17 (.int (i32 2)) rfl (fun _ => rfl) ?_
      refine T_ret rfl (fun _ => rfl) ?_
      exact ⟨M1, c1, _, _, _, 2, T1, hik, oc, FR_s b3 (by omega), ⟨by omega, by omega, by omega, by omega⟩, ⟨⟨by decide, by decide⟩, ⟨F1, b9, Or.inr ⟨by omega, fun v9 => opE_r b8⟩, Or.inr ⟨by omega, b8, b7⟩, fun h9 => absurd h9 (by decide), Or.inr (Or.inr ⟨rfl, by omega⟩)⟩⟩, rfl⟩
set_option maxHeartbeats 4000000 in
theorem h_key (w : wX) (K : mR) (c : Nat → Option am_C) (N D : Nat) (hD : 7 ≤ D) (hT : KTy K) (i i9 : Int) (h0 : 0 ≤ i) (h3 : i ≤ 3072) (hI : IK i K) (hii : i9 = i + 6) (hc : ∃ F, c 326 = some (ocl F)) (hFR : FRp N K) (hNN : 327 ≤ N ∧ N ≤ 8100) (a0 : Int) (q0 : R32 a0) (a1 : Int) (q1 : R64 a1) (a2 : Int) (q2 : R64 a2) : TC w D 166 [.ref 0, .int (i32 a0), .long (i64 a1), .long (i64 a2)] (khp K c, N) (HQ i9 c N (fun r K9 _ => fr fF_pw_key fA_pw_key K K9 ∧ ((r = 0 ∧ (0 ≤ a0 ∧ a0 ≤ 3) ∧ K9.2 2 = upI (K.2 2) a0 a1 ∧ K9.2 3 = upI (K.2 3) a0 a2) ∨ (r = 1 ∧ (a0 < 0 ∨ 3 < a0) ∧ K9.2 2 = K.2 2 ∧ K9.2 3 = K.2 3)))) := by
  obtain ⟨D, rfl⟩ : ∃ k, D = k + 1 := ⟨D - 1, by omega⟩
  have hI6 : IK i9 K := IK_i hI (by omega)
  obtain ⟨k_ct, k_hNu, k_hNK, k_hPI, k_hHB0, k_hIH0, k_hEM0, k_hDE0, k_hAC0, k_hTL0, k_hTD0, k_hTC0, k_hSP0⟩ := id hI
  refine Tc_of rfl ?_
  show TT w D pm_166 (0, [(0, .ref 0), (1, .int (i32 a0)), (2, .long (i64 a1)), (4, .long (i64 a2))], [], (khp K c, N), 0, 0) _
  refine T_ld 1 (.ref 0) rfl (fun _ => rfl) ?_
  refine T_ld 2 (.int (i32 a0)) rfl (fun _ => rfl) ?_
  refine T_ld 3 (.long (i64 a1)) rfl (fun _ => rfl) ?_
  refine T_ld 5 (.long (i64 a2)) rfl (fun _ => rfl) ?_
  refine T_callc 8 167 [.ref 0, .int (i32 a0), .long (i64 a1), .long (i64 a2)] [] rfl (fun _ => rfl) rfl rfl (c_pw_key w K c N D (by omega) hT a0 a1 a2 q0 q1 q2 ) (fun r hr => ?_)
  rcases hr with ⟨M1, T1, F1, b0, b1, rfl⟩ | ⟨x1, M1, hx, T1, F1, b0, b1, rfl⟩
  · refine Or.inl ⟨_, _, _, _, rfl, ?_⟩
    have hik : IK i9 M1 := ⟨(show (M1.1 232) ≤ i9 ∧ (M1.1 235) ≤ 20 * i9 ∧ (M1.1 234) ≤ (M1.1 235) ∧ (M1.1 233) ≤ (M1.1 232) by rw [fr1 F1 232 rfl, fr1 F1 235 rfl, fr1 F1 234 rfl, fr1 F1 233 rfl]; omega), (show ∀ r9, 0 ≤ r9 → r9 < 128 → r9 < (M1.1 232) → 1 ≤ (M1.2 107) r9 by rw [fr1 F1 232 rfl, fr2 F1 107 rfl]; exact k_hNu), (show NKp (M1.2 18) (M1.2 19) by rw [fr2 F1 18 rfl, fr2 F1 19 rfl]; exact k_hNK), (show PIp (M1.1 226) (M1.1 233) (M1.1 232) (M1.2 106) (M1.2 91) (M1.2 92) (M1.2 94) by rw [fr1 F1 226 rfl, fr1 F1 233 rfl, fr1 F1 232 rfl, fr2 F1 106 rfl, fr2 F1 91 rfl, fr2 F1 92 rfl, fr2 F1 94 rfl]; exact k_hPI), (show (M1.1 201) = 1 → HBp (M1.1 214) (M1.2 10) by rw [fr1 F1 201 rfl, fr1 F1 214 rfl, fr2 F1 10 rfl]; exact k_hHB0), (show (M1.1 201) = 1 → IHp (M1.1 215) (M1.2 13) (M1.1 214) by rw [fr1 F1 201 rfl, fr1 F1 215 rfl, fr2 F1 13 rfl, fr1 F1 214 rfl]; exact k_hIH0), (show (M1.1 201) = 1 → LTp (M1.1 218) (M1.2 17) (M1.1 215) by rw [fr1 F1 201 rfl, fr1 F1 218 rfl, fr2 F1 17 rfl, fr1 F1 215 rfl]; exact k_hEM0), (show (M1.1 201) = 1 → DEp (M1.1 224) (M1.2 45) (M1.2 46) (M1.2 47) (M1.2 49) by rw [fr1 F1 201 rfl, fr1 F1 224 rfl, fr2 F1 45 rfl, fr2 F1 46 rfl, fr2 F1 47 rfl, fr2 F1 49 rfl]; exact k_hDE0), (show (M1.1 201) = 1 → AcP (M1.1 223) (M1.1 224) (M1.2 43) (M1.2 44) by rw [fr1 F1 201 rfl, fr1 F1 223 rfl, fr1 F1 224 rfl, fr2 F1 43 rfl, fr2 F1 44 rfl]; exact k_hAC0), (show (M1.1 201) = 1 → TLp (M1.1 219) (M1.2 73) (M1.2 83) (M1.1 223) by rw [fr1 F1 201 rfl, fr1 F1 219 rfl, fr2 F1 73 rfl, fr2 F1 83 rfl, fr1 F1 223 rfl]; exact k_hTL0), (show (M1.1 201) = 1 → LTp (M1.1 219) (M1.2 74) (M1.1 223) by rw [fr1 F1 201 rfl, fr1 F1 219 rfl, fr2 F1 74 rfl, fr1 F1 223 rfl]; exact k_hTD0), (show (M1.1 201) = 1 → TCp (M1.1 219) (M1.2 78) (M1.2 89) (M1.1 223) by rw [fr1 F1 201 rfl, fr1 F1 219 rfl, fr2 F1 78 rfl, fr2 F1 89 rfl, fr1 F1 223 rfl]; exact k_hTC0), (show (M1.1 201) = 1 → SPp (M1.1 225) (M1.2 52) (M1.2 58) (M1.2 55) (M1.2 56) (M1.1 219) (M1.1 224) by rw [fr1 F1 201 rfl, fr1 F1 225 rfl, fr2 F1 52 rfl, fr2 F1 58 rfl, fr2 F1 55 rfl, fr2 F1 56 rfl, fr1 F1 219 rfl, fr1 F1 224 rfl]; exact k_hSP0)⟩
    refine T_ns (st' := []) rfl ?_
    refine T_goto 15 rfl (fun _ => rfl) ?_
    refine T_ld 16 (.int (i32 0)) rfl (fun _ => rfl) ?_
    refine T_ret rfl (fun _ => rfl) ?_
    exact ⟨M1, c, _, _, _, 0, T1, hik, (OC_r hc), (FR_c (fr2 F1 108 rfl) hFR), ⟨by omega, by omega, by omega, by omega⟩, ⟨⟨by decide, by decide⟩, ⟨F1, Or.inl ⟨rfl, b0, b1⟩⟩⟩, rfl⟩
  · have hik : IK i9 M1 := ⟨(show (M1.1 232) ≤ i9 ∧ (M1.1 235) ≤ 20 * i9 ∧ (M1.1 234) ≤ (M1.1 235) ∧ (M1.1 233) ≤ (M1.1 232) by rw [fr1 F1 232 rfl, fr1 F1 235 rfl, fr1 F1 234 rfl, fr1 F1 233 rfl]; omega), (show ∀ r9, 0 ≤ r9 → r9 < 128 → r9 < (M1.1 232) → 1 ≤ (M1.2 107) r9 by rw [fr1 F1 232 rfl, fr2 F1 107 rfl]; exact k_hNu), (show NKp (M1.2 18) (M1.2 19) by rw [fr2 F1 18 rfl, fr2 F1 19 rfl]; exact k_hNK), (show PIp (M1.1 226) (M1.1 233) (M1.1 232) (M1.2 106) (M1.2 91) (M1.2 92) (M1.2 94) by rw [fr1 F1 226 rfl, fr1 F1 233 rfl, fr1 F1 232 rfl, fr2 F1 106 rfl, fr2 F1 91 rfl, fr2 F1 92 rfl, fr2 F1 94 rfl]; exact k_hPI), (show (M1.1 201) = 1 → HBp (M1.1 214) (M1.2 10) by rw [fr1 F1 201 rfl, fr1 F1 214 rfl, fr2 F1 10 rfl]; exact k_hHB0), (show (M1.1 201) = 1 → IHp (M1.1 215) (M1.2 13) (M1.1 214) by rw [fr1 F1 201 rfl, fr1 F1 215 rfl, fr2 F1 13 rfl, fr1 F1 214 rfl]; exact k_hIH0), (show (M1.1 201) = 1 → LTp (M1.1 218) (M1.2 17) (M1.1 215) by rw [fr1 F1 201 rfl, fr1 F1 218 rfl, fr2 F1 17 rfl, fr1 F1 215 rfl]; exact k_hEM0), (show (M1.1 201) = 1 → DEp (M1.1 224) (M1.2 45) (M1.2 46) (M1.2 47) (M1.2 49) by rw [fr1 F1 201 rfl, fr1 F1 224 rfl, fr2 F1 45 rfl, fr2 F1 46 rfl, fr2 F1 47 rfl, fr2 F1 49 rfl]; exact k_hDE0), (show (M1.1 201) = 1 → AcP (M1.1 223) (M1.1 224) (M1.2 43) (M1.2 44) by rw [fr1 F1 201 rfl, fr1 F1 223 rfl, fr1 F1 224 rfl, fr2 F1 43 rfl, fr2 F1 44 rfl]; exact k_hAC0), (show (M1.1 201) = 1 → TLp (M1.1 219) (M1.2 73) (M1.2 83) (M1.1 223) by rw [fr1 F1 201 rfl, fr1 F1 219 rfl, fr2 F1 73 rfl, fr2 F1 83 rfl, fr1 F1 223 rfl]; exact k_hTL0), (show (M1.1 201) = 1 → LTp (M1.1 219) (M1.2 74) (M1.1 223) by rw [fr1 F1 201 rfl, fr1 F1 219 rfl, fr2 F1 74 rfl, fr1 F1 223 rfl]; exact k_hTD0), (show (M1.1 201) = 1 → TCp (M1.1 219) (M1.2 78) (M1.2 89) (M1.1 223) by rw [fr1 F1 201 rfl, fr1 F1 219 rfl, fr2 F1 78 rfl, fr2 F1 89 rfl, fr1 F1 223 rfl]; exact k_hTC0), (show (M1.1 201) = 1 → SPp (M1.1 225) (M1.2 52) (M1.2 58) (M1.2 55) (M1.2 56) (M1.1 219) (M1.1 224) by rw [fr1 F1 201 rfl, fr1 F1 225 rfl, fr2 F1 52 rfl, fr2 F1 58 rfl, fr2 F1 55 rfl, fr2 F1 56 rfl, fr1 F1 219 rfl, fr1 F1 224 rfl]; exact k_hSP0)⟩
    obtain ⟨c1, e1, oc⟩ := L_exc (x := nm_xc x1) (c := c) (c0 := c) (FR_c (fr2 F1 108 rfl) hFR) hNN.1 hc
    subst hx
    refine Or.inr ⟨_, _, _, _, _, _, rfl, rfl, by omega, ?_⟩
    rw [e1]
    refine Tm_step (S' := (13, (6, .ref N) :: [(0, .ref 0), (1, .int (i32 a0)), (2, .long (i64 a1)), (4, .long (i64 a2))], [], (khp M1 c1, N + 1), _, _)) rfl (fun _ => rfl) ?_
    refine T_ld 14 (.int (i32 1)) rfl (fun _ => rfl) ?_
    refine T_ret rfl (fun _ => rfl) ?_
    exact ⟨M1, c1, _, _, _, 1, T1, hik, oc, FR_s (FR_c (fr2 F1 108 rfl) hFR) (by omega), ⟨by omega, by omega, by omega, by omega⟩, ⟨⟨by decide, by decide⟩, ⟨F1, Or.inr ⟨rfl, b0, b1⟩⟩⟩, rfl⟩
set_option maxHeartbeats 4000000 in
theorem h_datum (w : wX) (K : mR) (c : Nat → Option am_C) (N D : Nat) (hD : 7 ≤ D) (hT : KTy K) (i i9 : Int) (h0 : 0 ≤ i) (h3 : i ≤ 3072) (hI : IK i K) (hii : i9 = i + 6) (hc : ∃ F, c 326 = some (ocl F)) (hFR : FRp N K) (hNN : 327 ≤ N ∧ N ≤ 8100) (a0 : Int) (q0 : R32 a0) (a1 : Int) (q1 : R64 a1) : TC w D 168 [.ref 0, .int (i32 a0), .long (i64 a1)] (khp K c, N) (HQ i9 c N (fun r K9 _ => fr fF_pw_datum fA_pw_datum K K9 ∧ ((r = 0 ∧ (0 ≤ a0 ∧ a0 ≤ 3) ∧ K9.2 4 = upI (K.2 4) a0 a1) ∨ (r = 1 ∧ (a0 < 0 ∨ 3 < a0) ∧ K9.2 4 = K.2 4)))) := by
  obtain ⟨D, rfl⟩ : ∃ k, D = k + 1 := ⟨D - 1, by omega⟩
  have hI6 : IK i9 K := IK_i hI (by omega)
  obtain ⟨k_ct, k_hNu, k_hNK, k_hPI, k_hHB0, k_hIH0, k_hEM0, k_hDE0, k_hAC0, k_hTL0, k_hTD0, k_hTC0, k_hSP0⟩ := id hI
  refine Tc_of rfl ?_
  show TT w D pm_168 (0, [(0, .ref 0), (1, .int (i32 a0)), (2, .long (i64 a1))], [], (khp K c, N), 0, 0) _
  refine T_ld 1 (.ref 0) rfl (fun _ => rfl) ?_
  refine T_ld 2 (.int (i32 a0)) rfl (fun _ => rfl) ?_
  refine T_ld 3 (.long (i64 a1)) rfl (fun _ => rfl) ?_
  refine T_callc 6 169 [.ref 0, .int (i32 a0), .long (i64 a1)] [] rfl (fun _ => rfl) rfl rfl (c_pw_datum w K c N D (by omega) hT a0 a1 q0 q1 ) (fun r hr => ?_)
  rcases hr with ⟨M1, T1, F1, b0, b1, rfl⟩ | ⟨x1, M1, hx, T1, F1, b0, b1, rfl⟩
  · refine Or.inl ⟨_, _, _, _, rfl, ?_⟩
    have hik : IK i9 M1 := ⟨(show (M1.1 232) ≤ i9 ∧ (M1.1 235) ≤ 20 * i9 ∧ (M1.1 234) ≤ (M1.1 235) ∧ (M1.1 233) ≤ (M1.1 232) by rw [fr1 F1 232 rfl, fr1 F1 235 rfl, fr1 F1 234 rfl, fr1 F1 233 rfl]; omega), (show ∀ r9, 0 ≤ r9 → r9 < 128 → r9 < (M1.1 232) → 1 ≤ (M1.2 107) r9 by rw [fr1 F1 232 rfl, fr2 F1 107 rfl]; exact k_hNu), (show NKp (M1.2 18) (M1.2 19) by rw [fr2 F1 18 rfl, fr2 F1 19 rfl]; exact k_hNK), (show PIp (M1.1 226) (M1.1 233) (M1.1 232) (M1.2 106) (M1.2 91) (M1.2 92) (M1.2 94) by rw [fr1 F1 226 rfl, fr1 F1 233 rfl, fr1 F1 232 rfl, fr2 F1 106 rfl, fr2 F1 91 rfl, fr2 F1 92 rfl, fr2 F1 94 rfl]; exact k_hPI), (show (M1.1 201) = 1 → HBp (M1.1 214) (M1.2 10) by rw [fr1 F1 201 rfl, fr1 F1 214 rfl, fr2 F1 10 rfl]; exact k_hHB0), (show (M1.1 201) = 1 → IHp (M1.1 215) (M1.2 13) (M1.1 214) by rw [fr1 F1 201 rfl, fr1 F1 215 rfl, fr2 F1 13 rfl, fr1 F1 214 rfl]; exact k_hIH0), (show (M1.1 201) = 1 → LTp (M1.1 218) (M1.2 17) (M1.1 215) by rw [fr1 F1 201 rfl, fr1 F1 218 rfl, fr2 F1 17 rfl, fr1 F1 215 rfl]; exact k_hEM0), (show (M1.1 201) = 1 → DEp (M1.1 224) (M1.2 45) (M1.2 46) (M1.2 47) (M1.2 49) by rw [fr1 F1 201 rfl, fr1 F1 224 rfl, fr2 F1 45 rfl, fr2 F1 46 rfl, fr2 F1 47 rfl, fr2 F1 49 rfl]; exact k_hDE0), (show (M1.1 201) = 1 → AcP (M1.1 223) (M1.1 224) (M1.2 43) (M1.2 44) by rw [fr1 F1 201 rfl, fr1 F1 223 rfl, fr1 F1 224 rfl, fr2 F1 43 rfl, fr2 F1 44 rfl]; exact k_hAC0), (show (M1.1 201) = 1 → TLp (M1.1 219) (M1.2 73) (M1.2 83) (M1.1 223) by rw [fr1 F1 201 rfl, fr1 F1 219 rfl, fr2 F1 73 rfl, fr2 F1 83 rfl, fr1 F1 223 rfl]; exact k_hTL0), (show (M1.1 201) = 1 → LTp (M1.1 219) (M1.2 74) (M1.1 223) by rw [fr1 F1 201 rfl, fr1 F1 219 rfl, fr2 F1 74 rfl, fr1 F1 223 rfl]; exact k_hTD0), (show (M1.1 201) = 1 → TCp (M1.1 219) (M1.2 78) (M1.2 89) (M1.1 223) by rw [fr1 F1 201 rfl, fr1 F1 219 rfl, fr2 F1 78 rfl, fr2 F1 89 rfl, fr1 F1 223 rfl]; exact k_hTC0), (show (M1.1 201) = 1 → SPp (M1.1 225) (M1.2 52) (M1.2 58) (M1.2 55) (M1.2 56) (M1.1 219) (M1.1 224) by rw [fr1 F1 201 rfl, fr1 F1 225 rfl, fr2 F1 52 rfl, fr2 F1 58 rfl, fr2 F1 55 rfl, fr2 F1 56 rfl, fr1 F1 219 rfl, fr1 F1 224 rfl]; exact k_hSP0)⟩
    refine T_ns (st' := []) rfl ?_
    refine T_goto 13 rfl (fun _ => rfl) ?_
    refine T_ld 14 (.int (i32 0)) rfl (fun _ => rfl) ?_
    refine T_ret rfl (fun _ => rfl) ?_
    exact ⟨M1, c, _, _, _, 0, T1, hik, (OC_r hc), (FR_c (fr2 F1 108 rfl) hFR), ⟨by omega, by omega, by omega, by omega⟩, ⟨⟨by decide, by decide⟩, ⟨F1, Or.inl ⟨rfl, b0, b1⟩⟩⟩, rfl⟩
  · have hik : IK i9 M1 := ⟨(show (M1.1 232) ≤ i9 ∧ (M1.1 235) ≤ 20 * i9 ∧ (M1.1 234) ≤ (M1.1 235) ∧ (M1.1 233) ≤ (M1.1 232) by rw [fr1 F1 232 rfl, fr1 F1 235 rfl, fr1 F1 234 rfl, fr1 F1 233 rfl]; omega), (show ∀ r9, 0 ≤ r9 → r9 < 128 → r9 < (M1.1 232) → 1 ≤ (M1.2 107) r9 by rw [fr1 F1 232 rfl, fr2 F1 107 rfl]; exact k_hNu), (show NKp (M1.2 18) (M1.2 19) by rw [fr2 F1 18 rfl, fr2 F1 19 rfl]; exact k_hNK), (show PIp (M1.1 226) (M1.1 233) (M1.1 232) (M1.2 106) (M1.2 91) (M1.2 92) (M1.2 94) by rw [fr1 F1 226 rfl, fr1 F1 233 rfl, fr1 F1 232 rfl, fr2 F1 106 rfl, fr2 F1 91 rfl, fr2 F1 92 rfl, fr2 F1 94 rfl]; exact k_hPI), (show (M1.1 201) = 1 → HBp (M1.1 214) (M1.2 10) by rw [fr1 F1 201 rfl, fr1 F1 214 rfl, fr2 F1 10 rfl]; exact k_hHB0), (show (M1.1 201) = 1 → IHp (M1.1 215) (M1.2 13) (M1.1 214) by rw [fr1 F1 201 rfl, fr1 F1 215 rfl, fr2 F1 13 rfl, fr1 F1 214 rfl]; exact k_hIH0), (show (M1.1 201) = 1 → LTp (M1.1 218) (M1.2 17) (M1.1 215) by rw [fr1 F1 201 rfl, fr1 F1 218 rfl, fr2 F1 17 rfl, fr1 F1 215 rfl]; exact k_hEM0), (show (M1.1 201) = 1 → DEp (M1.1 224) (M1.2 45) (M1.2 46) (M1.2 47) (M1.2 49) by rw [fr1 F1 201 rfl, fr1 F1 224 rfl, fr2 F1 45 rfl, fr2 F1 46 rfl, fr2 F1 47 rfl, fr2 F1 49 rfl]; exact k_hDE0), (show (M1.1 201) = 1 → AcP (M1.1 223) (M1.1 224) (M1.2 43) (M1.2 44) by rw [fr1 F1 201 rfl, fr1 F1 223 rfl, fr1 F1 224 rfl, fr2 F1 43 rfl, fr2 F1 44 rfl]; exact k_hAC0), (show (M1.1 201) = 1 → TLp (M1.1 219) (M1.2 73) (M1.2 83) (M1.1 223) by rw [fr1 F1 201 rfl, fr1 F1 219 rfl, fr2 F1 73 rfl, fr2 F1 83 rfl, fr1 F1 223 rfl]; exact k_hTL0), (show (M1.1 201) = 1 → LTp (M1.1 219) (M1.2 74) (M1.1 223) by rw [fr1 F1 201 rfl, fr1 F1 219 rfl, fr2 F1 74 rfl, fr1 F1 223 rfl]; exact k_hTD0), (show (M1.1 201) = 1 → TCp (M1.1 219) (M1.2 78) (M1.2 89) (M1.1 223) by rw [fr1 F1 201 rfl, fr1 F1 219 rfl, fr2 F1 78 rfl, fr2 F1 89 rfl, fr1 F1 223 rfl]; exact k_hTC0), (show (M1.1 201) = 1 → SPp (M1.1 225) (M1.2 52) (M1.2 58) (M1.2 55) (M1.2 56) (M1.1 219) (M1.1 224) by rw [fr1 F1 201 rfl, fr1 F1 225 rfl, fr2 F1 52 rfl, fr2 F1 58 rfl, fr2 F1 55 rfl, fr2 F1 56 rfl, fr1 F1 219 rfl, fr1 F1 224 rfl]; exact k_hSP0)⟩
    obtain ⟨c1, e1, oc⟩ := L_exc (x := nm_xc x1) (c := c) (c0 := c) (FR_c (fr2 F1 108 rfl) hFR) hNN.1 hc
    subst hx
    refine Or.inr ⟨_, _, _, _, _, _, rfl, rfl, by omega, ?_⟩
    rw [e1]
    refine Tm_step (S' := (11, (4, .ref N) :: [(0, .ref 0), (1, .int (i32 a0)), (2, .long (i64 a1))], [], (khp M1 c1, N + 1), _, _)) rfl (fun _ => rfl) ?_
    refine T_ld 12 (.int (i32 1)) rfl (fun _ => rfl) ?_
    refine T_ret rfl (fun _ => rfl) ?_
    exact ⟨M1, c1, _, _, _, 1, T1, hik, oc, FR_s (FR_c (fr2 F1 108 rfl) hFR) (by omega), ⟨by omega, by omega, by omega, by omega⟩, ⟨⟨by decide, by decide⟩, ⟨F1, Or.inr ⟨rfl, b0, b1⟩⟩⟩, rfl⟩
set_option maxHeartbeats 4000000 in
theorem h_entry (w : wX) (K : mR) (c : Nat → Option am_C) (N D : Nat) (hD : 7 ≤ D) (hT : KTy K) (i i9 : Int) (h0 : 0 ≤ i) (h3 : i ≤ 3072) (hI : IK i K) (hii : i9 = i + 6) (hc : ∃ F, c 326 = some (ocl F)) (hFR : FRp N K) (hNN : 327 ≤ N ∧ N ≤ 8100) (a0 : Int) (q0 : R32 a0) (a1 : Int) (q1 : R32 a1) (a2 : Int) (q2 : R32 a2) (a3 : Int) (q3 : R32 a3) : TC w D 170 [.ref 0, .int (i32 a0), .int (i32 a1), .int (i32 a2), .int (i32 a3), .ref 326] (khp K c, N) (HQ i9 c N (fun r K9 c9 => fr fF_pw_entry fA_pw_entry K K9 ∧ (∀ g, kopi (K9.2 106) (K9.2 107) g = kopi (K.2 106) (K.2 107) g) ∧ (((0 ≤ a0 ∧ a0 ≤ 2 ∧ K.1 201 = 1 ∧ 0 ≤ a1 ∧ a1 < K.1 219) ∧ 1 ≤ K.1 226 ∧ K.1 232 - K.1 233 < 40 ∧ rwO (K.1 232 % 128) K K9 ∧ K9.2 91 (K.1 232 % 128) = a0 + 1 ∧ K9.2 95 (K.1 232 % 128) = a1 ∧ K9.2 96 (K.1 232 % 128) = a2 ∧ K9.2 97 (K.1 232 % 128) = a3 ∧ ∀ j, 0 ≤ j → j < 4 → K9.2 103 (65536 * (K.1 232 % 128) + j) = K.2 2 j ∧ K9.2 104 (65536 * (K.1 232 % 128) + j) = K.2 3 j ∧ K9.2 105 (65536 * (K.1 232 % 128) + j) = K.2 4 j) ∨ ((a0 < 0 ∨ 2 < a0 ∨ K.1 201 = 0 ∨ a1 < 0 ∨ K.1 219 ≤ a1 ∨ K.1 226 ≤ 0 ∨ 40 ≤ K.1 232 - K.1 233) ∧ ∀ r, opE K K9 r)) ∧ RQE a0 a1 K K9 ∧ (r = 0 → ∃ F, c9 326 = some (ocl F) ∧ F 0 = i64 (K.1 232) ∧ R64 (K.1 232)) ∧ ((r = 0 ∧ (0 ≤ a0 ∧ a0 ≤ 2 ∧ K.1 201 = 1 ∧ 0 ≤ a1 ∧ a1 < K.1 219) ∧ 1 ≤ K.1 226 ∧ K.1 232 - K.1 233 < 40 ∧ K9.1 232 = K.1 232 + 1) ∨ (r = 1 ∧ (a0 < 0 ∨ 2 < a0 ∨ K.1 201 = 0 ∨ a1 < 0 ∨ K.1 219 ≤ a1) ∧ K9.1 232 = K.1 232) ∨ (r = 2 ∧ (0 ≤ a0 ∧ a0 ≤ 2 ∧ K.1 201 = 1 ∧ 0 ≤ a1 ∧ a1 < K.1 219) ∧ (K.1 226 ≤ 0 ∨ 40 ≤ K.1 232 - K.1 233) ∧ K9.1 232 = K.1 232)))) := by
  obtain ⟨D, rfl⟩ : ∃ k, D = k + 1 := ⟨D - 1, by omega⟩
  have hI6 : IK i9 K := IK_i hI (by omega)
  obtain ⟨k_ct, k_hNu, k_hNK, k_hPI, k_hHB0, k_hIH0, k_hEM0, k_hDE0, k_hAC0, k_hTL0, k_hTD0, k_hTC0, k_hSP0⟩ := id hI
  refine Tc_of rfl ?_
  show TT w D pm_170 (0, [(0, .ref 0), (1, .int (i32 a0)), (2, .int (i32 a1)), (3, .int (i32 a2)), (4, .int (i32 a3)), (5, .ref 326)], [], (khp K c, N), 0, 0) _
  refine T_ld 2 (.ref 326) rfl (fun _ => rfl) ?_
  refine T_ld 3 (.int (i32 0)) rfl (fun _ => rfl) ?_
  refine T_ld 4 (.ref 0) rfl (fun _ => rfl) ?_
  refine T_ld 5 (.int (i32 a0)) rfl (fun _ => rfl) ?_
  refine T_ld 6 (.int (i32 a1)) rfl (fun _ => rfl) ?_
  refine T_ld 7 (.int (i32 a2)) rfl (fun _ => rfl) ?_
  refine T_ld 9 (.int (i32 a3)) rfl (fun _ => rfl) ?_
  refine T_callc 12 171 [.ref 0, .int (i32 a0), .int (i32 a1), .int (i32 a2), .int (i32 a3)] [.int (i32 0), .ref 326] rfl (fun _ => rfl) rfl rfl (c_pw_entry w K c N D (by omega) hT a0 a1 a2 a3 q0 q1 q2 q3 k_hNu k_hPI hFR hNN (by omega)) (fun r hr => ?_)
  rcases hr with ⟨M1, r1, T1, F1, g1, b0, b1, b2, b3, b4, b5, b6, b7, b8, b9, b10, N2, k2, n2, hn2, f2, rfl⟩ | ⟨x1, M1, hx, T1, F1, b0, b1, b2, b3, b4, b5, b6, b7, b8, rfl⟩
  · refine Or.inl ⟨_, _, _, _, rfl, ?_⟩
    have hik : IK i9 M1 := ⟨(show (M1.1 232) ≤ i9 ∧ (M1.1 235) ≤ 20 * i9 ∧ (M1.1 234) ≤ (M1.1 235) ∧ (M1.1 233) ≤ (M1.1 232) by rw [fr1 F1 235 rfl, fr1 F1 234 rfl, fr1 F1 233 rfl]; omega), (show ∀ r9, 0 ≤ r9 → r9 < 128 → r9 < (M1.1 232) → 1 ≤ (M1.2 107) r9 by exact b1), (show NKp (M1.2 18) (M1.2 19) by rw [fr2 F1 18 rfl, fr2 F1 19 rfl]; exact k_hNK), (show PIp (M1.1 226) (M1.1 233) (M1.1 232) (M1.2 106) (M1.2 91) (M1.2 92) (M1.2 94) by rw [fr1 F1 226 rfl, fr1 F1 233 rfl]; exact b0), (show (M1.1 201) = 1 → HBp (M1.1 214) (M1.2 10) by rw [fr1 F1 201 rfl, fr1 F1 214 rfl, fr2 F1 10 rfl]; exact k_hHB0), (show (M1.1 201) = 1 → IHp (M1.1 215) (M1.2 13) (M1.1 214) by rw [fr1 F1 201 rfl, fr1 F1 215 rfl, fr2 F1 13 rfl, fr1 F1 214 rfl]; exact k_hIH0), (show (M1.1 201) = 1 → LTp (M1.1 218) (M1.2 17) (M1.1 215) by rw [fr1 F1 201 rfl, fr1 F1 218 rfl, fr2 F1 17 rfl, fr1 F1 215 rfl]; exact k_hEM0), (show (M1.1 201) = 1 → DEp (M1.1 224) (M1.2 45) (M1.2 46) (M1.2 47) (M1.2 49) by rw [fr1 F1 201 rfl, fr1 F1 224 rfl, fr2 F1 45 rfl, fr2 F1 46 rfl, fr2 F1 47 rfl, fr2 F1 49 rfl]; exact k_hDE0), (show (M1.1 201) = 1 → AcP (M1.1 223) (M1.1 224) (M1.2 43) (M1.2 44) by rw [fr1 F1 201 rfl, fr1 F1 223 rfl, fr1 F1 224 rfl, fr2 F1 43 rfl, fr2 F1 44 rfl]; exact k_hAC0), (show (M1.1 201) = 1 → TLp (M1.1 219) (M1.2 73) (M1.2 83) (M1.1 223) by rw [fr1 F1 201 rfl, fr1 F1 219 rfl, fr2 F1 73 rfl, fr2 F1 83 rfl, fr1 F1 223 rfl]; exact k_hTL0), (show (M1.1 201) = 1 → LTp (M1.1 219) (M1.2 74) (M1.1 223) by rw [fr1 F1 201 rfl, fr1 F1 219 rfl, fr2 F1 74 rfl, fr1 F1 223 rfl]; exact k_hTD0), (show (M1.1 201) = 1 → TCp (M1.1 219) (M1.2 78) (M1.2 89) (M1.1 223) by rw [fr1 F1 201 rfl, fr1 F1 219 rfl, fr2 F1 78 rfl, fr2 F1 89 rfl, fr1 F1 223 rfl]; exact k_hTC0), (show (M1.1 201) = 1 → SPp (M1.1 225) (M1.2 52) (M1.2 58) (M1.2 55) (M1.2 56) (M1.1 219) (M1.1 224) by rw [fr1 F1 201 rfl, fr1 F1 225 rfl, fr2 F1 52 rfl, fr2 F1 58 rfl, fr2 F1 55 rfl, fr2 F1 56 rfl, fr1 F1 219 rfl, fr1 F1 224 rfl]; exact k_hSP0)⟩
    refine T_ns (st' := [.int (i32 r1), .int (i32 0), .ref 326]) rfl ?_
    refine T_i2l 13 rfl rfl ⟨by omega, by omega⟩ ?_
    refine L_out 14 rfl T1 hc rfl (fun c1 oc ho => ?_)
    refine T_goto 25 rfl (fun _ => rfl) ?_
    refine T_ld 26 (.int (i32 0)) rfl (fun _ => rfl) ?_
    refine T_ret rfl (fun _ => rfl) ?_
    exact ⟨M1, c1, _, _, _, 0, T1, hik, oc, f2, ⟨by omega, by omega, by omega, by omega⟩, ⟨⟨by decide, by decide⟩, ⟨F1, b10, Or.inl ⟨by omega, by omega, by omega, ⟨b6, b7⟩, b8.1, b8.2.1, b8.2.2.1, b8.2.2.2, b9⟩, Or.inl ⟨by omega, by omega, by omega, ⟨b6, b7⟩, b4, b5⟩, fun _ => (by obtain ⟨Fo, o1, o2⟩ := ho; exact ⟨Fo, o1, (by rw [show K.1 232 = r1 by omega]; exact o2), ⟨by omega, by omega⟩⟩), Or.inl ⟨rfl, by omega⟩⟩⟩, rfl⟩
  · have hik : IK i9 M1 := ⟨(show (M1.1 232) ≤ i9 ∧ (M1.1 235) ≤ 20 * i9 ∧ (M1.1 234) ≤ (M1.1 235) ∧ (M1.1 233) ≤ (M1.1 232) by rw [fr1 F1 235 rfl, fr1 F1 234 rfl, fr1 F1 233 rfl]; omega), (show ∀ r9, 0 ≤ r9 → r9 < 128 → r9 < (M1.1 232) → 1 ≤ (M1.2 107) r9 by exact b1), (show NKp (M1.2 18) (M1.2 19) by rw [fr2 F1 18 rfl, fr2 F1 19 rfl]; exact k_hNK), (show PIp (M1.1 226) (M1.1 233) (M1.1 232) (M1.2 106) (M1.2 91) (M1.2 92) (M1.2 94) by rw [fr1 F1 226 rfl, fr1 F1 233 rfl]; exact b0), (show (M1.1 201) = 1 → HBp (M1.1 214) (M1.2 10) by rw [fr1 F1 201 rfl, fr1 F1 214 rfl, fr2 F1 10 rfl]; exact k_hHB0), (show (M1.1 201) = 1 → IHp (M1.1 215) (M1.2 13) (M1.1 214) by rw [fr1 F1 201 rfl, fr1 F1 215 rfl, fr2 F1 13 rfl, fr1 F1 214 rfl]; exact k_hIH0), (show (M1.1 201) = 1 → LTp (M1.1 218) (M1.2 17) (M1.1 215) by rw [fr1 F1 201 rfl, fr1 F1 218 rfl, fr2 F1 17 rfl, fr1 F1 215 rfl]; exact k_hEM0), (show (M1.1 201) = 1 → DEp (M1.1 224) (M1.2 45) (M1.2 46) (M1.2 47) (M1.2 49) by rw [fr1 F1 201 rfl, fr1 F1 224 rfl, fr2 F1 45 rfl, fr2 F1 46 rfl, fr2 F1 47 rfl, fr2 F1 49 rfl]; exact k_hDE0), (show (M1.1 201) = 1 → AcP (M1.1 223) (M1.1 224) (M1.2 43) (M1.2 44) by rw [fr1 F1 201 rfl, fr1 F1 223 rfl, fr1 F1 224 rfl, fr2 F1 43 rfl, fr2 F1 44 rfl]; exact k_hAC0), (show (M1.1 201) = 1 → TLp (M1.1 219) (M1.2 73) (M1.2 83) (M1.1 223) by rw [fr1 F1 201 rfl, fr1 F1 219 rfl, fr2 F1 73 rfl, fr2 F1 83 rfl, fr1 F1 223 rfl]; exact k_hTL0), (show (M1.1 201) = 1 → LTp (M1.1 219) (M1.2 74) (M1.1 223) by rw [fr1 F1 201 rfl, fr1 F1 219 rfl, fr2 F1 74 rfl, fr1 F1 223 rfl]; exact k_hTD0), (show (M1.1 201) = 1 → TCp (M1.1 219) (M1.2 78) (M1.2 89) (M1.1 223) by rw [fr1 F1 201 rfl, fr1 F1 219 rfl, fr2 F1 78 rfl, fr2 F1 89 rfl, fr1 F1 223 rfl]; exact k_hTC0), (show (M1.1 201) = 1 → SPp (M1.1 225) (M1.2 52) (M1.2 58) (M1.2 55) (M1.2 56) (M1.1 219) (M1.1 224) by rw [fr1 F1 201 rfl, fr1 F1 225 rfl, fr2 F1 52 rfl, fr2 F1 58 rfl, fr2 F1 55 rfl, fr2 F1 56 rfl, fr1 F1 219 rfl, fr1 F1 224 rfl]; exact k_hSP0)⟩
    obtain ⟨c1, e1, oc⟩ := L_exc (x := nm_xc x1) (c := c) (c0 := c) b3 hNN.1 hc
    rcases hx with rfl | rfl
    · refine Or.inr ⟨_, _, _, _, _, _, rfl, rfl, by omega, ?_⟩
      rw [e1]
      refine Tm_step (S' := (19, (6, .ref N) :: [(0, .ref 0), (1, .int (i32 a0)), (2, .int (i32 a1)), (3, .int (i32 a2)), (4, .int (i32 a3)), (5, .ref 326)], [], (khp M1 c1, N + 1), _, _)) rfl (fun _ => rfl) ?_
      refine T_ld 20 (.int (i32 1)) rfl (fun _ => rfl) ?_
      refine T_ret rfl (fun _ => rfl) ?_
      exact ⟨M1, c1, _, _, _, 1, T1, hik, oc, FR_s b3 (by omega), ⟨by omega, by omega, by omega, by omega⟩, ⟨⟨by decide, by decide⟩, ⟨F1, b8, Or.inr ⟨by omega, fun v9 => opE_r b7⟩, Or.inr ⟨by omega, b7, b6⟩, fun h9 => absurd h9 (by decide), Or.inr (Or.inl ⟨rfl, by omega⟩)⟩⟩, rfl⟩
    · refine Or.inr ⟨_, _, _, _, _, _, rfl, rfl, by omega, ?_⟩
      rw [e1]
      refine Tm_step (S' := (23, (6, .ref N) :: [(0, .ref 0), (1, .int (i32 a0)), (2, .int (i32 a1)), (3, .int (i32 a2)), (4, .int (i32 a3)), (5, .ref 326)], [], (khp M1 c1, N + 1), _, _)) rfl (fun _ => rfl) ?_
      refine T_ld 24 (.int (i32 2)) rfl (fun _ => rfl) ?_
      refine T_ret rfl (fun _ => rfl) ?_
      exact ⟨M1, c1, _, _, _, 2, T1, hik, oc, FR_s b3 (by omega), ⟨by omega, by omega, by omega, by omega⟩, ⟨⟨by decide, by decide⟩, ⟨F1, b8, Or.inr ⟨by omega, fun v9 => opE_r b7⟩, Or.inr ⟨by omega, b7, b6⟩, fun h9 => absurd h9 (by decide), Or.inr (Or.inr ⟨rfl, by omega⟩)⟩⟩, rfl⟩
set_option maxHeartbeats 4000000 in
theorem h_run (w : wX) (K : mR) (c : Nat → Option am_C) (N D : Nat) (hD : 9 ≤ D) (hT : KTy K) (i i9 : Int) (h0 : 0 ≤ i) (h3 : i ≤ 3072) (hI : IK i K) (hii : i9 = i + 6) (hc : ∃ F, c 326 = some (ocl F)) (hFR : FRp N K) (hNN : 327 ≤ N ∧ N ≤ 8100) (Kj : mR) (hj : ∀ c9, khp Kj c9 = khp K c9) (hCj : KCo (Kj.2 107, Kj.2 108) Kj) (a0 : Int) (q0 : R32 a0) : TC w D 175 [.ref 0, .int (i32 a0), .ref 326] (khp K c, N) (HQ i9 c N (fun r K9 c9 => (∃ yj, kf_pw_run a0 Kj = some yj ∧ KCn yj.2.2 ∧ khp K9 c = khp yj.2.2 c) ∧ ∃ y, kf_pw_run a0 K = some y ∧ KCn y.2.2 ∧ khp K9 c = khp y.2.2 c ∧ fr fF_pw_run fA_pw_run K K9 ∧ (r = 0 → y.1 = 0 ∧ ∃ F, c9 326 = some (ocl F) ∧ F 0 = i64 y.2.1 ∧ R64 y.2.1) ∧ ((r = 0 ∧ K.1 201 = 1 ∧ 1 ≤ K.1 226 ∧ 0 ≤ a0 ∧ a0 ≤ 100 ∧ K9.1 235 = K.1 235 + a0 ∧ ((K9.1 233 = K.1 233 + a0 ∧ a0 ≤ K.1 232 - K.1 233) ∨ (K9.1 233 = K.1 232 ∧ K.1 232 - K.1 233 ≤ a0))) ∨ (r = 1 ∧ (K.1 201 = 0 ∨ K.1 226 ≤ 0) ∧ K9.1 233 = K.1 233 ∧ K9.1 235 = K.1 235) ∨ (r = 2 ∧ K.1 201 = 1 ∧ 1 ≤ K.1 226 ∧ (a0 < 0 ∨ 100 < a0) ∧ K9.1 233 = K.1 233 ∧ K9.1 235 = K.1 235)))) := by
  obtain ⟨D, rfl⟩ : ∃ k, D = k + 1 := ⟨D - 1, by omega⟩
  have hI6 : IK i9 K := IK_i hI (by omega)
  obtain ⟨k_ct, k_hNu, k_hNK, k_hPI, k_hHB0, k_hIH0, k_hEM0, k_hDE0, k_hAC0, k_hTL0, k_hTD0, k_hTC0, k_hSP0⟩ := id hI
  refine Tc_of rfl ?_
  show TT w D pm_175 (0, [(0, .ref 0), (1, .int (i32 a0)), (2, .ref 326)], [], (khp K c, N), 0, 0) _
  refine T_ld 1 (.ref 326) rfl (fun _ => rfl) ?_
  refine T_ld 2 (.int (i32 0)) rfl (fun _ => rfl) ?_
  refine T_ld 3 (.ref 0) rfl (fun _ => rfl) ?_
  refine T_ld 4 (.int (i32 a0)) rfl (fun _ => rfl) ?_
  refine T_callc 7 176 [.ref 0, .int (i32 a0)] [.int (i32 0), .ref 326] rfl (fun _ => rfl) rfl rfl (Tc_a (Tc_a (c_pw_run w K c N D (by omega) hT a0 q0 k_hNu k_hPI k_hNK (by omega) (by omega) (by omega) k_hHB0 k_hIH0 k_hEM0 k_hDE0 k_hAC0 k_hTL0 k_hTD0 k_hTC0 k_hSP0) (D_pw_run (K.2 107, K.2 108) w K c N D (KCo_K hT) a0 q0)) (D_kh (hj c) (D_pw_run (Kj.2 107, Kj.2 108) w Kj c N D hCj a0 q0))) (fun r hr => ?_)
  obtain ⟨hr, yj, hyj, hyrj⟩ := hr
  obtain ⟨hr, y, hy, hyr⟩ := hr
  rcases hr with ⟨M1, r1, T1, F1, g1, b0, b1, b2, b3, b4, rfl⟩ | ⟨x1, M1, hx, T1, F1, b0, b1, b2, b3, b4, b5, b6, rfl⟩
  · refine Or.inl ⟨_, _, _, _, rfl, ?_⟩
    obtain ⟨e1y, e2y, e3y, e4y⟩ := FX1_n (a := r1) ⟨by omega, by omega⟩ hyr
    obtain ⟨e1j, e2j, e3j, e4j⟩ := FX1_n (a := r1) ⟨by omega, by omega⟩ hyrj
    have hik : IK i9 M1 := ⟨(show (M1.1 232) ≤ i9 ∧ (M1.1 235) ≤ 20 * i9 ∧ (M1.1 234) ≤ (M1.1 235) ∧ (M1.1 233) ≤ (M1.1 232) by rw [fr1 F1 232 rfl]; omega), (show ∀ r9, 0 ≤ r9 → r9 < 128 → r9 < (M1.1 232) → 1 ≤ (M1.2 107) r9 by rw [fr1 F1 232 rfl, fr2 F1 107 rfl]; exact k_hNu), (show NKp (M1.2 18) (M1.2 19) by rw [fr2 F1 18 rfl, fr2 F1 19 rfl]; exact k_hNK), (show PIp (M1.1 226) (M1.1 233) (M1.1 232) (M1.2 106) (M1.2 91) (M1.2 92) (M1.2 94) by rw [fr1 F1 226 rfl, fr1 F1 232 rfl, fr2 F1 91 rfl]; exact b0), (show (M1.1 201) = 1 → HBp (M1.1 214) (M1.2 10) by rw [fr1 F1 201 rfl, fr1 F1 214 rfl, fr2 F1 10 rfl]; exact k_hHB0), (show (M1.1 201) = 1 → IHp (M1.1 215) (M1.2 13) (M1.1 214) by rw [fr1 F1 201 rfl, fr1 F1 215 rfl, fr2 F1 13 rfl, fr1 F1 214 rfl]; exact k_hIH0), (show (M1.1 201) = 1 → LTp (M1.1 218) (M1.2 17) (M1.1 215) by rw [fr1 F1 201 rfl, fr1 F1 218 rfl, fr2 F1 17 rfl, fr1 F1 215 rfl]; exact k_hEM0), (show (M1.1 201) = 1 → DEp (M1.1 224) (M1.2 45) (M1.2 46) (M1.2 47) (M1.2 49) by rw [fr1 F1 201 rfl, fr1 F1 224 rfl, fr2 F1 45 rfl, fr2 F1 46 rfl, fr2 F1 47 rfl, fr2 F1 49 rfl]; exact k_hDE0), (show (M1.1 201) = 1 → AcP (M1.1 223) (M1.1 224) (M1.2 43) (M1.2 44) by rw [fr1 F1 201 rfl, fr1 F1 223 rfl, fr1 F1 224 rfl, fr2 F1 43 rfl, fr2 F1 44 rfl]; exact k_hAC0), (show (M1.1 201) = 1 → TLp (M1.1 219) (M1.2 73) (M1.2 83) (M1.1 223) by rw [fr1 F1 201 rfl, fr1 F1 219 rfl, fr2 F1 73 rfl, fr2 F1 83 rfl, fr1 F1 223 rfl]; exact k_hTL0), (show (M1.1 201) = 1 → LTp (M1.1 219) (M1.2 74) (M1.1 223) by rw [fr1 F1 201 rfl, fr1 F1 219 rfl, fr2 F1 74 rfl, fr1 F1 223 rfl]; exact k_hTD0), (show (M1.1 201) = 1 → TCp (M1.1 219) (M1.2 78) (M1.2 89) (M1.1 223) by rw [fr1 F1 201 rfl, fr1 F1 219 rfl, fr1 F1 223 rfl]; exact b4), (show (M1.1 201) = 1 → SPp (M1.1 225) (M1.2 52) (M1.2 58) (M1.2 55) (M1.2 56) (M1.1 219) (M1.1 224) by rw [fr1 F1 201 rfl, fr1 F1 225 rfl, fr2 F1 52 rfl, fr2 F1 58 rfl, fr2 F1 55 rfl, fr2 F1 56 rfl, fr1 F1 219 rfl, fr1 F1 224 rfl]; exact k_hSP0)⟩
    refine T_ns (st' := [.int (i32 r1), .int (i32 0), .ref 326]) rfl ?_
    refine T_i2l 8 rfl rfl ⟨by omega, by omega⟩ ?_
    refine L_out 9 rfl T1 hc rfl (fun c1 oc ho => ?_)
    refine T_goto 18 rfl (fun _ => rfl) ?_
    refine T_ld 19 (.int (i32 0)) rfl (fun _ => rfl) ?_
    refine T_ret rfl (fun _ => rfl) ?_
    exact ⟨M1, c1, _, _, _, 0, T1, hik, oc, (FR_c (fr2 F1 108 rfl) hFR), ⟨by omega, by omega, by omega, by omega⟩, ⟨⟨by decide, by decide⟩, ⟨⟨yj, hyj, e4j, e3j⟩, y, hy, e4y, e3y, F1, fun _ => ⟨e1y, (by obtain ⟨Fo, o1, o2⟩ := ho; exact ⟨Fo, o1, (by rw [e2y]; exact o2), ⟨by omega, by omega⟩⟩)⟩, Or.inl ⟨rfl, by omega⟩⟩⟩, rfl⟩
  · have hik : IK i9 M1 := ⟨(show (M1.1 232) ≤ i9 ∧ (M1.1 235) ≤ 20 * i9 ∧ (M1.1 234) ≤ (M1.1 235) ∧ (M1.1 233) ≤ (M1.1 232) by rw [fr1 F1 232 rfl]; omega), (show ∀ r9, 0 ≤ r9 → r9 < 128 → r9 < (M1.1 232) → 1 ≤ (M1.2 107) r9 by rw [fr1 F1 232 rfl, fr2 F1 107 rfl]; exact k_hNu), (show NKp (M1.2 18) (M1.2 19) by rw [fr2 F1 18 rfl, fr2 F1 19 rfl]; exact k_hNK), (show PIp (M1.1 226) (M1.1 233) (M1.1 232) (M1.2 106) (M1.2 91) (M1.2 92) (M1.2 94) by rw [fr1 F1 226 rfl, fr1 F1 232 rfl, fr2 F1 91 rfl]; exact b0), (show (M1.1 201) = 1 → HBp (M1.1 214) (M1.2 10) by rw [fr1 F1 201 rfl, fr1 F1 214 rfl, fr2 F1 10 rfl]; exact k_hHB0), (show (M1.1 201) = 1 → IHp (M1.1 215) (M1.2 13) (M1.1 214) by rw [fr1 F1 201 rfl, fr1 F1 215 rfl, fr2 F1 13 rfl, fr1 F1 214 rfl]; exact k_hIH0), (show (M1.1 201) = 1 → LTp (M1.1 218) (M1.2 17) (M1.1 215) by rw [fr1 F1 201 rfl, fr1 F1 218 rfl, fr2 F1 17 rfl, fr1 F1 215 rfl]; exact k_hEM0), (show (M1.1 201) = 1 → DEp (M1.1 224) (M1.2 45) (M1.2 46) (M1.2 47) (M1.2 49) by rw [fr1 F1 201 rfl, fr1 F1 224 rfl, fr2 F1 45 rfl, fr2 F1 46 rfl, fr2 F1 47 rfl, fr2 F1 49 rfl]; exact k_hDE0), (show (M1.1 201) = 1 → AcP (M1.1 223) (M1.1 224) (M1.2 43) (M1.2 44) by rw [fr1 F1 201 rfl, fr1 F1 223 rfl, fr1 F1 224 rfl, fr2 F1 43 rfl, fr2 F1 44 rfl]; exact k_hAC0), (show (M1.1 201) = 1 → TLp (M1.1 219) (M1.2 73) (M1.2 83) (M1.1 223) by rw [fr1 F1 201 rfl, fr1 F1 219 rfl, fr2 F1 73 rfl, fr2 F1 83 rfl, fr1 F1 223 rfl]; exact k_hTL0), (show (M1.1 201) = 1 → LTp (M1.1 219) (M1.2 74) (M1.1 223) by rw [fr1 F1 201 rfl, fr1 F1 219 rfl, fr2 F1 74 rfl, fr1 F1 223 rfl]; exact k_hTD0), (show (M1.1 201) = 1 → TCp (M1.1 219) (M1.2 78) (M1.2 89) (M1.1 223) by rw [fr1 F1 201 rfl, fr1 F1 219 rfl, fr1 F1 223 rfl]; exact b6), (show (M1.1 201) = 1 → SPp (M1.1 225) (M1.2 52) (M1.2 58) (M1.2 55) (M1.2 56) (M1.1 219) (M1.1 224) by rw [fr1 F1 201 rfl, fr1 F1 225 rfl, fr2 F1 52 rfl, fr2 F1 58 rfl, fr2 F1 55 rfl, fr2 F1 56 rfl, fr1 F1 219 rfl, fr1 F1 224 rfl]; exact k_hSP0)⟩
    obtain ⟨c1, e1, oc⟩ := L_exc (x := nm_xc x1) (c := c) (c0 := c) (FR_c (fr2 F1 108 rfl) hFR) hNN.1 hc
    rcases hx with rfl | rfl
    · refine Or.inr ⟨_, _, _, _, _, _, rfl, rfl, by omega, ?_⟩
      rw [e1]
      obtain ⟨e1y, e3y, e4y⟩ := FX1_x hyr
      obtain ⟨e1j, e3j, e4j⟩ := FX1_x hyrj
      refine Tm_step (S' := (13, (3, .ref N) :: [(0, .ref 0), (1, .int (i32 a0)), (2, .ref 326)], [], (khp M1 c1, N + 1), _, _)) rfl (fun _ => rfl) ?_
      refine T_ld 14 (.int (i32 1)) rfl (fun _ => rfl) ?_
      refine T_ret rfl (fun _ => rfl) ?_
      exact ⟨M1, c1, _, _, _, 1, T1, hik, oc, FR_s (FR_c (fr2 F1 108 rfl) hFR) (by omega), ⟨by omega, by omega, by omega, by omega⟩, ⟨⟨by decide, by decide⟩, ⟨⟨yj, hyj, e4j, e3j⟩, y, hy, e4y, e3y, F1, fun h9 => absurd h9 (by decide), Or.inr (Or.inl ⟨rfl, by omega⟩)⟩⟩, rfl⟩
    · refine Or.inr ⟨_, _, _, _, _, _, rfl, rfl, by omega, ?_⟩
      rw [e1]
      obtain ⟨e1y, e3y, e4y⟩ := FX1_x hyr
      obtain ⟨e1j, e3j, e4j⟩ := FX1_x hyrj
      refine Tm_step (S' := (16, (3, .ref N) :: [(0, .ref 0), (1, .int (i32 a0)), (2, .ref 326)], [], (khp M1 c1, N + 1), _, _)) rfl (fun _ => rfl) ?_
      refine T_ld 17 (.int (i32 2)) rfl (fun _ => rfl) ?_
      refine T_ret rfl (fun _ => rfl) ?_
      exact ⟨M1, c1, _, _, _, 2, T1, hik, oc, FR_s (FR_c (fr2 F1 108 rfl) hFR) (by omega), ⟨by omega, by omega, by omega, by omega⟩, ⟨⟨by decide, by decide⟩, ⟨⟨yj, hyj, e4j, e3j⟩, y, hy, e4y, e3y, F1, fun h9 => absurd h9 (by decide), Or.inr (Or.inr ⟨rfl, by omega⟩)⟩⟩, rfl⟩
set_option maxHeartbeats 4000000 in
theorem h_word (w : wX) (K : mR) (c : Nat → Option am_C) (N D : Nat) (hD : 7 ≤ D) (hT : KTy K) (i i9 : Int) (h0 : 0 ≤ i) (h3 : i ≤ 3072) (hI : IK i K) (hii : i9 = i + 6) (hc : ∃ F, c 326 = some (ocl F)) (hFR : FRp N K) (hNN : 327 ≤ N ∧ N ≤ 8100) (Kj : mR) (hj : ∀ c9, khp Kj c9 = khp K c9) (hCj : KCo (Kj.2 107, Kj.2 108) Kj) (a0 : Int) (q0 : R32 a0) (a1 : Int) (q1 : R32 a1) : TC w D 202 [.ref 0, .int (i32 a0), .int (i32 a1), .ref 326] (khp K c, N) (HQ i9 c N (fun r K9 c9 => ∃ yj, kf_pw_word a0 a1 Kj = some yj ∧ K9 = K ∧ ((r = 0 ∧ yj.1 = 0 ∧ ∃ F, c9 326 = some (ocl F) ∧ F 0 = i64 yj.2.1 ∧ R64 yj.2.1) ∨ (r = 1 ∧ yj.1 = 2)))) := by
  obtain ⟨D, rfl⟩ : ∃ k, D = k + 1 := ⟨D - 1, by omega⟩
  have hI6 : IK i9 K := IK_i hI (by omega)
  obtain ⟨k_ct, k_hNu, k_hNK, k_hPI, k_hHB0, k_hIH0, k_hEM0, k_hDE0, k_hAC0, k_hTL0, k_hTD0, k_hTC0, k_hSP0⟩ := id hI
  refine Tc_of rfl ?_
  show TT w D pm_202 (0, [(0, .ref 0), (1, .int (i32 a0)), (2, .int (i32 a1)), (3, .ref 326)], [], (khp K c, N), 0, 0) _
  refine T_ld 1 (.ref 326) rfl (fun _ => rfl) ?_
  refine T_ld 2 (.int (i32 0)) rfl (fun _ => rfl) ?_
  refine T_ld 3 (.ref 0) rfl (fun _ => rfl) ?_
  refine T_ld 4 (.int (i32 a0)) rfl (fun _ => rfl) ?_
  refine T_ld 5 (.int (i32 a1)) rfl (fun _ => rfl) ?_
  refine T_callc 8 203 [.ref 0, .int (i32 a0), .int (i32 a1)] [.int (i32 0), .ref 326] rfl (fun _ => rfl) rfl rfl (Tc_a (c_pw_word w K c N D (by omega) hT a0 a1 q0 q1 ) (D_kh (hj c) (D_pw_word (Kj.2 107, Kj.2 108) w Kj c N D hCj a0 a1 q0 q1))) (fun r hr => ?_)
  obtain ⟨hr, yj, hyj, hyrj⟩ := hr
  rcases hr with ⟨r1, g1, rfl⟩ | ⟨x1, hx, rfl⟩
  · refine Or.inl ⟨_, _, _, _, rfl, ?_⟩
    obtain ⟨e1j, e2j, e3j, e4j⟩ := FX2_n (a := r1) ⟨by omega, by omega⟩ hyrj
    have hik : IK i9 K := hI6
    refine T_ns (st' := [.long (i64 r1), .int (i32 0), .ref 326]) rfl ?_
    refine L_out 9 rfl hT hc rfl (fun c1 oc ho => ?_)
    refine T_goto 16 rfl (fun _ => rfl) ?_
    refine T_ld 17 (.int (i32 0)) rfl (fun _ => rfl) ?_
    refine T_ret rfl (fun _ => rfl) ?_
    exact ⟨K, c1, _, _, _, 0, hT, hik, oc, hFR, ⟨by omega, by omega, by omega, by omega⟩, ⟨⟨by decide, by decide⟩, ⟨yj, hyj, rfl, Or.inl ⟨rfl, e1j, (by obtain ⟨Fo, o1, o2⟩ := ho; exact ⟨Fo, o1, (by rw [e2j]; exact o2), ⟨by omega, by omega⟩⟩)⟩⟩⟩, rfl⟩
  · have hik : IK i9 K := hI6
    obtain ⟨c1, e1, oc⟩ := L_exc (x := nm_xc x1) (c := c) (c0 := c) hFR hNN.1 hc
    subst hx
    refine Or.inr ⟨_, _, _, _, _, _, rfl, rfl, by omega, ?_⟩
    rw [e1]
    obtain ⟨e1j, e3j, e4j⟩ := FX2_x hyrj
    refine Tm_step (S' := (14, (4, .ref N) :: [(0, .ref 0), (1, .int (i32 a0)), (2, .int (i32 a1)), (3, .ref 326)], [], (khp K c1, N + 1), _, _)) rfl (fun _ => rfl) ?_
    refine T_ld 15 (.int (i32 1)) rfl (fun _ => rfl) ?_
    refine T_ret rfl (fun _ => rfl) ?_
    exact ⟨K, c1, _, _, _, 1, hT, hik, oc, FR_s hFR (by omega), ⟨by omega, by omega, by omega, by omega⟩, ⟨⟨by decide, by decide⟩, ⟨yj, hyj, rfl, Or.inr ⟨rfl, by omega⟩⟩⟩, rfl⟩
set_option maxHeartbeats 4000000 in
theorem h_entries (w : wX) (K : mR) (c : Nat → Option am_C) (N D : Nat) (hD : 7 ≤ D) (hT : KTy K) (i i9 : Int) (h0 : 0 ≤ i) (h3 : i ≤ 3072) (hI : IK i K) (hii : i9 = i + 6) (hc : ∃ F, c 326 = some (ocl F)) (hFR : FRp N K) (hNN : 327 ≤ N ∧ N ≤ 8100) (a0 : Int) (q0 : R32 a0) (a1 : Int) (q1 : R32 a1) : TC w D 204 [.ref 0, .int (i32 a0), .int (i32 a1), .ref 326] (khp K c, N) (HQ i9 c N (fun r K9 c9 => ∃ y, kf_pw_entries a0 a1 K = some y ∧ KCn y.2.2 ∧ khp K9 c = khp y.2.2 c ∧ fr fF_pw_entries fA_pw_entries K K9 ∧ ((r = 0 ∧ y.1 = 0 ∧ ∃ F, c9 326 = some (ocl F) ∧ F 0 = i64 y.2.1 ∧ R64 y.2.1) ∨ (r = 1 ∧ y.1 = 2)))) := by
  obtain ⟨D, rfl⟩ : ∃ k, D = k + 1 := ⟨D - 1, by omega⟩
  have hI6 : IK i9 K := IK_i hI (by omega)
  obtain ⟨k_ct, k_hNu, k_hNK, k_hPI, k_hHB0, k_hIH0, k_hEM0, k_hDE0, k_hAC0, k_hTL0, k_hTD0, k_hTC0, k_hSP0⟩ := id hI
  refine Tc_of rfl ?_
  show TT w D pm_204 (0, [(0, .ref 0), (1, .int (i32 a0)), (2, .int (i32 a1)), (3, .ref 326)], [], (khp K c, N), 0, 0) _
  refine T_ld 1 (.ref 326) rfl (fun _ => rfl) ?_
  refine T_ld 2 (.int (i32 0)) rfl (fun _ => rfl) ?_
  refine T_ld 3 (.ref 0) rfl (fun _ => rfl) ?_
  refine T_ld 4 (.int (i32 a0)) rfl (fun _ => rfl) ?_
  refine T_ld 5 (.int (i32 a1)) rfl (fun _ => rfl) ?_
  refine T_callc 8 205 [.ref 0, .int (i32 a0), .int (i32 a1)] [.int (i32 0), .ref 326] rfl (fun _ => rfl) rfl rfl (Tc_a (c_pw_entries w K c N D (by omega) hT a0 a1 q0 q1 ) (D_pw_entries (K.2 107, K.2 108) w K c N D (KCo_K hT) a0 a1 q0 q1)) (fun r hr => ?_)
  obtain ⟨hr, y, hy, hyr⟩ := hr
  rcases hr with ⟨M1, r1, T1, F1, g1, rfl⟩ | ⟨x1, M1, hx, T1, F1, rfl⟩
  · refine Or.inl ⟨_, _, _, _, rfl, ?_⟩
    obtain ⟨e1y, e2y, e3y, e4y⟩ := FX1_n (a := r1) ⟨by omega, by omega⟩ hyr
    have hik : IK i9 M1 := ⟨(show (M1.1 232) ≤ i9 ∧ (M1.1 235) ≤ 20 * i9 ∧ (M1.1 234) ≤ (M1.1 235) ∧ (M1.1 233) ≤ (M1.1 232) by rw [fr1 F1 232 rfl, fr1 F1 235 rfl, fr1 F1 234 rfl, fr1 F1 233 rfl]; omega), (show ∀ r9, 0 ≤ r9 → r9 < 128 → r9 < (M1.1 232) → 1 ≤ (M1.2 107) r9 by rw [fr1 F1 232 rfl, fr2 F1 107 rfl]; exact k_hNu), (show NKp (M1.2 18) (M1.2 19) by rw [fr2 F1 18 rfl, fr2 F1 19 rfl]; exact k_hNK), (show PIp (M1.1 226) (M1.1 233) (M1.1 232) (M1.2 106) (M1.2 91) (M1.2 92) (M1.2 94) by rw [fr1 F1 226 rfl, fr1 F1 233 rfl, fr1 F1 232 rfl, fr2 F1 106 rfl, fr2 F1 91 rfl, fr2 F1 92 rfl, fr2 F1 94 rfl]; exact k_hPI), (show (M1.1 201) = 1 → HBp (M1.1 214) (M1.2 10) by rw [fr1 F1 201 rfl, fr1 F1 214 rfl, fr2 F1 10 rfl]; exact k_hHB0), (show (M1.1 201) = 1 → IHp (M1.1 215) (M1.2 13) (M1.1 214) by rw [fr1 F1 201 rfl, fr1 F1 215 rfl, fr2 F1 13 rfl, fr1 F1 214 rfl]; exact k_hIH0), (show (M1.1 201) = 1 → LTp (M1.1 218) (M1.2 17) (M1.1 215) by rw [fr1 F1 201 rfl, fr1 F1 218 rfl, fr2 F1 17 rfl, fr1 F1 215 rfl]; exact k_hEM0), (show (M1.1 201) = 1 → DEp (M1.1 224) (M1.2 45) (M1.2 46) (M1.2 47) (M1.2 49) by rw [fr1 F1 201 rfl, fr1 F1 224 rfl, fr2 F1 45 rfl, fr2 F1 46 rfl, fr2 F1 47 rfl, fr2 F1 49 rfl]; exact k_hDE0), (show (M1.1 201) = 1 → AcP (M1.1 223) (M1.1 224) (M1.2 43) (M1.2 44) by rw [fr1 F1 201 rfl, fr1 F1 223 rfl, fr1 F1 224 rfl, fr2 F1 43 rfl, fr2 F1 44 rfl]; exact k_hAC0), (show (M1.1 201) = 1 → TLp (M1.1 219) (M1.2 73) (M1.2 83) (M1.1 223) by rw [fr1 F1 201 rfl, fr1 F1 219 rfl, fr2 F1 73 rfl, fr2 F1 83 rfl, fr1 F1 223 rfl]; exact k_hTL0), (show (M1.1 201) = 1 → LTp (M1.1 219) (M1.2 74) (M1.1 223) by rw [fr1 F1 201 rfl, fr1 F1 219 rfl, fr2 F1 74 rfl, fr1 F1 223 rfl]; exact k_hTD0), (show (M1.1 201) = 1 → TCp (M1.1 219) (M1.2 78) (M1.2 89) (M1.1 223) by rw [fr1 F1 201 rfl, fr1 F1 219 rfl, fr2 F1 78 rfl, fr2 F1 89 rfl, fr1 F1 223 rfl]; exact k_hTC0), (show (M1.1 201) = 1 → SPp (M1.1 225) (M1.2 52) (M1.2 58) (M1.2 55) (M1.2 56) (M1.1 219) (M1.1 224) by rw [fr1 F1 201 rfl, fr1 F1 225 rfl, fr2 F1 52 rfl, fr2 F1 58 rfl, fr2 F1 55 rfl, fr2 F1 56 rfl, fr1 F1 219 rfl, fr1 F1 224 rfl]; exact k_hSP0)⟩
    refine T_ns (st' := [.int (i32 r1), .int (i32 0), .ref 326]) rfl ?_
    refine T_i2l 9 rfl rfl ⟨by omega, by omega⟩ ?_
    refine L_out 10 rfl T1 hc rfl (fun c1 oc ho => ?_)
    refine T_goto 17 rfl (fun _ => rfl) ?_
    refine T_ld 18 (.int (i32 0)) rfl (fun _ => rfl) ?_
    refine T_ret rfl (fun _ => rfl) ?_
    exact ⟨M1, c1, _, _, _, 0, T1, hik, oc, (FR_c (fr2 F1 108 rfl) hFR), ⟨by omega, by omega, by omega, by omega⟩, ⟨⟨by decide, by decide⟩, ⟨y, hy, e4y, e3y, F1, Or.inl ⟨rfl, e1y, (by obtain ⟨Fo, o1, o2⟩ := ho; exact ⟨Fo, o1, (by rw [e2y]; exact o2), ⟨by omega, by omega⟩⟩)⟩⟩⟩, rfl⟩
  · have hik : IK i9 M1 := ⟨(show (M1.1 232) ≤ i9 ∧ (M1.1 235) ≤ 20 * i9 ∧ (M1.1 234) ≤ (M1.1 235) ∧ (M1.1 233) ≤ (M1.1 232) by rw [fr1 F1 232 rfl, fr1 F1 235 rfl, fr1 F1 234 rfl, fr1 F1 233 rfl]; omega), (show ∀ r9, 0 ≤ r9 → r9 < 128 → r9 < (M1.1 232) → 1 ≤ (M1.2 107) r9 by rw [fr1 F1 232 rfl, fr2 F1 107 rfl]; exact k_hNu), (show NKp (M1.2 18) (M1.2 19) by rw [fr2 F1 18 rfl, fr2 F1 19 rfl]; exact k_hNK), (show PIp (M1.1 226) (M1.1 233) (M1.1 232) (M1.2 106) (M1.2 91) (M1.2 92) (M1.2 94) by rw [fr1 F1 226 rfl, fr1 F1 233 rfl, fr1 F1 232 rfl, fr2 F1 106 rfl, fr2 F1 91 rfl, fr2 F1 92 rfl, fr2 F1 94 rfl]; exact k_hPI), (show (M1.1 201) = 1 → HBp (M1.1 214) (M1.2 10) by rw [fr1 F1 201 rfl, fr1 F1 214 rfl, fr2 F1 10 rfl]; exact k_hHB0), (show (M1.1 201) = 1 → IHp (M1.1 215) (M1.2 13) (M1.1 214) by rw [fr1 F1 201 rfl, fr1 F1 215 rfl, fr2 F1 13 rfl, fr1 F1 214 rfl]; exact k_hIH0), (show (M1.1 201) = 1 → LTp (M1.1 218) (M1.2 17) (M1.1 215) by rw [fr1 F1 201 rfl, fr1 F1 218 rfl, fr2 F1 17 rfl, fr1 F1 215 rfl]; exact k_hEM0), (show (M1.1 201) = 1 → DEp (M1.1 224) (M1.2 45) (M1.2 46) (M1.2 47) (M1.2 49) by rw [fr1 F1 201 rfl, fr1 F1 224 rfl, fr2 F1 45 rfl, fr2 F1 46 rfl, fr2 F1 47 rfl, fr2 F1 49 rfl]; exact k_hDE0), (show (M1.1 201) = 1 → AcP (M1.1 223) (M1.1 224) (M1.2 43) (M1.2 44) by rw [fr1 F1 201 rfl, fr1 F1 223 rfl, fr1 F1 224 rfl, fr2 F1 43 rfl, fr2 F1 44 rfl]; exact k_hAC0), (show (M1.1 201) = 1 → TLp (M1.1 219) (M1.2 73) (M1.2 83) (M1.1 223) by rw [fr1 F1 201 rfl, fr1 F1 219 rfl, fr2 F1 73 rfl, fr2 F1 83 rfl, fr1 F1 223 rfl]; exact k_hTL0), (show (M1.1 201) = 1 → LTp (M1.1 219) (M1.2 74) (M1.1 223) by rw [fr1 F1 201 rfl, fr1 F1 219 rfl, fr2 F1 74 rfl, fr1 F1 223 rfl]; exact k_hTD0), (show (M1.1 201) = 1 → TCp (M1.1 219) (M1.2 78) (M1.2 89) (M1.1 223) by rw [fr1 F1 201 rfl, fr1 F1 219 rfl, fr2 F1 78 rfl, fr2 F1 89 rfl, fr1 F1 223 rfl]; exact k_hTC0), (show (M1.1 201) = 1 → SPp (M1.1 225) (M1.2 52) (M1.2 58) (M1.2 55) (M1.2 56) (M1.1 219) (M1.1 224) by rw [fr1 F1 201 rfl, fr1 F1 225 rfl, fr2 F1 52 rfl, fr2 F1 58 rfl, fr2 F1 55 rfl, fr2 F1 56 rfl, fr1 F1 219 rfl, fr1 F1 224 rfl]; exact k_hSP0)⟩
    obtain ⟨c1, e1, oc⟩ := L_exc (x := nm_xc x1) (c := c) (c0 := c) (FR_c (fr2 F1 108 rfl) hFR) hNN.1 hc
    subst hx
    refine Or.inr ⟨_, _, _, _, _, _, rfl, rfl, by omega, ?_⟩
    rw [e1]
    obtain ⟨e1y, e3y, e4y⟩ := FX1_x hyr
    refine Tm_step (S' := (15, (4, .ref N) :: [(0, .ref 0), (1, .int (i32 a0)), (2, .int (i32 a1)), (3, .ref 326)], [], (khp M1 c1, N + 1), _, _)) rfl (fun _ => rfl) ?_
    refine T_ld 16 (.int (i32 1)) rfl (fun _ => rfl) ?_
    refine T_ret rfl (fun _ => rfl) ?_
    exact ⟨M1, c1, _, _, _, 1, T1, hik, oc, FR_s (FR_c (fr2 F1 108 rfl) hFR) (by omega), ⟨by omega, by omega, by omega, by omega⟩, ⟨⟨by decide, by decide⟩, ⟨y, hy, e4y, e3y, F1, Or.inr ⟨rfl, by omega⟩⟩⟩, rfl⟩
