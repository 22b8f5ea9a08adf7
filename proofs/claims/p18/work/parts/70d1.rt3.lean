/-! ===== the law's cases and the line's timing ===== -/
section RT3
variable {K K1 M M1 Kp mp : mR} {c1 c2 c3 c4 : Nat → Option am_C} {i : Int}
theorem RX_12 (h : RX K M) : M.1 128 = 1 → M.1 129 ≤ 12 := fun q => by
  obtain ⟨Kp, mp, a, b, r, -⟩ := h
  obtain ⟨r0, r1, r2, r3, r4, r5, r6, ⟨r7, r7b⟩, -⟩ := r
  have e : mp.1 = M.1 := b.1
  unfold LDR at r7
  rw [e] at r7
  rcases r7 with ⟨t1, t2, t3, -⟩ | ⟨t1, -⟩
  · exact t3.2
  · omega
theorem IM_pou (h : IM i M) : M.1 151 ≤ M.1 150 := by
  obtain ⟨m_ct, m_pth, m_pld, m_hNM0, m_hFA0, m_hPA0, m_hHB0, m_wCN, m_wSO, m_wSt, m_wTd, m_wAc, m_wTb, m_wIN, m_wHO, m_wAR, m_wSp, m_wEM, m_wNA, m_hEMp, m_hEAp, m_hLT, m_pin, m_pou⟩ := h
  exact m_pou
theorem IM_pin (h : IM i M) : M.1 150 + M.1 149 = M.1 148 := by
  obtain ⟨m_ct, m_pth, m_pld, m_hNM0, m_hFA0, m_hPA0, m_hHB0, m_wCN, m_wSO, m_wSt, m_wTd, m_wAc, m_wTb, m_wIN, m_wHO, m_wAR, m_wSp, m_wEM, m_wNA, m_hEMp, m_hEAp, m_hLT, m_pin, m_pou⟩ := h
  exact m_pin
theorem TM_read {y : Int × Int × mR} (hy : kf_pw_read Kp = some y) (cK : KCn y.2.2) (hk : khp K1 c1 = khp y.2.2 c2) (vK : KTy K1) (vM : Ty M1) (hz : K1.1 233 = 0 ∧ K1.1 234 = 0 ∧ ∀ g, 0 ≤ g → g < 12 → K1.2 106 g = -1) (hRX : RX K1 M1) (hpo : M1.1 151 ≤ M1.1 150) : TM K1 M1 := by
  obtain ⟨x1, x2, x3, x4, x5, x6, x7⟩ := RX_fa hRX
  have e226 : K1.1 226 = 0 := (HKf hk (by decide) (by decide) ((KTy_V vK).1 226) (cK.1 226)).trans (read_ku y hy).1.2.2.1
  have t : 0 ≤ M1.1 151 := (vM.1 151).1
  exact TM_0 hz.2.1 hz.2.2 (by omega) (by omega) (by omega)
theorem RX_runT {a0 : Int} {y : Int × Int × mR} {z : Int × mR} (hK : KTy K) (hM : Ty M) (hIK : IK i K) (hIM : IM i M) (i1 : i ≤ 4000) (hRel : RX K M) (hT : TM K M) (hy : kf_pw_run a0 K = some y) (hz : rf_run a0 M = some z) (cK : KCn y.2.2) (cM : Cn z.2) (hk : khp K1 c1 = khp y.2.2 c2) (hm : mhp M1 c3 = mhp z.2 c4) (vK : KTy K1) (vM : Ty M1) : TM K1 M1 ∧ (y.1 = 0 → y.2.1 = z.1) := by
  obtain ⟨x1, x2, x3, x4, x5, x6, x7⟩ := RX_fa hRel
  have x12 := RX_12 hRel
  obtain ⟨m_ct, m_pth, m_pld, m_hNM0, m_hFA0, m_hPA0, m_hHB0, m_wCN, m_wSO, m_wSt, m_wTd, m_wAc, m_wTb, m_wIN, m_wHO, m_wAR, m_wSp, m_wEM, m_wNA, m_hEMp, m_hEAp, m_hLT, m_pin, m_pou⟩ := hIM
  have t149 : 0 ≤ M.1 149 := (hM.1 149).1
  have t152 : 0 ≤ M.1 152 := (hM.1 152).1
  obtain ⟨⟨q1, q2, q3⟩, q4⟩ := run_q (a0 := a0) (KTy_6 hK) x1 m_pld (by
    rcases x2 with ⟨a, b, d⟩ | ⟨a, b⟩
    · exact Or.inl ⟨a, b, d, x12 a⟩
    · exact Or.inr ⟨a, b⟩) x4 x5 x6 m_pin t149 ⟨t152, by omega⟩ (by omega) hIK.2.1 hT y z hy hz
  exact ⟨TM_h q1 q3 hk hm vK vM cK cM q2, q4⟩
theorem count_q {a : Int} (hA : AGk K Kp) (hB : AGm M mp) (hR : REL0 Kp mp) (hT : K.1 234 = M.1 151) (hp : M.1 150 + M.1 149 = M.1 148) (t0 : 0 ≤ M.1 149 ∧ M.1 149 ≤ 1000000) : RR (kf_pw_count a Kp) (rf_count a mp) (fun y z => y = z.1) := by
  have eK : Kp.1 = K.1 := hA.1
  have eM : mp.1 = M.1 := hB.1
  obtain ⟨h0, h1, h2, h3, h4, h5, h6, ⟨h7, h7b⟩, h8, h9, h10, h11⟩ := hR
  unfold LDR at h7
  rw [eK, eM] at h4 h7 h9 h10 h11
  rw [eM] at h7b
  unfold kf_pw_count rf_count kf_pi_inLine kf_pi_inStages kfl_pw_count_101 rfl_count_89
  rw [eK, eM]
  refine RR_ii Iff.rfl (fun _ _ => RR_some h9) (fun _ _ => RR_ii Iff.rfl (fun _ _ => ?_) (fun _ _ => RR_ii Iff.rfl (fun _ _ => ?_) (fun _ _ => RR_ii Iff.rfl (fun _ _ => RR_some hT) (fun _ _ => RR_ii Iff.rfl (fun _ _ => RR_some h11) (fun _ _ => RR_ii Iff.rfl (fun _ _ => ?_) (fun _ _ => RR_some rfl))))))
  · refine RR_some ?_
    show cut (K.1 232 - K.1 233) = M.1 149
    rw [h9, h10, cut_i (by omega) (by omega)]
    omega
  · refine RR_some ?_
    show cut (K.1 233 - K.1 234) = cut (M.1 150 - M.1 151)
    rw [h10, hT]
  · rcases h7 with ⟨l1, l2, l3, -⟩ | ⟨l1, l2⟩
    · have q := h7b l1
      exact RR_il (fun g => absurd g (by omega)) (fun _ => RR_ir (fun g => absurd g (by omega)) (fun _ => RR_some l2))
    · refine RR_ir (fun _ => ?_) (fun g => absurd l1 g)
      exact RR_il (fun _ => RR_some rfl) (fun _ => RR_some l2)
end RT3
