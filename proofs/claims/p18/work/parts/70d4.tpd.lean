/-! ===== p20: run, lay ===== -/
section TPE
variable {K K1 M M1 : mR} {i : Int} {c1 c2 c3 c4 : Nat → Option am_C} {F A G C : List Nat}
theorem run_qe {a0 : Int} (h6 : ∀ g, K.2 106 g < 128) (e1 : K.1 201 = M.1 127) (l1 : M.1 128 = 1) (q7 : M.1 127 = 1) (l2 : K.1 226 = M.1 129) (l3 : 1 ≤ M.1 129) (l4 : M.1 129 ≤ 12) (e2 : K.1 232 = M.1 148) (e3 : K.1 233 = M.1 150) (e5 : K.1 235 = M.1 152) (hp : M.1 150 + M.1 149 = M.1 148) (hp0 : 0 ≤ M.1 149) (L1 : M.1 149 ≤ 40) (hc : 0 ≤ M.1 152 ∧ M.1 152 ≤ 500000) (hm : M.1 148 ≤ 500000) (hrow : ∀ r, 0 ≤ r → r < 128 → r < K.1 232 → 1 ≤ K.2 107 r) (h : TM K M) (hG : ∀ t, 0 ≤ t → t < M.1 26 → GVQ t K M) (h26 : M.1 26 ≤ 8) (h72 : ∀ t, 0 ≤ K.2 72 t ∧ K.2 72 t ≤ 4) (hH : ∀ t, 0 ≤ t → t < M.1 26 → 0 ≤ homeK K t ∧ homeK K t < M.1 129) (h225 : 0 ≤ K.1 225 ∧ K.1 225 ≤ 1000) (w0 : 0 ≤ M.1 151) (wE : M.1 151 ≤ M.1 150) (hq : PQ20 K M) : RR (kf_pw_run a0 K) (rf_run a0 M) (fun y z => PQ20 y.2.2 z.2) := by
  have f1 : ∀ x : Int, fr [1] [] M (mO M [(1, x)] []) := fun x => fr_m fr_0 rfl rfl
  have pq : ∀ x : Int, PQ20 K (mO M [(1, x)] []) := fun x => PQ20_f hq hG w0 ⟨hp0, wE⟩ (fr_0 (u := []) (v := []) (x := K)) (f1 x) rfl rfl rfl rfl
  have same : ∀ (t x : Int), RR (some (t, 0, K)) (some (0, mO M [(1, x)] [])) (fun (y : Int × Int × mR) (z : Int × mR) => PQ20 y.2.2 z.2) := fun t x => RR_some (pq x)
  unfold kf_pw_run rf_run
  refine RR_l laid_k (fun y7 hy7 => ?_)
  refine RR_il (fun g => absurd g (by omega)) (fun _ => ?_)
  refine RR_ir (fun g => absurd g (by omega)) (fun _ => ?_)
  refine RR_ii Iff.rfl (fun g1 _ => ?_) (fun g1 _ => ?_)
  · unfold kfl_pw_run_28 rfl_run_22 rfl_run_27
    exact RR_ir (fun g => absurd g (by decide)) (fun _ => same 1 2)
  · refine RR_ii Iff.rfl (fun g2 _ => ?_) (fun g2 _ => ?_)
    · have T : TMv (M.1 129) (M.1 152) (M.1 151) (M.1 150) (skp K) (M.2 167) := by
        rcases h.2 with ⟨-, t⟩ | ⟨t, -⟩
        · exact t
        · exact absurd l1 t
      unfold rfl_run_27
      refine RR_ir (fun _ => ?_) (fun g => absurd (by decide) g)
      refine RR_bnd (run_e (K := K) (M := mO M [(1, 0)] []) h225 (by omega) g2 l3 l4 hc hm hrow h6 (fun t t0 t1 => GVQ_f (hG t t0 t1) (fr_0 (u := []) (v := []) (x := K)) (f1 0) rfl rfl rfl) h26 h72 hH L1 ⟨e2, e3, h.1, e5, hp, hp0, l2, T⟩ (pq 0)) (fun e f hef => ?_)
      unfold kfl_pw_run_67 rfl_run_124
      exact RR_some hef.2
    · unfold kfl_pw_run_28 rfl_run_22 rfl_run_27
      exact RR_ir (fun g => absurd g (by decide)) (fun _ => same 1 2)
theorem run_kz {a0 : Int} (h : K.1 226 ≤ 0) : RP (kf_pw_run a0 K) (fun y => y.2.2 = K) := by
  unfold kf_pw_run
  refine RP_bnd laid_k (fun y hy => RP_ite (fun _ => RP_some rfl) (fun g => absurd (show y = 0 by omega) g))
theorem run_rz {a0 : Int} (h : M.1 128 = 0) : RP (rf_run a0 M) (fun z => z.2 = mO M [(1, 1)] []) := by
  unfold rf_run
  rw [if_pos h]
  unfold rfl_run_27
  exact RP_ite (fun g => absurd g (by decide)) (fun _ => RP_some rfl)
theorem kehi72 : kelo 72 = 0 ∧ kehi 72 = 4 := by decide +kernel
theorem fhi149 : fhi 149 ≤ 40 := by decide +kernel
theorem PQs_run {a0 : Int} {y : Int × Int × mR} {z : Int × mR} (hK : KTy K) (hM : Ty M) (hIK : IK i K) (hIM : IM i M) (i1 : i ≤ 4000) (hRel : RX K M) (hT : TM K M) (hq : PQs K M) (hy : kf_pw_run a0 K = some y) (hz : rf_run a0 M = some z) (cK : KCn y.2.2) (cM : Cn z.2) (hk : khp K1 c1 = khp y.2.2 c2) (hm : mhp M1 c3 = mhp z.2 c4) (vK : KTy K1) (vM : Ty M1) (hr1 : ∀ r, 0 ≤ r → r < 128 → r < K1.1 232 → 1 ≤ K1.2 107 r) {i2 : Int} (hIM1 : IM i2 M1) : PQs K1 M1 := by
  obtain ⟨q0, q1, q2⟩ := hq
  obtain ⟨x1, x2, x3, x4, x5, x6, x7⟩ := RX_fa hRel
  have x12 := RX_12 hRel
  have fy := u_kf_pw_run a0 K y hy
  have fz := u_rf_run a0 M z hz
  have fm : ∀ k, k < 179 → mkd k < 3 → M1.1 k = z.2.1 k := fun k a b => HMf hm a b ((Ty_V vM).1 k) (cM.1 k)
  have am : ∀ (k : Nat) (j : Int), k < 179 → 3 ≤ mkd k → 0 ≤ j → M1.2 k j = z.2.2 k j := fun k j a b j0 => by
    obtain ⟨n, rfl⟩ : ∃ n : Nat, j = n := ⟨j.toNat, by omega⟩
    exact HMa hm a b ((Ty_V vM).2 k n) (cM.2 k n)
  have ak : ∀ (k : Nat) (j : Int), k < 72 → 0 ≤ j → K1.2 k j = y.2.2.2 k j := fun k j a j0 => by
    obtain ⟨n, rfl⟩ : ∃ n : Nat, j = n := ⟨j.toNat, by omega⟩
    exact HKa hk a ((KTy_V vK).2 k n) (cK.2.1 k n)
  obtain ⟨w0, l0, l1⟩ := IM_l hM hIM
  obtain ⟨m_ct, m_pth, m_pld, m_hNM0, m_hFA0, m_hPA0, m_hHB0, m_wCN, m_wSO, m_wSt, m_wTd, m_wAc, m_wTb, m_wIN, m_wHO, m_wAR, m_wSp, m_wEM, m_wNA, m_hEMp, m_hEAp, m_hLT, m_pin, m_pou⟩ := id hIM
  refine ⟨fun j j0 j1 => ?_, fun q j j0 j1 => ?_, fun q => ?_⟩
  · rw [ak 2 j (by decide) j0, ak 3 j (by decide) j0, ak 4 j (by decide) j0, am 145 j (by decide) (by decide) j0, am 146 j (by decide) (by decide) j0, am 147 j (by decide) (by decide) j0, fr2 fy 2 rfl, fr2 fy 3 rfl, fr2 fy 4 rfl, fr2 fz 145 rfl, fr2 fz 146 rfl, fr2 fz 147 rfl]
    exact q0 j j0 j1
  · rw [fm 128 (by decide) (by decide), fr1 fz 128 rfl] at q
    rw [fm 27 (by decide) (by decide), fr1 fz 27 rfl] at j1
    rw [am 131 j (by decide) (by decide) j0, fm 129 (by decide) (by decide), fr1 fz 129 rfl, fr2 fz 131 rfl]
    exact q1 q j j0 j1
  · rw [fm 127 (by decide) (by decide), fr1 fz 127 rfl] at q
    obtain ⟨hG, ⟨g26, h26⟩, s1, s2, s3⟩ := RX_GV hRel hIM q
    have h72 : ∀ t, 0 ≤ K.2 72 t ∧ K.2 72 t ≤ 4 := fun t => by
      have w := hK.2.1 72 t
      obtain ⟨e1, e2⟩ := kehi72
      rw [e1, e2] at w
      exact w
    have L1 : M.1 149 ≤ 40 := Int.le_trans (hM.1 149).2 fhi149
    have t152 : 0 ≤ M.1 152 := (hM.1 152).1
    have P : PQ20 y.2.2 z.2 := by
      rcases x2 with ⟨a, b, d⟩ | ⟨a, b⟩
      · exact run_qe (a0 := a0) (KTy_6 hK) x1 a q b d (x12 a) x4 x5 x6 m_pin l0 L1 ⟨t152, by omega⟩ (by omega) hIK.2.1 hT hG h26 h72 (fun t _ _ => RX_HM hRel hIM a q1 t) ⟨by omega, by omega⟩ w0 l1 (q2 q) y z hy hz
      · rw [run_kz (by omega) y hy, run_rz a z hz]
        exact PQ20_f (q2 q) hG w0 ⟨l0, l1⟩ (fr_0 (u := []) (v := []) (x := K)) (fr_m (u := [1]) (v := []) fr_0 rfl rfl) rfl rfl rfl rfl
    have e148 : z.2.1 148 = M.1 148 := fr1 fz 148 rfl
    have k232 : K1.1 232 = K.1 232 := (HKf hk (by decide) (by decide) ((KTy_V vK).1 232) (cK.1 232)).trans (fr1 fy 232 rfl)
    have pz : z.2.1 150 + z.2.1 149 = M.1 148 ∧ 0 ≤ z.2.1 149 ∧ 0 ≤ z.2.1 151 ∧ z.2.1 151 ≤ z.2.1 150 := by
      rw [← e148, ← fm 148 (by decide) (by decide), ← fm 149 (by decide) (by decide), ← fm 150 (by decide) (by decide), ← fm 151 (by decide) (by decide)]
      exact ⟨IM_pin hIM1, (vM.1 149).1, (vM.1 151).1, IM_pou hIM1⟩
    refine PQ20_h P (fun t t0 t1 => ?_) (by rw [fr1 fz 26 rfl]; exact h26) pz.2.2.1 ⟨pz.2.1, pz.2.2.2⟩ (by rw [fr1 fy 225 rfl]; omega) hk hm vK vM cK cM (fun r r0 r1 r2 => ⟨hr1 r r0 r1 (by omega), ?_⟩)
    · rw [fr1 fz 26 rfl] at t1
      exact GVQ_f (hG t t0 t1) fy fz (by decide +kernel) (by decide +kernel) (by decide +kernel)
    · rw [fr2 fy 107 rfl]
      exact hIK.2.1 r r0 r1 (by omega)
/-- lay(): nobody is in the stages, or it is refused -/
theorem PQs_lay {a b c : Int} {y : Int × Int × mR} {z : Int × mR} {Kp mp : mR} (hM : Ty M) (hIM : IM i M) (hRel : RX K M) (hT : TM K M) (hq : PQs K M) (hA : AGk K Kp) (hB : AGm M mp) (hy : kf_pw_lay a b c Kp = some y) (hz : rf_lay a b c mp = some z) (cK : KCn y.2.2) (cM : Cn z.2) (hk : khp K1 c1 = khp y.2.2 c2) (hm : mhp M1 c3 = mhp z.2 c4) (vK : KTy K1) (vM : Ty M1) (fK : fr F A K K1) (fM : fr G C M M1) (k1 : chk [225] F = true) (k2 : chk (2 :: 3 :: 4 :: 55 :: pkL) A = true) (k3 : chk [25, 26, 27, 127, 149, 150, 151, 152] G = true) (k4 : chk (145 :: 146 :: 147 :: pmL) C = true) : PQs K1 M1 := by
  obtain ⟨q0, q1, q2⟩ := hq
  obtain ⟨x1, x2, x3, x4, x5, x6, x7⟩ := RX_fa hRel
  obtain ⟨w0, l0, l1⟩ := IM_l hM hIM
  have eK : Kp.1 = K.1 := hA.1
  have eM : mp.1 = M.1 := hB.1
  have fm : ∀ k, k < 179 → mkd k < 3 → M1.1 k = z.2.1 k := fun k a b => HMf hm a b ((Ty_V vM).1 k) (cM.1 k)
  have am : ∀ (k : Nat) (j : Int), k < 179 → 3 ≤ mkd k → 0 ≤ j → M1.2 k j = z.2.2 k j := fun k j a b j0 => by
    obtain ⟨n, rfl⟩ : ∃ n : Nat, j = n := ⟨j.toNat, by omega⟩
    exact HMa hm a b ((Ty_V vM).2 k n) (cM.2 k n)
  have hsp : HSs mp := fun q j j0 j1 => by
    rw [eM] at q j1 ⊢
    rw [← agm1 hB (k := 131) rfl j0]
    exact q1 q j j0 j1
  have h27 : mp.1 27 ≤ 1000 := by
    rw [eM]
    exact Int.le_trans (hM.1 27).2 (show fhi 27 ≤ 1000 by decide +kernel)
  have hs2 := lay_hs (a := a) (b := b) (c := c) h27 hsp z hz
  refine ⟨KYR_f q0 fK fM (chk_s k2 rfl) (chk_s k4 rfl), fun q j j0 j1 => ?_, fun q => ?_⟩
  · rw [fm 128 (by decide) (by decide)] at q
    rw [fm 27 (by decide) (by decide)] at j1
    rw [am 131 j (by decide) (by decide) j0, fm 129 (by decide) (by decide)]
    exact hs2 q j j0 j1
  · rw [fr1 fM 127 (chk_1 k3 (by decide))] at q
    obtain ⟨hG, ⟨g26, h26⟩, s1, s2, s3⟩ := RX_GV hRel hIM q
    by_cases h8 : M.1 128 = 1
    · -- it is laid: refused, nothing changes
      have k226 : ¬ K.1 226 ≤ 0 := by
        rcases x2 with ⟨a, b, d⟩ | ⟨a, b⟩ <;> omega
      have ey : y.2.2 = Kp := by
        unfold kf_pw_lay kfl_pw_lay_20 at hy
        rw [eK, if_neg (by omega), if_neg k226] at hy
        cases hy
        rfl
      refine PQ20_p (q2 q) hG w0 (fr1 fM 25 (chk_1 k3 (by decide))) (fr1 fM 26 (chk_1 k3 (by decide))) (fr1 fM 149 (chk_1 k3 (by decide))) (fr1 fM 150 (chk_1 k3 (by decide))) (fr1 fM 151 (chk_1 k3 (by decide))) (fr1 fM 152 (chk_1 k3 (by decide))) (fun k hk j _ => congrFun (fr2 fM k (chk_1 k4 (List.mem_cons_of_mem _ (List.mem_cons_of_mem _ (List.mem_cons_of_mem _ hk))))) j) (fun t _ _ => ?_) (fun k _ _ => ?_) ⟨l0, l1⟩ (fun t _ _ => ?_)
      · rw [fr2 fK 78 (chk_1 k2 (by decide)), fr2 fK 85 (chk_1 k2 (by decide)), fr2 fK 86 (chk_1 k2 (by decide)), fr2 fK 87 (chk_1 k2 (by decide)), fr2 fK 88 (chk_1 k2 (by decide)), fr2 fK 89 (chk_1 k2 (by decide))]
        exact ⟨rfl, fun _ _ _ => ⟨rfl, rfl, rfl, rfl, rfl⟩⟩
      · unfold opE
        rw [fr2 fK 91 (chk_1 k2 (by decide)), fr2 fK 95 (chk_1 k2 (by decide)), fr2 fK 96 (chk_1 k2 (by decide)), fr2 fK 97 (chk_1 k2 (by decide)), fr2 fK 103 (chk_1 k2 (by decide)), fr2 fK 104 (chk_1 k2 (by decide)), fr2 fK 105 (chk_1 k2 (by decide))]
        exact ⟨rfl, rfl, rfl, rfl, fun _ _ _ => ⟨rfl, rfl, rfl⟩⟩
      · refine home_p (by omega) (fr1 fK 225 (chk_1 k1 (by decide))) (fun j _ _ => by rw [fr2 fK 55 (chk_1 k2 (by decide))]) (fun j j0 _ => ?_)
        obtain ⟨n, rfl⟩ : ∃ n : Nat, j = n := ⟨j.toNat, by omega⟩
        have e : K1.2 59 n = y.2.2.2 59 n := HKa hk (by decide) ((KTy_V vK).2 59 n) (cK.2.1 59 n)
        rw [e, ey]
        exact (agk1 hA (k := 59) rfl ⟨by omega, fun z => by omega, fun z => by omega⟩).symm
    · have hz : M.1 151 = 0 ∧ M.1 150 = 0 := by
        rcases hT.2 with ⟨t, -⟩ | ⟨-, t1, t2, -⟩
        · exact absurd t h8
        · exact ⟨t1, t2⟩
      exact PQ20_e (q2 q) hG hz.2 hz.1 l0 fK fM (chk_s k2 rfl) (chk_s k3 rfl) (chk_s k4 rfl)
end TPE
