section HDR2
variable {K M : mR}
theorem sumW_0 {f : Int → Int} {b : Int} {n : Nat} (h : ∀ i : Nat, i < n → f (b + i) = 0) : sumW f b n = 0 := by
  induction n with
  | zero => rfl
  | succ n ih =>
    unfold sumW
    rw [ih (fun i hi => h i (by omega)), h n (by omega)]
    rfl
theorem HD_open (hD : HD K M) (x0 : 0 ≤ M.1 19) (x1 : M.1 19 < 12) : HDx (K.2 10) (K.2 11) (K.2 12) (M.1 6) (M.1 19 + 1) (M.2 4) (upI (M.2 29) (M.1 19) 0) (upI (M.2 30) (M.1 19) 0) (M.2 31) (M.2 32) (M.2 33) := by
  refine ⟨fun a a0 a1 => ?_, fun r r0 r1 => hD.2 r (by omega) r1⟩
  by_cases e : a = M.1 19
  · subst e
    rw [upI_s, upI_s]
    refine ⟨by decide, by decide, ⟨?_, by decide, by decide⟩, fun i i0 i1 => absurd i1 (by omega), fun i i0 i1 => hD.2 _ (by omega) (by omega)⟩
    exact (sumW_0 (fun i hi => hD.2 _ (by omega) (by omega))).symm
  · rw [upI_n e, upI_n e]
    exact hD.1 a a0 (by omega)
theorem rr_header0 (h : LR K M) (hC : CNq K M) (hD : HD K M) (h7 : M.1 7 = 300) : RR (kf_rd_header K) (rf_takeHeader M) (GV (fun _ K2 _ M2 => LR K2 M2 ∧ HD K2 M2 ∧ M.1 19 < 12 ∧ M2.1 19 = M.1 19 + 1)) := by
  obtain ⟨⟨c1, c2, c3, c4, c5, c6, c7, c8⟩, r1, r2, r3, r4, r5, r6, r7, r8, hsum⟩ := id hC
  unfold kf_rd_header rf_takeHeader
  refine RR_sq (A := fun q => fr kF_tx_advance kA_tx_advance K q) (B := fun q => UR rF_next rA_next M q) (LV_G (rr_adv h (by omega))) (u_kf_tx_advance K) (u_rf_next M) (fun z hz => RP_w (u_rfl_takeHeader_4 z.2) (fun w hw => hw.2 hz)) (fun a K1 b M1 hG fK fM => ?_)
  obtain ⟨-, hL1⟩ := hG
  unfold rfl_takeHeader_4
  dsimp only
  have q1 : K1.1 214 = M.1 19 := (fr1 fK 214 rfl).trans c1
  have q2 : M1.1 19 = M.1 19 := fr1 fM.1 19 rfl
  have q3 : M1.1 13 = M.1 13 := fr1 fM.1 13 rfl
  rw [q1, q2, show (300 : Int) = smp 1 from rfl]
  refine RR_sq (A := fun q => fr kF_tx_makeNew kA_tx_makeNew K1 q) (B := fun q => UR rF_newName rA_newName M1 q) (rr_newG hL1 (s := 1) (n := M.1 19) (b := 12) (by omega) (by omega) (by omega)) (u_kf_tx_makeNew _ _ _ K1) (u_rf_newName _ _ _ M1) (fun z hz => RP_w (u_rfl_takeHeader_20 _ z.1 z.2) (fun w hw => hw.2 hz)) (fun a2 K2 b2 M2 hG fK2 fM2 => ?_)
  obtain ⟨hb, hlt, hL2, n1, n2, n3⟩ := hG
  unfold rfl_takeHeader_20
  dsimp only
  have q4 : K2.1 214 = M.1 19 := (fr1 fK2 214 rfl).trans q1
  have q5 : M2.1 19 = M.1 19 := (fr1 fM2.1 19 rfl).trans q2
  rw [if_neg (by omega), q4, q5, cut_i (by omega) (by omega)]
  have hL2' : LR (mO K2 [(214, M.1 19 + 1)] []) (mO M2 [(19, M.1 19 + 1)] [(29, upI (M2.2 29) (M.1 19) 0), (30, upI (M2.2 30) (M.1 19) 0)]) := hL2
  refine RR_sq (A := fun q => fr kF_tx_expect kA_tx_expect (mO K2 [(214, M.1 19 + 1)] []) q) (B := fun q => UR rF_need rA_need (mO M2 [(19, M.1 19 + 1)] [(29, upI (M2.2 29) (M.1 19) 0), (30, upI (M2.2 30) (M.1 19) 0)]) q) (LV_G (rr_exp hL2' (c := 123) (by omega))) (u_kf_tx_expect _ _) (u_rf_need _ _) (fun z hz => RP_w (u_rfl_takeHeader_59 _ _ z.2) (fun w hw => hw.2 hz)) (fun a3 K3 b3 M3 hG fK3 fM3 => ?_)
  obtain ⟨-, hL3⟩ := hG
  unfold rfl_takeHeader_59
  dsimp only
  have hD3 : HD K3 M3 := by
    have k10 : K3.2 10 = K.2 10 := (fr2 fK3 10 rfl).trans ((fr2 fK2 10 rfl).trans (fr2 fK 10 rfl))
    have k11 : K3.2 11 = K.2 11 := (fr2 fK3 11 rfl).trans ((fr2 fK2 11 rfl).trans (fr2 fK 11 rfl))
    have k12 : K3.2 12 = K.2 12 := (fr2 fK3 12 rfl).trans ((fr2 fK2 12 rfl).trans (fr2 fK 12 rfl))
    have m6 : M3.1 6 = M.1 6 := (fr1 fM3.1 6 rfl).trans ((fr1 fM2.1 6 rfl).trans (fr1 fM.1 6 rfl))
    have m19 : M3.1 19 = M.1 19 + 1 := fr1 fM3.1 19 rfl
    have m4 : M3.2 4 = M.2 4 := (fr2 fM3.1 4 rfl).trans ((fr2 fM2.1 4 rfl).trans (fr2 fM.1 4 rfl))
    have e29 : M2.2 29 = M.2 29 := (fr2 fM2.1 29 rfl).trans (fr2 fM.1 29 rfl)
    have e30 : M2.2 30 = M.2 30 := (fr2 fM2.1 30 rfl).trans (fr2 fM.1 30 rfl)
    have m29 : M3.2 29 = upI (M.2 29) (M.1 19) 0 := (fr2 fM3.1 29 rfl).trans (by show upI (M2.2 29) _ _ = _; rw [e29])
    have m30 : M3.2 30 = upI (M.2 30) (M.1 19) 0 := (fr2 fM3.1 30 rfl).trans (by show upI (M2.2 30) _ _ = _; rw [e30])
    have m31 : M3.2 31 = M.2 31 := (fr2 fM3.1 31 rfl).trans ((fr2 fM2.1 31 rfl).trans (fr2 fM.1 31 rfl))
    have m32 : M3.2 32 = M.2 32 := (fr2 fM3.1 32 rfl).trans ((fr2 fM2.1 32 rfl).trans (fr2 fM.1 32 rfl))
    have m33 : M3.2 33 = M.2 33 := (fr2 fM3.1 33 rfl).trans ((fr2 fM2.1 33 rfl).trans (fr2 fM.1 33 rfl))
    unfold HD
    rw [k10, k11, k12, m6, m19, m4, m29, m30, m31, m32, m33]
    exact HD_open hD r1.1 hlt
  have m19 : M3.1 19 = M.1 19 + 1 := fr1 fM3.1 19 rfl
  have m29 : M3.2 29 (M.1 19) = 0 := by
    have e : M3.2 29 = upI (M2.2 29) (M.1 19) 0 := fr2 fM3.1 29 rfl
    rw [e, upI_s]
  refine RR_bnd (hdr_loop r1.1 hlt (s := (0, K3)) (t := (1, M3)) ⟨hL3, hD3, m19, m29.symm, show (0 : Int) ≤ 0 by decide, show (0 : Int) ≤ 16 by decide, Or.inl ⟨rfl, Or.inl rfl⟩⟩) (fun u e hE => ?_)
  have bad : ∀ (X : Option (Int × Int × mR)) (Y : Option (Int × mR)), RP X (fun y => y.1 ≠ 0) → RP Y (fun z => 0 < z.2.1 10) → RR X Y (GV (fun _ K2 _ M2 => LR K2 M2 ∧ HD K2 M2 ∧ M.1 19 < 12 ∧ M2.1 19 = M.1 19 + 1)) := fun X Y h1 h2 => RR_w (RR_pr h1 h2) (fun _ _ q => Or.inr q)
  have dead : ∀ v, 0 < e.1 10 → RP (rfl_takeHeader_102 v (M.1 19) e) (fun z => 0 < z.2.1 10) := fun v hz => RP_w (u_rfl_takeHeader_102 v (M.1 19) e) (fun w hw => hw.2 hz)
  cases u with
  | inr t => exact bad _ _ (RP_some hE.1) (dead _ hE.2)
  | inl K4 =>
    rcases hE with ⟨hL4, hD4, e19, e7⟩ | ⟨hw, hf⟩
    · have hX := hL4.2.1
      have hf := hL4.2.2.2.2
      show RR (kfl_rd_header_95 _ _ K4) _ _
      unfold kfl_rd_header_95 rfl_takeHeader_102
      rw [hX.1, if_pos ((wm_big hX.2.1 (by omega)).mpr e7), if_pos hf]
      unfold kfl_rd_header_114
      obtain ⟨d1, d2, ⟨d3, d6, d7⟩, d4, d5⟩ := hD4.1 (M.1 19) r1.1 (by omega)
      refine RR_l (hbits_k r1.1 hlt (fun i i0 i1 => ?_)) (fun bits hbits => ?_)
      · by_cases hi : i < e.2 29 (M.1 19)
        · obtain ⟨t1, t2, t3, -⟩ := d4 i i0 hi
          omega
        · have := d5 i (by omega) i1
          omega
      · rw [hbits, ← d3]
        have b133 : RR (kfl_rd_header_137 (K1.1 207) K4) (rfl_takeHeader_133 (M1.1 8) e) (GV (fun _ K2 _ M2 => LR K2 M2 ∧ HD K2 M2 ∧ M.1 19 < 12 ∧ M2.1 19 = M.1 19 + 1)) := by
          unfold kfl_rd_header_137 rfl_takeHeader_133
          exact bad _ _ (thr_l (fail_1 _ _ _)) (RP_bnd (wrong_1 (by decide)) (fun z hz => RP_w (u_rfl_takeHeader_140 z.2) (fun w hw => hw.2 hz)))
        refine RR_ii Iff.rfl (fun _ _ => ?_) (fun _ _ => b133)
        refine RR_ii Iff.rfl (fun _ _ => ?_) (fun _ _ => b133)
        unfold kfl_rd_header_147 rfl_takeHeader_140
        rw [need_is (show e.1 10 ≤ 0 by omega) e7]
        intro y z hy hz
        cases hk : kf_tx_advance K4 with
        | none => rw [hk] at hy; cases hy
        | some y1 =>
          cases hm : rf_next e with
          | none => rw [hm] at hz; cases hz
          | some z1 =>
            rw [hk, bnd_some] at hy
            rw [hm, bnd_some, bnd_some] at hz
            have f1 := u_kf_tx_advance K4 y1 hk
            have f2 := (u_rf_next e z1 hm).1
            cases hz
            rcases rr_adv hL4 (by omega) y1 z1 hk hm with ⟨g1, g2, g3⟩ | ⟨g1, g2⟩
            · rw [if_pos g1] at hy
              cases hy
              exact Or.inl ⟨rfl, g3, HD_f f1 f2 rfl rfl rfl rfl hD4, hlt, (fr1 f2 19 rfl).trans e19⟩
            · rw [if_neg g1] at hy
              cases hy
              exact Or.inr ⟨g1, g2⟩
    · show RR (kfl_rd_header_95 _ _ K4) _ _
      unfold kfl_rd_header_95
      rw [if_neg hw]
      exact bad _ _ (thr_l (refuse_1 _)) (dead _ hf)
end HDR2
