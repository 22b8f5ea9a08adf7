section DEC
variable {K M : mR}
theorem rr_full {G : Int → mR → Int → mR → Prop} (h : LR K M) {s n b : Int} (hs : 1 ≤ s ∧ s ≤ 7) (hn : n = b) : RR (kf_tx_makeNew (smp s) n b K) (rf_newName s n b M) (GV G) := by
  have hX := h.2.1
  have hf := h.2.2.2.2
  unfold kf_tx_makeNew rf_newName
  rw [if_pos (show M.1 10 ≤ 0 by omega), hX.1]
  have bad : ∀ (X : Option (Int × Int × mR)) (Y : Option (Int × mR)), RP X (fun y => y.1 ≠ 0) → RP Y (fun z => 0 < z.2.1 10) → RR X Y (GV G) := fun X Y h1 h2 => RR_w (RR_pr h1 h2) (fun _ _ q => Or.inr q)
  have n58 : ∀ z : Int × mR, 0 < z.2.1 10 → RP (rfl_newName_58 s n z.2) (fun z => 0 < z.2.1 10) := by
    intro z hz
    unfold rfl_newName_58
    rw [if_neg (by omega)]
    exact RP_some hz
  refine RR_ii (wm_256 hX.2.1) (fun g1 g2 => ?_) (fun g1 g2 => bad _ _ (thr_l (refuse_1 _)) (RP_bnd (bad_1 M) n58))
  unfold kfl_tx_makeNew_14
  rw [if_neg (by omega), if_pos hn]
  exact bad _ _ (thr_l (fail_1 _ _ _)) (RP_bnd (wrong_1 (by decide)) n58)
theorem rr_newG (h : LR K M) {s n b : Int} (hs : 1 ≤ s ∧ s ≤ 7) (hn : 0 ≤ n ∧ n ≤ b ∧ b ≤ 16) (hr : n < b → M.1 13 < 85) : RR (kf_tx_makeNew (smp s) n b K) (rf_newName s n b M) (GV (fun _ K2 b2 M2 => b2 = 1 ∧ n < b ∧ LR K2 M2 ∧ M2.1 13 = M.1 13 + 1 ∧ M2.2 16 = upI (M.2 16) (M.1 13) s ∧ M2.2 17 = upI (M.2 17) (M.1 13) n)) := by
  by_cases hb : n < b
  · intro y z hy hz
    rcases rr_new h hs hn hr y z hy hz with ⟨q1, q2, q3, q4, q5, q6⟩ | q
    · exact Or.inl ⟨q1, q2, hb, q3, q4, q5, q6⟩
    · exact Or.inr q
  · exact rr_full h hs (by omega)
/-- one more name of sort s, whose count goes up -/
theorem NCx_up {n c1 c2 c3 c4 c5 c6 c7 : Int} {S W : Int → Int} {s i d1 d2 d3 d4 d5 d6 d7 : Int} (h : NCx n c1 c2 c3 c4 c5 c6 c7 S W) (l1 : c1 ≤ d1) (l2 : c2 ≤ d2) (l3 : c3 ≤ d3) (l4 : c4 ≤ d4) (l5 : c5 ≤ d5) (l6 : c6 ≤ d6) (l7 : c7 ≤ d7) (hn : (s = 1 → i < d1) ∧ (s = 2 → i < d2) ∧ (s = 3 → 3 ≤ i ∧ i < d3) ∧ (s = 4 → i < d4) ∧ (s = 5 → i < d5) ∧ (s = 6 → i < d6) ∧ (s = 7 → i < d7)) : NCx (n + 1) d1 d2 d3 d4 d5 d6 d7 (upI S n s) (upI W n i) := by
  intro k k0 k1
  by_cases e : k = n
  · rw [e, upI_s, upI_s]
    exact hn
  · rw [upI_n e, upI_n e]
    obtain ⟨a1, a2, a3, a4, a5, a6, a7⟩ := h k k0 (by omega)
    exact ⟨fun q => by have := a1 q; omega, fun q => by have := a2 q; omega, fun q => by have := a3 q; omega, fun q => by have := a4 q; omega, fun q => by have := a5 q; omega, fun q => by have := a6 q; omega, fun q => by have := a7 q; omega⟩
theorem rr_instance0 (h : LR K M) (hC : CNq K M) (hN : NC K M) (h7 : M.1 7 = 301) : RR (kf_rd_instance K) (rf_takeUse M) (GV (fun _ K2 _ M2 => LR K2 M2 ∧ M.1 20 < 12 ∧ K2.1 215 = M.1 20 + 1 ∧ M2.1 20 = M.1 20 + 1 ∧ (M2.1 13 = M.1 13 + 1 ∧ M2.2 16 = upI (M.2 16) (M.1 13) 2 ∧ M2.2 17 = upI (M.2 17) (M.1 13) (M.1 20)) ∧ ∃ b, 0 ≤ b ∧ b < M.1 19 ∧ K2.2 13 = upI (K.2 13) (M.1 20) b ∧ M2.2 34 = upI (M.2 34) (M.1 20) b)) := by
  obtain ⟨⟨c1, c2, c3, c4, c5, c6, c7, c8⟩, r1, r2, r3, r4, r5, r6, r7, r8, hsum⟩ := id hC
  unfold kf_rd_instance rf_takeUse
  refine RR_sq (A := fun q => fr kF_tx_advance kA_tx_advance K q) (B := fun q => UR rF_next rA_next M q) (LV_G (rr_adv h (by omega))) (u_kf_tx_advance K) (u_rf_next M) (fun z hz => RP_w (u_rfl_takeUse_4 z.2) (fun w hw => hw.2 hz)) (fun a K1 b M1 hG fK fM => ?_)
  obtain ⟨-, hL1⟩ := hG
  unfold rfl_takeUse_4
  dsimp only
  have q1 : K1.1 215 = M.1 20 := (fr1 fK 215 rfl).trans c2
  have q2 : M1.1 20 = M.1 20 := fr1 fM.1 20 rfl
  have q3 : M1.1 13 = M.1 13 := fr1 fM.1 13 rfl
  rw [q1, q2, show (301 : Int) = smp 2 from rfl]
  refine RR_sq (A := fun q => fr kF_tx_makeNew kA_tx_makeNew K1 q) (B := fun q => UR rF_newName rA_newName M1 q) (rr_newG hL1 (s := 2) (n := M.1 20) (b := 12) (by omega) (by omega) (by omega)) (u_kf_tx_makeNew _ _ _ K1) (u_rf_newName _ _ _ M1) (fun z hz => RP_w (u_rfl_takeUse_15 z.1 z.2) (fun w hw => hw.2 hz)) (fun a2 K2 b2 M2 hG fK2 fM2 => ?_)
  obtain ⟨hb, hlt, hL2, n1, n2, n3⟩ := hG
  unfold rfl_takeUse_15
  dsimp only
  have q4 : K2.1 215 = M.1 20 := (fr1 fK2 215 rfl).trans q1
  have q5 : M2.1 20 = M.1 20 := (fr1 fM2.1 20 rfl).trans q2
  rw [if_neg (by omega), q4]
  have rI : M.1 20 < 12 := hlt
  have hL2' : LR (mO K2 [(215, cut (M.1 20 + 1))] []) M2 := hL2
  rw [cut_i (by omega) (by omega)] at hL2' ⊢
  refine RR_sq (A := fun q => fr kF_tx_expect kA_tx_expect (mO K2 [(215, M.1 20 + 1)] []) q) (B := fun q => UR rF_need rA_need M2 q) (LV_G (rr_exp hL2' (c := 58) (by omega))) (u_kf_tx_expect _ _) (u_rf_need _ M2) (fun z hz => RP_w (u_rfl_takeUse_25 z.2) (fun w hw => hw.2 hz)) (fun a3 K3 b3 M3 hG fK3 fM3 => ?_)
  obtain ⟨-, hL3⟩ := hG
  unfold rfl_takeUse_25
  dsimp only
  rw [show (300 : Int) = smp 1 from rfl]
  refine RR_sq (A := fun q => fr kF_tx_known kA_tx_known K3 q) (B := fun q => UR rF_oldName rA_oldName M3 q) (LV_G (rr_known hL3 (s := 1) (by omega) (by omega) (by omega))) (u_kf_tx_known _ K3) (u_rf_oldName _ M3) (fun z hz => RP_w (u_rfl_takeUse_30 z.1 z.2) (fun w hw => hw.2 hz)) (fun a4 K4 b4 M4 hG fK4 fM4 => ?_)
  obtain ⟨⟨e4, k, k0, k1, k2, k3⟩, hL4⟩ := hG
  unfold rfl_takeUse_30
  dsimp only
  rw [e4]
  have hL4' : LR (mO K4 [] [(13, upI (K4.2 13) (M.1 20) b4)]) M4 := hL4
  refine RR_sq (A := fun q => fr kF_tx_expect kA_tx_expect (mO K4 [] [(13, upI (K4.2 13) (M.1 20) b4)]) q) (B := fun q => UR rF_need rA_need M4 q) (LV_G (rr_exp hL4' (c := 59) (by omega))) (u_kf_tx_expect _ _) (u_rf_need _ M4) (fun z hz => RP_w (u_rfl_takeUse_37 b4 z.2) (fun w hw => hw.2 hz)) (fun a5 K5 b5 M5 hG fK5 fM5 => ?_)
  obtain ⟨-, hL5⟩ := hG
  unfold rfl_takeUse_37
  dsimp only
  -- what the records are now
  have m20 : M5.1 20 = M.1 20 := by rw [fr1 fM5.1 20 rfl, fr1 fM4.1 20 rfl, fr1 fM3.1 20 rfl]; exact q5
  have m3 : M3.1 13 = M.1 13 + 1 ∧ M3.2 16 = upI (M.2 16) (M.1 13) 2 ∧ M3.2 17 = upI (M.2 17) (M.1 13) (M.1 20) := by
    rw [fr1 fM3.1 13 rfl, fr2 fM3.1 16 rfl, fr2 fM3.1 17 rfl, n1, n2, n3, q3, fr2 fM.1 16 rfl, fr2 fM.1 17 rfl]
    exact ⟨rfl, rfl, rfl⟩
  have m5 : M5.1 13 = M.1 13 + 1 ∧ M5.2 16 = upI (M.2 16) (M.1 13) 2 ∧ M5.2 17 = upI (M.2 17) (M.1 13) (M.1 20) := by
    rw [fr1 fM5.1 13 rfl, fr2 fM5.1 16 rfl, fr2 fM5.1 17 rfl, fr1 fM4.1 13 rfl, fr2 fM4.1 16 rfl, fr2 fM4.1 17 rfl]
    exact m3
  have bh : 0 ≤ b4 ∧ b4 < M.1 19 := by
    rw [m3.2.1] at k2
    rw [m3.2.2] at k3
    have hk : k ≠ M.1 13 := by
      intro e
      rw [e, upI_s] at k2
      omega
    rw [upI_n hk] at k2 k3
    have h9 := (hN k k0 (by rw [m3.1] at k1; omega)).1 k2
    have h8 := (h.2.2.1.2.2.1 k k0 (by rw [m3.1] at k1; omega)).2.2.2.2.2.2.1
    omega
  rw [m20, cut_i (by omega) (by omega)]
  refine RR_some (Or.inl ⟨rfl, hL5, rI, ?_, rfl, m5, b4, bh.1, bh.2, ?_, ?_⟩)
  · exact (fr1 fK5 215 rfl).trans ((fr1 fK4 215 rfl).trans (fr1 fK3 215 rfl))
  · have e1 : K4.2 13 = K.2 13 := (fr2 fK4 13 rfl).trans ((fr2 fK3 13 rfl).trans ((fr2 fK2 13 rfl).trans (fr2 fK 13 rfl)))
    have e2 : K5.2 13 = upI (K4.2 13) (M.1 20) b4 := fr2 fK5 13 rfl
    exact e2.trans (by rw [e1])
  · have e1 : M5.2 34 = M.2 34 := (fr2 fM5.1 34 rfl).trans ((fr2 fM4.1 34 rfl).trans ((fr2 fM3.1 34 rfl).trans ((fr2 fM2.1 34 rfl).trans (fr2 fM.1 34 rfl))))
    show upI (M5.2 34) (M.1 20) b4 = _
    rw [e1]
theorem rr_instance (h : LR K M) (hC : CNq K M) (hN : NC K M) (hI : IN K M) (h7 : M.1 7 = 301) : RR (kf_rd_instance K) (rf_takeUse M) (GV (fun _ K2 _ M2 => LR K2 M2 ∧ CNq K2 M2 ∧ NC K2 M2 ∧ IN K2 M2)) := by
  intro y z hy hz
  have f1 := u_kf_rd_instance K y hy
  have f2 := (u_rf_takeUse M z hz).1
  rcases rr_instance0 h hC hN h7 y z hy hz with ⟨e, hL, rI, a1, a2, ⟨a3, a4, a5⟩, b, b0, b1, b2, b3⟩ | q
  · refine Or.inl ⟨e, hL, ?_, ?_, ?_⟩
    · obtain ⟨⟨c1, c2, c3, c4, c5, c6, c7, c8⟩, r1, r2, r3, r4, r5, r6, r7, r8, hsum⟩ := hC
      unfold CNq CNx
      rw [fr1 f1 214 rfl, a1, fr1 f1 216 rfl, fr1 f1 217 rfl, fr1 f1 219 rfl, fr1 f1 221 rfl, fr1 f1 222 rfl, fr1 f1 223 rfl, a3, fr1 f2 19 rfl, a2, fr1 f2 21 rfl, fr1 f2 22 rfl, fr1 f2 23 rfl, fr1 f2 24 rfl, fr1 f2 25 rfl, fr1 f2 26 rfl]
      exact ⟨⟨c1, rfl, c3, c4, c5, c6, c7, c8⟩, r1, by omega, r3, r4, r5, r6, r7, r8, by omega⟩
    · unfold NC
      rw [a3, a4, a5, fr1 f2 19 rfl, a2, fr1 f2 21 rfl, fr1 f2 22 rfl, fr1 f2 23 rfl, fr1 f2 25 rfl, fr1 f2 26 rfl]
      exact NCx_up hN (by omega) (by omega) (by omega) (by omega) (by omega) (by omega) (by omega) (by omega)
    · unfold IN
      rw [b2, b3, fr1 f2 19 rfl, a2]
      intro i i0 i1
      by_cases e9 : i = M.1 20
      · rw [e9, upI_s, upI_s]
        exact ⟨rfl, b0, b1⟩
      · rw [upI_n e9, upI_n e9]
        exact hI i i0 (by omega)
  · exact Or.inr q
end DEC
