/-! ===== action, from its name to its end ===== -/
section AC9
variable {K M : mR}
def PQ (K M : mR) : Prop := XP K M ∧ M.1 64 = -1 ∧ DE K M ∧ AC K M ∧ M.1 99 ≤ M.1 8
/-- behind the parameters -/
theorem act106_s {a x : Int} (h : XP K M) (hD : DE K M) (h64 : M.1 64 = -1) (a0 : 0 ≤ a) (ha : a + 1 = M.1 25) (h50 : M.2 50 a = 0) (h109 : M.2 109 a = M.1 99) (hb : M.1 99 ≤ M.1 8) (hA : ∀ b, 0 ≤ b → b < a → K.2 43 b = M.2 109 b ∧ 0 ≤ M.2 109 b ∧ K.2 44 b = M.2 50 b ∧ 0 ≤ M.2 50 b ∧ M.2 50 b ≤ 12 ∧ M.2 109 b + M.2 50 b ≤ M.1 99) (hx : x ≤ M.1 8) : RR (kfl_rd_action_106 a K) (rfl_takeAction_136 a M) (GV (fun _ K2 _ M2 => PQ K2 M2 ∧ x ≤ M2.1 8)) := by
  unfold kfl_rd_action_106 rfl_takeAction_136
  refine RR_sq (G := fun _ K1 _ M1 => LR K1 M1 ∧ fr kF_tx_expect kA_tx_expect K K1 ∧ fr rF_need rA_need M M1 ∧ M.1 8 + 1 ≤ M1.1 8) (A := fun _ => True) (B := fun _ => True) (exp_s h.1 (c := 41) (by omega)) (RP_T _) (RP_T _) (fun z hz => RP_w (u_rfl_takeAction_142 a z.2) (fun w hw => hw.2 hz)) (fun _ K1 _ M1 hG _ _ => ?_)
  obtain ⟨g1, g2, g3, g4⟩ := hG
  unfold rfl_takeAction_142
  dsimp only
  refine RR_sq (G := fun _ K2 _ M2 => LR K2 M2 ∧ fr kF_tx_expect kA_tx_expect K1 K2 ∧ fr rF_need rA_need M1 M2 ∧ M1.1 8 + 1 ≤ M2.1 8) (A := fun _ => True) (B := fun _ => True) (exp_s g1 (c := 123) (by omega)) (RP_T _) (RP_T _) (fun z hz => RP_w (u_rfl_takeAction_148 a z.2) (fun w hw => hw.2 hz)) (fun _ K2 _ M2 hG _ _ => ?_)
  obtain ⟨f1, f2, f3, f4⟩ := hG
  unfold rfl_takeAction_148
  dsimp only
  have fK2 : fr kF_tx_expect kA_tx_expect K K2 := fr_s f2 g2 rfl rfl
  have fM2 : fr rF_need rA_need M M2 := fr_s f3 g3 rfl rfl
  have f43 : fr kF_tx_expect [43] K (mO K2 [] [(43, upI (K2.2 43) a (K2.1 224))]) := fr_m (fr_s fK2 fr_0 rfl rfl) rfl rfl
  have f64 : fr [7, 8, 9, 10, 11, 12, 64] [] M (mO M2 [(64, a)] []) := fr_m (fr_s fM2 fr_0 rfl rfl) rfl rfl
  have hL3 : LR (mO K2 [] [(43, upI (K2.2 43) a (K2.1 224))]) (mO M2 [(64, a)] []) := f1
  have hX3 : XP (mO K2 [] [(43, upI (K2.2 43) a (K2.1 224))]) (mO M2 [(64, a)] []) := by
    refine ⟨hL3, BP_f f43 f64 rfl rfl rfl rfl h.2.1, AR_f f43 f64 rfl rfl rfl rfl h.2.2.1, NDR_f f43 f64 rfl rfl rfl rfl h.2.2.2.1, ?_, ?_⟩
    · show -1 ≤ a
      omega
    · show a < M2.1 25
      rw [fr1 fM2 25 rfl]
      omega
  have hD3 : DE (mO K2 [] [(43, upI (K2.2 43) a (K2.1 224))]) (mO M2 [(64, a)] []) := DE_f f43 f64 rfl rfl rfl rfl hD
  have m99 : M2.1 99 = M.1 99 := fr1 fM2 99 rfl
  have k224 : K2.1 224 = M.1 99 := (fr1 fK2 224 rfl).trans hD.1.1
  refine RR_bnd (stms_s (a := a) (x := x) (K0 := mO K2 [] [(43, upI (K2.2 43) a (K2.1 224))]) (M0 := mO M2 [(64, a)] []) (s := (0, mO K2 [] [(43, upI (K2.2 43) a (K2.1 224))])) (t := mO M2 [(64, a)] []) ⟨hX3, hD3, rfl, ?_, (show (0 : Int) ≤ 0 by decide), (show (0 : Int) ≤ 12 by decide), ?_, ?_, ?_, fr_0, fr_0, fun _ _ => rfl⟩) (fun u e hE => ?_)
  · show 0 = M2.2 50 a
    rw [fr2 fM2 50 rfl]
    exact h50.symm
  · show M2.1 99 = M2.2 109 a + 0
    rw [fr2 fM2 109 rfl, m99]
    omega
  · show M2.1 99 ≤ M2.1 8
    omega
  · show x ≤ M2.1 8
    omega
  · cases u with
    | inl K4 =>
      obtain ⟨i, e1, e2, e3, e4, e5, e6, e7, e8, e9, e10, e11, e12⟩ := hE
      have e1 : XP K4 e := e1
      have e2 : DE K4 e := e2
      have e4 : i = e.2 50 a := e4
      have e5 : 0 ≤ i := e5
      have e6 : i ≤ 12 := e6
      have e7 : e.1 99 = e.2 109 a + i := e7
      show RR (kfl_rd_action_188 a K4) (rfl_takeAction_211 e) _
      unfold kfl_rd_action_188 rfl_takeAction_211
      have b4 := e1.1.1.1.2.1
      have b6 := e1.1.2.1.2.2.2.2.1
      have k4a : K4.2 43 = upI (K2.2 43) a (K2.1 224) := fr2 e10 43 rfl
      have e109 : e.2 109 = M.2 109 := (fr2 e11 109 rfl).trans (fr2 fM2 109 rfl)
      have v44 : cut (K4.1 224 - K4.2 43 a) = i := by
        rw [k4a, upI_s, k224, e2.1.1, e7, e109, h109, cut_i (by omega) (by omega)]
        omega
      rw [v44]
      have hL5 : LR (mO K4 [] [(44, upI (K4.2 44) a i)]) (mO e [(64, -1)] []) := e1.1
      refine RR_sq (G := fun _ K5 _ M5 => LR K5 M5 ∧ fr kF_tx_expect kA_tx_expect (mO K4 [] [(44, upI (K4.2 44) a i)]) K5 ∧ fr rF_need rA_need (mO e [(64, -1)] []) M5 ∧ e.1 8 + 1 ≤ M5.1 8) (A := fun _ => True) (B := fun _ => True) (exp_s hL5 (c := 125) (by omega)) (RP_T _) (RP_T _) (fun z hz => RP_some hz) (fun _ K5 _ M5 hG _ _ => ?_)
      obtain ⟨d1, d2, d3, d4⟩ := hG
      have fK5 : fr kF_tx_expect [44] K4 K5 := fr_s d2 (fr_m fr_0 rfl rfl) rfl rfl
      have fM5 : fr [7, 8, 9, 10, 11, 12, 64] [] e M5 := fr_s d3 (fr_m fr_0 rfl rfl) rfl rfl
      have m25 : e.1 25 = M.1 25 := (fr1 e11 25 rfl).trans (fr1 fM2 25 rfl)
      refine RR_some (Or.inl ⟨rfl, ⟨⟨d1, BP_f fK5 fM5 rfl rfl rfl rfl e1.2.1, AR_f fK5 fM5 rfl rfl rfl rfl e1.2.2.1, NDR_f fK5 fM5 rfl rfl rfl rfl e1.2.2.2.1, ?_, ?_⟩, fr1 d3 64 rfl, DE_f fK5 fM5 rfl rfl rfl rfl e2, ?_, ?_⟩, ?_⟩)
      · rw [fr1 d3 64 rfl]
        show (-1 : Int) ≤ -1
        decide
      · rw [fr1 d3 64 rfl, fr1 fM5 25 rfl, m25]
        show (-1 : Int) < M.1 25
        omega
      · unfold AC
        rw [fr2 fK5 43 rfl, fr1 fM5 25 rfl, fr1 fM5 99 rfl, fr2 fM5 50 rfl, fr2 fM5 109 rfl, m25, k4a, e109]
        have k44 : K5.2 44 = upI (K4.2 44) a i := fr2 d2 44 rfl
        rw [k44]
        intro b b0 b1
        by_cases eb : b = a
        · subst eb
          rw [upI_s, upI_s]
          rw [e109] at e7
          have := hD.1.2
          exact ⟨by omega, by omega, by omega, by omega, by omega, by omega⟩
        · rw [upI_n eb, upI_n eb, fr2 e10 44 rfl]
          show K2.2 43 b = M.2 109 b ∧ 0 ≤ M.2 109 b ∧ K2.2 44 b = e.2 50 b ∧ _
          have q50 : e.2 50 b = M.2 50 b := by
            rw [e12 b eb]
            show M2.2 50 b = _
            rw [fr2 fM2 50 rfl]
          rw [q50, fr2 fK2 43 rfl, fr2 fK2 44 rfl]
          obtain ⟨c1, c2, c3, c4, c5, c6⟩ := hA b b0 (by omega)
          rw [e109, h109] at e7
          exact ⟨c1, c2, c3, c4, c5, by omega⟩
      · show M5.1 99 ≤ M5.1 8
        rw [fr1 fM5 99 rfl]
        omega
      · show x ≤ M5.1 8
        omega
    | inr t => exact RR_w (RR_pr (RP_some (P := fun y : Int × Int × mR => y.1 ≠ 0) hE.1) (RP_w (u_rfl_takeAction_211 e) (fun w hw => hw.2 hE.2))) (fun _ _ q => Or.inr q)
theorem action_s (h : PQ K M) (hw : M.1 7 = 309) : RR (kf_rd_action K) (rf_takeAction M) (GV (fun _ K2 _ M2 => PQ K2 M2 ∧ M.1 8 + 1 ≤ M2.1 8)) := by
  obtain ⟨hX, h64, hD, hA, hb⟩ := h
  unfold kf_rd_action rf_takeAction
  refine RR_sq (G := fun _ K1 _ M1 => LR K1 M1 ∧ fr kF_tx_advance kA_tx_advance K K1 ∧ fr rF_next rA_next M M1 ∧ M.1 8 + 1 ≤ M1.1 8) (A := fun _ => True) (B := fun _ => True) (adv_s hX.1 (by omega)) (RP_T _) (RP_T _) (fun z hz => RP_w (u_rfl_takeAction_4 z.2) (fun w hw => hw.2 hz)) (fun _ K1 _ M1 hG _ _ => ?_)
  obtain ⟨g1, g2, g3, g4⟩ := hG
  have hX1 : XP K1 M1 := XP_f hX g1 g2 g3 rfl rfl rfl rfl
  obtain ⟨⟨c1, c2, c3, c4, c5, c6, c7, c8⟩, r1, r2, r3, r4, r5, r6, r7, r8, hsum⟩ := id hX1.2.1.1
  have a25 : M1.1 25 = M.1 25 := fr1 g3 25 rfl
  unfold rfl_takeAction_4
  dsimp only
  rw [c8, show (309 : Int) = smp 6 from rfl]
  refine RR_sq (A := fun q => fr kF_tx_makeNew kA_tx_makeNew K1 q) (B := fun q => UR rF_newName rA_newName M1 q ∧ (0 < q.1 10 ∨ M1.1 8 + 1 ≤ q.1 8)) (rr_newG g1 (s := 6) (n := M1.1 25) (b := 16) (by omega) (by omega) (by omega)) (u_kf_tx_makeNew _ _ _ K1) (fun z hz => ⟨u_rf_newName _ _ _ M1 z hz, newN_8 g1 z hz⟩) (fun z hz => RP_w (u_rfl_takeAction_16 z.1 z.2) (fun w hw => hw.2 hz)) (fun _ K2 b2 M2 hG fK2 fM2 => ?_)
  obtain ⟨hb2, hlt, hL2, n1, n2, n3⟩ := hG
  have p8 : M1.1 8 + 1 ≤ M2.1 8 := by
    rcases fM2.2 with q | q
    · have := hL2.2.2.2.2
      omega
    · exact q
  have fM2 := fM2.1.1
  unfold rfl_takeAction_16
  dsimp only
  have k223 : K2.1 223 = M1.1 25 := (fr1 fK2 223 rfl).trans c8
  have m25 : M2.1 25 = M1.1 25 := fr1 fM2 25 rfl
  rw [if_neg (by omega), k223, m25, cut_i (by omega) (by omega)]
  have ea : ∃ a, a = M1.1 25 := ⟨_, rfl⟩
  obtain ⟨a, ea⟩ := ea
  rw [← ea] at n3 ⊢
  have eK : ∃ L, L = (mO K2 [(223, a + 1)] [(39, upI (K2.2 39) a 0)]) := ⟨_, rfl⟩
  obtain ⟨L, eK⟩ := eK
  have eM : ∃ N, N = (mO M2 [(25, a + 1)] [(46, upI (M2.2 46) a 0), (50, upI (M2.2 50) a 0), (109, upI (M2.2 109) a (M2.1 99))]) := ⟨_, rfl⟩
  obtain ⟨N, eM⟩ := eM
  rw [← eK, ← eM]
  have fL : fr [223] [39] K2 L := by rw [eK]; exact fr_m fr_0 rfl rfl
  have fN : fr [25] [46, 50, 109] M2 N := by rw [eM]; exact fr_m fr_0 rfl rfl
  have l223 : L.1 223 = a + 1 := by rw [eK]; rfl
  have l39 : L.2 39 = upI (K2.2 39) a 0 := by rw [eK]; rfl
  have n25 : N.1 25 = a + 1 := by rw [eM]; rfl
  have n46 : N.2 46 = upI (M2.2 46) a 0 := by rw [eM]; rfl
  have n50 : N.2 50 = upI (M2.2 50) a 0 := by rw [eM]; rfl
  have n109 : N.2 109 = upI (M2.2 109) a (M2.1 99) := by rw [eM]; rfl
  clear eK eM
  have hLL : LR L N := LR_g hL2 fL fN rfl rfl rfl rfl ((fr1 fL 213 rfl).trans hL2.2.2.2.1) ((fr1 fN 10 rfl).trans hL2.2.2.2.2)
  have fL1 : fr [203, 205, 206, 207, 208, 209, 210, 211, 212, 223] [6, 7, 8, 9, 39] K1 L := fr_s fL (fr_s fK2 fr_0 rfl rfl) rfl rfl
  have fN1 : fr [7, 8, 9, 10, 11, 12, 13, 25] [14, 15, 16, 17, 46, 50, 109] M1 N := fr_s fN (fr_s fM2 fr_0 rfl rfl) rfl rfl
  have hP1 := hX1.2.1
  have hPL : BP L N := by
    refine ⟨?_, ?_, HD_f fL1 fN1 rfl rfl rfl rfl hP1.2.2.1, HU_f fL1 fN1 rfl rfl rfl rfl hP1.2.2.2.1, IN_f fL1 fN1 rfl rfl rfl rfl hP1.2.2.2.2.1, ME_f fL1 fN1 rfl rfl rfl rfl hP1.2.2.2.2.2.1, ?_⟩
    · unfold CNq CNx
      rw [fr1 fL1 214 rfl, fr1 fL1 215 rfl, fr1 fL1 216 rfl, fr1 fL1 217 rfl, fr1 fL1 219 rfl, fr1 fL1 221 rfl, fr1 fL1 222 rfl, l223, fr1 fN 13 rfl, n1, fr1 fN1 19 rfl, fr1 fN1 20 rfl, fr1 fN1 21 rfl, fr1 fN1 22 rfl, fr1 fN1 23 rfl, fr1 fN1 24 rfl, n25, fr1 fN1 26 rfl]
      exact ⟨⟨c1, c2, c3, c4, c5, c6, c7, rfl⟩, r1, r2, r3, r4, r5, r6, by omega, r8, by omega⟩
    · unfold NC
      rw [fr1 fN 13 rfl, n1, fr2 fN 16 rfl, n2, fr2 fN 17 rfl, n3, fr1 fN1 19 rfl, fr1 fN1 20 rfl, fr1 fN1 21 rfl, fr1 fN1 22 rfl, fr1 fN1 23 rfl, n25, fr1 fN1 26 rfl]
      exact NCx_up hP1.2.1 (by omega) (by omega) (by omega) (by omega) (by omega) (by omega) (by omega) (by omega)
    · unfold PA
      rw [l39, fr2 fL1 40 rfl, fr2 fL1 41 rfl, fr2 fL1 42 rfl, fr1 fN1 6 rfl, n25, fr2 fN1 4 rfl, n46, fr2 fN1 47 rfl, fr2 fN1 48 rfl, fr2 fN1 49 rfl, fr2 fK2 39 rfl, fr2 fM2 46 rfl]
      intro b b0 b1
      by_cases eb : b = a
      · subst eb
        rw [upI_s, upI_s]
        exact ⟨rfl, by omega, by omega, fun i i0 i1 => by omega, fun i j i0 ij j1 => by omega⟩
      · rw [upI_n eb, upI_n eb]
        exact hP1.2.2.2.2.2.2 b b0 (by omega)
  have h64N : N.1 64 = -1 := (fr1 fN1 64 rfl).trans ((fr1 g3 64 rfl).trans h64)
  have hXL : XP L N := ⟨hLL, hPL, AR_f fL1 fN1 rfl rfl rfl rfl hX1.2.2.1, NDR_f fL1 fN1 rfl rfl rfl rfl hX1.2.2.2.1, by omega, by omega⟩
  have fLK : fr [203, 205, 206, 207, 208, 209, 210, 211, 212, 223] [6, 7, 8, 9, 39] K L := fr_s fL1 (fr_s g2 fr_0 rfl rfl) rfl rfl
  have fNM : fr [7, 8, 9, 10, 11, 12, 13, 25] [14, 15, 16, 17, 46, 50, 109] M N := fr_s fN1 (fr_s g3 fr_0 rfl rfl) rfl rfl
  have hDL : DE L N := DE_f fLK fNM rfl rfl rfl rfl hD
  refine RR_sq (G := fun _ K3 _ M3 => LR K3 M3 ∧ fr kF_tx_expect kA_tx_expect L K3 ∧ fr rF_need rA_need N M3 ∧ N.1 8 + 1 ≤ M3.1 8) (A := fun _ => True) (B := fun _ => True) (exp_s hLL (c := 40) (by omega)) (RP_T _) (RP_T _) (fun z hz => RP_w (u_rfl_takeAction_65 a z.2) (fun w hw => hw.2 hz)) (fun _ K3 _ M3 hG _ _ => ?_)
  obtain ⟨d1, d2, d3, d4⟩ := hG
  have hX3 : XP K3 M3 := XP_f hXL d1 d2 d3 rfl rfl rfl rfl
  have n8 : N.1 8 = M2.1 8 := fr1 fN 8 rfl
  have hXw := d1.2.1
  unfold rfl_takeAction_65 rfl_takeAction_85
  dsimp only
  rw [if_pos d1.2.2.2.2, hXw.1]
  have m46 : M3.2 46 a = 0 := by rw [fr2 d3 46 rfl, n46, upI_s]
  have par : ∀ more : Int, (more = 0 ∨ more = 1) → RR (kfl_rd_action_77 a more K3) (rfl_takeAction_86 a more M3) (GV (fun _ K2 _ M2 => PQ K2 M2 ∧ M.1 8 + 1 ≤ M2.1 8)) := by
    intro more hm
    unfold kfl_rd_action_77 rfl_takeAction_86
    refine RR_bnd (pars_s (a := a) (x := M.1 8 + 1) (K0 := K3) (M0 := M3) (by omega) (by rw [fr1 d3 25 rfl]; omega) (s := (more, 0, K3)) (t := (more, M3)) ⟨d1, hX3.2.1, m46.symm, (show (0 : Int) ≤ 0 by decide), (show (0 : Int) ≤ 4 by decide), rfl, hm, fr_0, fr_0, by show M.1 8 + 1 ≤ M3.1 8; omega⟩) (fun u e hE => ?_)
    cases u with
    | inl K4 =>
      obtain ⟨e1, e2, e3, e4, e5⟩ := hE
      have q99 : e.1 99 = M.1 99 := (fr1 e4 99 rfl).trans ((fr1 d3 99 rfl).trans (fr1 fNM 99 rfl))
      refine act106_s (a := a) (x := M.1 8 + 1) ⟨e1, e2, AR_f e3 e4 rfl rfl rfl rfl hX3.2.2.1, NDR_f e3 e4 rfl rfl rfl rfl hX3.2.2.2.1, ?_, ?_⟩ (DE_f e3 e4 rfl rfl rfl rfl (DE_f d2 d3 rfl rfl rfl rfl hDL)) ?_ (by omega) ?_ ?_ ?_ (by omega) (fun b b0 b1 => ?_) e5
      · rw [fr1 e4 64 rfl]; exact hX3.2.2.2.2.1
      · rw [fr1 e4 64 rfl, fr1 e4 25 rfl]; exact hX3.2.2.2.2.2
      · rw [fr1 e4 64 rfl, fr1 d3 64 rfl]; exact h64N
      · rw [fr1 e4 25 rfl, fr1 d3 25 rfl, n25]
      · rw [fr2 e4 50 rfl, fr2 d3 50 rfl, n50, upI_s]
      · rw [fr2 e4 109 rfl, fr2 d3 109 rfl, n109, upI_s, q99, fr1 fM2 99 rfl, fr1 g3 99 rfl]
      · have eb : b ≠ a := by omega
        rw [fr2 e3 43 rfl, fr2 d2 43 rfl, fr2 fLK 43 rfl, fr2 e3 44 rfl, fr2 d2 44 rfl, fr2 fLK 44 rfl, fr2 e4 109 rfl, fr2 d3 109 rfl, n109, upI_n eb, fr2 fM2 109 rfl, fr2 g3 109 rfl, fr2 e4 50 rfl, fr2 d3 50 rfl, n50, upI_n eb, fr2 fM2 50 rfl, fr2 g3 50 rfl, q99]
        exact hA b b0 (by omega)
    | inr t => exact RR_w (RR_pr (RP_some (P := fun y : Int × Int × mR => y.1 ≠ 0) hE.1) (RP_w (u_rfl_takeAction_136 a e) (fun w hw => hw.2 hE.2))) (fun _ _ q => Or.inr q)
  refine RR_ii (wm_big hXw.2.1 (by omega)) (fun _ _ => par 0 (Or.inl rfl)) (fun _ _ => par 1 (Or.inr rfl))
end AC9
