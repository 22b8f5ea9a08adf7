/-! ===== actions ===== -/
def ACx (K43 : Int → Int) (K44 : Int → Int) (m25 : Int) (m99 : Int) (M50 : Int → Int) (M109 : Int → Int) : Prop := ∀ a, 0 ≤ a → a < m25 → K43 a = M109 a ∧ 0 ≤ M109 a ∧ K44 a = M50 a ∧ 0 ≤ M50 a ∧ M50 a ≤ 12 ∧ M109 a + M50 a ≤ m99
def AC (K M : mR) : Prop := ACx (K.2 43) (K.2 44) (M.1 25) (M.1 99) (M.2 50) (M.2 109)
theorem AC_f {F A G B : List Nat} {K M K' M' : mR} (hK : fr F A K K') (hM : fr G B M M') (c1 : chk [] F = true) (c2 : chk [43, 44] A = true) (c3 : chk [25, 99] G = true) (c4 : chk [50, 109] B = true) (h : AC K M) : AC K' M' := by
  unfold AC
  rw [fr2 hK 43 (chk_1 c2 (by decide)), fr2 hK 44 (chk_1 c2 (by decide)), fr1 hM 25 (chk_1 c3 (by decide)), fr1 hM 99 (chk_1 c3 (by decide)), fr2 hM 50 (chk_1 c4 (by decide)), fr2 hM 109 (chk_1 c4 (by decide))]
  exact h
section PAR6
variable {K M : mR}
/-- no parameter has the name at hand, told by the reference -/
theorem pdl_r (h : LR K M) (hA : PA K M) (h1 : M.1 7 = 1) {a : Int} (a0 : 0 ≤ a) (a1 : a < M.1 25) (a16 : M.1 25 ≤ 16) {v : Int} : RP (whl (rfb_takeParameter_57 v (4 * a + M.2 46 a)) (4 * a, M)) (fun e => (e = M ∧ ∀ i, 0 ≤ i → i < M.2 46 a → ¬ sameN (M.2 4) (M.1 8) (M.1 9) (M.2 47 (4 * a + i)) (M.2 48 (4 * a + i))) ∨ (0 < e.1 10 ∧ ∃ i, 0 ≤ i ∧ i < M.2 46 a ∧ sameN (M.2 4) (M.1 8) (M.1 9) (M.2 47 (4 * a + i)) (M.2 48 (4 * a + i)))) := by
  obtain ⟨p1, p2, p3, p4, p5⟩ := hA a a0 a1
  have hf := h.2.2.2.2
  have h8 := LR_8 h h1
  refine RP_whl (I := fun s : Int × mR => 4 * a ≤ s.1 ∧ s.1 ≤ 4 * a + M.2 46 a ∧ ((s.2 = M ∧ ∀ i, 0 ≤ i → 4 * a + i < s.1 → ¬ sameN (M.2 4) (M.1 8) (M.1 9) (M.2 47 (4 * a + i)) (M.2 48 (4 * a + i))) ∨ (0 < s.2.1 10 ∧ ∃ i, 0 ≤ i ∧ i < M.2 46 a ∧ sameN (M.2 4) (M.1 8) (M.1 9) (M.2 47 (4 * a + i)) (M.2 48 (4 * a + i))))) (fun s hs => ?_) ⟨by show 4 * a ≤ 4 * a; omega, by show 4 * a ≤ _; omega, Or.inl ⟨rfl, fun i i0 i1 => absurd (show 4 * a + i < 4 * a from i1) (by omega)⟩⟩
  obtain ⟨k, m⟩ := s
  obtain ⟨b1, b2, c⟩ := hs
  have b1 : 4 * a ≤ k := b1
  have b2 : k ≤ 4 * a + M.2 46 a := b2
  unfold rfb_takeParameter_57 rfl_takeParameter_97
  show RP (if 4 * a + M.2 46 a ≤ k then some (Sum.inr m) else if m.1 10 = 0 then bnd (rf_isHere (m.2 47 k) (m.2 48 k) m) fun y15 => if y15 = 0 then some (Sum.inl (cut (k + 1), m)) else bnd (rf_wrong 3 (m.1 8) m) fun y18 => some (Sum.inl (cut (k + 1), y18.2)) else some (Sum.inr m)) _
  refine RP_ite (fun g => ?_) (fun g => ?_)
  · rcases c with ⟨c1, c2⟩ | c
    · exact RP_some (Or.inl ⟨c1, fun i i0 i1 => c2 i i0 (show 4 * a + i < k by omega)⟩)
    · exact RP_some (Or.inr c)
  · refine RP_ite (fun g1 => ?_) (fun g1 => ?_)
    · rcases c with ⟨c1, c2⟩ | c
      · have c1 : m = M := c1
        subst c1
        obtain ⟨t1, t2, t3, t4, t5, t6, t7, t8, t9, t10, t11⟩ := p4 (k - 4 * a) (by omega) (by omega)
        rw [show 4 * a + (k - 4 * a) = k by omega] at t4 t5 t6 t7
        rw [cut_i (by omega) (by omega)]
        refine RP_bnd (isHere_r h.1.1 ⟨h8.1, h8.2.1⟩ t4 (by omega) t7) (fun y hy => ?_)
        rcases hy with ⟨y1, y2⟩ | ⟨y1, y2⟩
        · rw [if_neg (by omega)]
          refine RP_bnd (wrong_1 (by decide)) (fun z hz => RP_some ⟨by show 4 * a ≤ k + 1; omega, by show k + 1 ≤ _; omega, Or.inr ⟨hz, k - 4 * a, by omega, by omega, ?_⟩⟩)
          rw [show 4 * a + (k - 4 * a) = k by omega]
          exact y2
        · rw [if_pos y1]
          refine RP_some ⟨by show 4 * a ≤ k + 1; omega, by show k + 1 ≤ _; omega, Or.inl ⟨rfl, fun i i0 i1 => ?_⟩⟩
          have i1 : 4 * a + i < k + 1 := i1
          by_cases hi : 4 * a + i < k
          · exact c2 i i0 hi
          · rw [show 4 * a + i = k by omega]
            exact y2
      · exact absurd g1 (by have c9 : 0 < m.1 10 := c.1; omega)
    · rcases c with ⟨c1, c2⟩ | c
      · have c1 : m = M := c1
        subst c1
        exact absurd hf g1
      · exact RP_some (Or.inr c)
theorem PA_new (h : LR K M) (hA : PA K M) (h1 : M.1 7 = 1) {a w : Int} (a0 : 0 ≤ a) (a1 : a < M.1 25) (hi : M.2 46 a < 4) (w0 : 1 ≤ w) (w1 : w ≤ 64) (hno : ∀ j, 0 ≤ j → j < M.2 46 a → ¬ (K.2 41 (4 * a + j) = K.1 209 ∧ K.2 42 (4 * a + j) = K.1 210)) : PAx (upI (K.2 39) a (M.2 46 a + 1)) (upI (K.2 40) (4 * a + M.2 46 a) w) (upI (K.2 41) (4 * a + M.2 46 a) (K.1 209)) (upI (K.2 42) (4 * a + M.2 46 a) (K.1 210)) (M.1 6) (M.1 25) (M.2 4) (upI (M.2 46) a (M.2 46 a + 1)) (upI (M.2 47) (4 * a + M.2 46 a) (M.1 8)) (upI (M.2 48) (4 * a + M.2 46 a) (M.1 9)) (upI (M.2 49) (4 * a + M.2 46 a) w) := by
  obtain ⟨n16, nch, npk, nr1, nr2⟩ := h.2.1.2.2.2.2.2.2.2.2 h1
  obtain ⟨xe, y1, y2⟩ := h.2.1.2.2.2.2.2.1 (by omega)
  have y8 := h.2.1.2.2.2.1
  obtain ⟨p1, p2, p3, p4, p5⟩ := hA a a0 a1
  intro b b0 b1
  by_cases e : b = a
  · subst e
    rw [upI_s, upI_s]
    refine ⟨rfl, by omega, by omega, fun i i0 i1 => ?_, fun i j i0 ij j1 => ?_⟩
    · by_cases ei : i = M.2 46 b
      · subst ei
        rw [upI_s, upI_s, upI_s, upI_s, upI_s, upI_s]
        exact ⟨rfl, w0, w1, y8, y1, n16, y2, nch, npk, nr1, nr2⟩
      · have ne : 4 * b + i ≠ 4 * b + M.2 46 b := by omega
        rw [upI_n ne, upI_n ne, upI_n ne, upI_n ne, upI_n ne, upI_n ne]
        exact p4 i i0 (by omega)
    · have ni : 4 * b + i ≠ 4 * b + M.2 46 b := by omega
      rw [upI_n ni, upI_n ni]
      by_cases ej : j = M.2 46 b
      · subst ej
        rw [upI_s, upI_s]
        exact hno i i0 ij
      · have nj : 4 * b + j ≠ 4 * b + M.2 46 b := by omega
        rw [upI_n nj, upI_n nj]
        exact p5 i j i0 ij (by omega)
  · obtain ⟨q1, q2, q3, q4, q5⟩ := hA b b0 b1
    rw [upI_n e, upI_n e]
    refine ⟨q1, q2, q3, fun i i0 i1 => ?_, fun i j i0 ij j1 => ?_⟩
    · have ne : 4 * b + i ≠ 4 * a + M.2 46 a := by omega
      rw [upI_n ne, upI_n ne, upI_n ne, upI_n ne, upI_n ne, upI_n ne]
      exact q4 i i0 i1
    · have ni : 4 * b + i ≠ 4 * a + M.2 46 a := by omega
      have nj : 4 * b + j ≠ 4 * a + M.2 46 a := by omega
      rw [upI_n ni, upI_n ni, upI_n nj, upI_n nj]
      exact q5 i j i0 ij j1
theorem BP_pa {K' M' : mR} {F A G C : List Nat} (hK : fr F A K K') (hM : fr G C M M') (c1 : chk [214, 215, 216, 217, 219, 221, 222, 223] F = true) (c2 : chk [10, 11, 12, 13, 14] A = true) (c3 : chk [6, 13, 19, 20, 21, 22, 23, 24, 25, 26] G = true) (c4 : chk [4, 16, 17, 29, 30, 31, 32, 33, 34, 35] C = true) (h : BP K M) (hA : PA K' M') : BP K' M' := by
  obtain ⟨h1, h2, h3, h4, h5, h6, h7⟩ := h
  exact ⟨CN_f hK hM (chk_s c1 rfl) (chk_s c2 rfl) (chk_s c3 rfl) (chk_s c4 rfl) h1, NC_f hK hM (chk_s c1 rfl) (chk_s c2 rfl) (chk_s c3 rfl) (chk_s c4 rfl) h2, HD_f hK hM (chk_s c1 rfl) (chk_s c2 rfl) (chk_s c3 rfl) (chk_s c4 rfl) h3, HU_f hK hM (chk_s c1 rfl) (chk_s c2 rfl) (chk_s c3 rfl) (chk_s c4 rfl) h4, IN_f hK hM (chk_s c1 rfl) (chk_s c2 rfl) (chk_s c3 rfl) (chk_s c4 rfl) h5, ME_f hK hM (chk_s c1 rfl) (chk_s c2 rfl) (chk_s c3 rfl) (chk_s c4 rfl) h6, hA⟩
/-- a parameter -/
theorem parameter_s (h : LR K M) (hP : BP K M) {a i : Int} (a0 : 0 ≤ a) (a1 : a < M.1 25) (hi : i = M.2 46 a) : RR (kf_rd_parameter a i K) (rf_takeParameter a M) (GV (fun _ K2 _ M2 => LR K2 M2 ∧ BP K2 M2 ∧ M2.2 46 a = i + 1 ∧ fr kF_rd_parameter kA_rd_parameter K K2 ∧ fr rF_takeParameter rA_takeParameter M M2 ∧ M.1 8 + 1 ≤ M2.1 8)) := by
  have hX := h.2.1
  have hf := h.2.2.2.2
  have a16 := hP.1.2.2.2.2.2.2.2.1.2
  have hA := hP.2.2.2.2.2.2
  obtain ⟨p1, p2, p3, p4, p5⟩ := hA a a0 a1
  have bad : ∀ (X : Option (Int × Int × mR)) (Y : Option (Int × mR)), RP X (fun y => y.1 ≠ 0) → RP Y (fun z => 0 < z.2.1 10) → RR X Y (GV (fun _ K2 _ M2 => LR K2 M2 ∧ BP K2 M2 ∧ M2.2 46 a = i + 1 ∧ fr kF_rd_parameter kA_rd_parameter K K2 ∧ fr rF_takeParameter rA_takeParameter M M2 ∧ M.1 8 + 1 ≤ M2.1 8)) := fun X Y h1 h2 => RR_w (RR_pr h1 h2) (fun _ _ q => Or.inr q)
  have s53 : ∀ v (z : Int × mR), 0 < z.2.1 10 → RP (rfl_takeParameter_53 a v z.2) (fun z => 0 < z.2.1 10) := fun v z hz => RP_w (u_rfl_takeParameter_53 a v z.2) (fun w hw => hw.2 hz)
  unfold kf_rd_parameter rf_takeParameter
  rw [if_pos (show M.1 10 ≤ 0 by omega), hX.1, cut_i (z := 4 * a) (by omega) (by omega), cut_i (z := 4 * a + M.2 46 a) (by omega) (by omega)]
  refine RR_ii (wm_256 hX.2.1) (fun g1 w1 => ?_) (fun g1 w1 => bad _ _ (thr_l (A := fun y22 => kfl_rd_parameter_20 a i y22.2.2) (refuse_1 _)) (RP_bnd (bad_1 M) (s53 _)))
  unfold kfl_rd_parameter_20
  by_cases i4 : i < 4
  · rw [if_pos i4, if_neg (by omega)]
    unfold kfl_rd_parameter_40 rfl_takeParameter_53
    rw [cut_i (z := 4 * a) (by omega) (by omega)]
    refine RR_l (parOf_k (K := K) (a := a) a0 (by omega) (by omega) (by omega)) (fun r hr => ?_)
    refine RR_r (pdl_r h hA w1 a0 a1 a16) (fun e he => ?_)
    have hit : ∀ j, 0 ≤ j → j < M.2 46 a → ((K.2 41 (4 * a + j) = K.1 209 ∧ K.2 42 (4 * a + j) = K.1 210) ↔ sameN (M.2 4) (M.1 8) (M.1 9) (M.2 47 (4 * a + j)) (M.2 48 (4 * a + j))) := by
      intro j j0 j1
      obtain ⟨t1, t2, t3, t4, t5, t6, t7, t8, t9, t10, t11⟩ := p4 j j0 j1
      exact two_iff h w1 t4 t5 t6 t8 t9 t10 t11
    rw [p1] at hr
    rcases hr with ⟨r0, r1, r2, r3⟩ | ⟨r0, r1⟩
    · rw [if_neg (by omega)]
      rcases he with ⟨-, e2⟩ | ⟨e1, e2⟩
      · exact absurd ((hit r r0 r1).mp ⟨r2, r3⟩) (e2 r r0 r1)
      · exact bad _ _ (thr_l (A := fun y14 => kfl_rd_parameter_81 a i y14.2.2) (fail_1 _ _ _)) (RP_w (u_rfl_takeParameter_103 a _ e) (fun w hw => hw.2 e1))
    · rw [if_pos r0]
      rcases he with ⟨e1, e2⟩ | ⟨e1, j, j0, j1, j2⟩
      · have e9 := e1.symm
        subst e9
        unfold kfl_rd_parameter_81 rfl_takeParameter_103
        rw [if_pos (show M.1 10 ≤ 0 by omega), cut_i (z := a * 4) (by omega) (by omega), cut_i (z := a * 4 + i) (by omega) (by omega), show a * 4 + i = 4 * a + M.2 46 a by omega]
        have hL' : LR (mO K [] [(41, upI (K.2 41) (4 * a + M.2 46 a) (K.1 209)), (42, upI (K.2 42) (4 * a + M.2 46 a) (K.1 210))]) (mO M [] [(47, upI (M.2 47) (4 * a + M.2 46 a) (M.1 8)), (48, upI (M.2 48) (4 * a + M.2 46 a) (M.1 9))]) := h
        refine RR_sq (G := fun _ K1 _ M1 => LR K1 M1 ∧ fr kF_tx_advance kA_tx_advance (mO K [] [(41, upI (K.2 41) (4 * a + M.2 46 a) (K.1 209)), (42, upI (K.2 42) (4 * a + M.2 46 a) (K.1 210))]) K1 ∧ fr rF_next rA_next (mO M [] [(47, upI (M.2 47) (4 * a + M.2 46 a) (M.1 8)), (48, upI (M.2 48) (4 * a + M.2 46 a) (M.1 9))]) M1 ∧ M.1 8 + 1 ≤ M1.1 8) (A := fun _ => True) (B := fun _ => True) (adv_s hL' (show M.1 7 ≠ 0 by omega)) (RP_T _) (RP_T _) (fun z hz => RP_w (u_rfl_takeParameter_135 a _ z.2) (fun w hw => hw.2 hz)) (fun a1' K1 b M1 hG _ _ => ?_)
        obtain ⟨x1, x2, x3, x4⟩ := hG
        unfold rfl_takeParameter_135
        dsimp only
        refine RR_sq (G := fun _ K2 _ M2 => LR K2 M2 ∧ fr kF_tx_expect kA_tx_expect K1 K2 ∧ fr rF_need rA_need M1 M2 ∧ M1.1 8 + 1 ≤ M2.1 8) (A := fun _ => True) (B := fun _ => True) (exp_s x1 (c := 58) (by omega)) (RP_T _) (RP_T _) (fun z hz => RP_w (u_rfl_takeParameter_141 a _ z.2) (fun w hw => hw.2 hz)) (fun a2 K2 b2 M2 hG _ _ => ?_)
        obtain ⟨y1, y2, y3, y4⟩ := hG
        unfold rfl_takeParameter_141
        dsimp only
        refine RR_sq (G := fun aa K3 b M3 => (aa = b ∧ 1 ≤ aa ∧ aa ≤ 64) ∧ LR K3 M3 ∧ fr kF_tx_within kA_tx_within K2 K3 ∧ fr rF_number rA_number M2 M3 ∧ M2.1 8 + 1 ≤ M3.1 8) (A := fun _ => True) (B := fun _ => True) (num_s y1 (a := 1) (b := 64) (by omega)) (RP_T _) (RP_T _) (fun z hz => RP_w (u_rfl_takeParameter_153 a _ z.1 z.2) (fun w hw => hw.2 hz)) (fun w K3 b3 M3 hG _ _ => ?_)
        obtain ⟨⟨z1, z2, z3⟩, z4, z5, z6, z7⟩ := hG
        unfold rfl_takeParameter_153
        dsimp only
        have m46 : M3.2 46 = M.2 46 := (fr2 z6 46 rfl).trans ((fr2 y3 46 rfl).trans (fr2 x3 46 rfl))
        have m49 : M3.2 49 = M.2 49 := (fr2 z6 49 rfl).trans ((fr2 y3 49 rfl).trans (fr2 x3 49 rfl))
        have k39 : K3.2 39 = K.2 39 := (fr2 z5 39 rfl).trans ((fr2 y2 39 rfl).trans (fr2 x2 39 rfl))
        have k40 : K3.2 40 = K.2 40 := (fr2 z5 40 rfl).trans ((fr2 y2 40 rfl).trans (fr2 x2 40 rfl))
        rw [m46, m49, k39, k40, ← z1, hi, cut_i (by omega) (by omega)]
        have fK : fr kF_rd_parameter kA_rd_parameter K (mO K3 [] [(39, upI (K.2 39) a (M.2 46 a + 1)), (40, upI (K.2 40) (4 * a + M.2 46 a) w)]) := fr_m (fr_s z5 (fr_s y2 (fr_s x2 (fr_m fr_0 rfl rfl) rfl rfl) rfl rfl) rfl rfl) rfl rfl
        have fM : fr rF_takeParameter rA_takeParameter M (mO M3 [] [(46, upI (M.2 46) a (M.2 46 a + 1)), (49, upI (M.2 49) (4 * a + M.2 46 a) w)]) := fr_m (fr_s z6 (fr_s y3 (fr_s x3 (fr_m fr_0 rfl rfl) rfl rfl) rfl rfl) rfl rfl) rfl rfl
        have hL3 : LR (mO K3 [] [(39, upI (K.2 39) a (M.2 46 a + 1)), (40, upI (K.2 40) (4 * a + M.2 46 a) w)]) (mO M3 [] [(46, upI (M.2 46) a (M.2 46 a + 1)), (49, upI (M.2 49) (4 * a + M.2 46 a) w)]) := z4
        refine RR_some (Or.inl ⟨rfl, hL3, BP_pa fK fM rfl rfl rfl rfl hP ?_, ?_, fK, fM, by show M.1 8 + 1 ≤ M3.1 8; omega⟩)
        · have k41 : K3.2 41 = upI (K.2 41) (4 * a + M.2 46 a) (K.1 209) := (fr2 z5 41 rfl).trans ((fr2 y2 41 rfl).trans (fr2 x2 41 rfl))
          have k42 : K3.2 42 = upI (K.2 42) (4 * a + M.2 46 a) (K.1 210) := (fr2 z5 42 rfl).trans ((fr2 y2 42 rfl).trans (fr2 x2 42 rfl))
          have m47 : M3.2 47 = upI (M.2 47) (4 * a + M.2 46 a) (M.1 8) := (fr2 z6 47 rfl).trans ((fr2 y3 47 rfl).trans (fr2 x3 47 rfl))
          have m48 : M3.2 48 = upI (M.2 48) (4 * a + M.2 46 a) (M.1 9) := (fr2 z6 48 rfl).trans ((fr2 y3 48 rfl).trans (fr2 x3 48 rfl))
          show PAx (upI (K.2 39) a (M.2 46 a + 1)) (upI (K.2 40) (4 * a + M.2 46 a) w) (K3.2 41) (K3.2 42) (M3.1 6) (M3.1 25) (M3.2 4) (upI (M.2 46) a (M.2 46 a + 1)) (M3.2 47) (M3.2 48) (upI (M.2 49) (4 * a + M.2 46 a) w)
          have m6 : M3.1 6 = M.1 6 := fr1 fM 6 rfl
          have m25 : M3.1 25 = M.1 25 := fr1 fM 25 rfl
          have m4 : M3.2 4 = M.2 4 := fr2 fM 4 rfl
          rw [k41, k42, m47, m48, m6, m25, m4]
          exact PA_new h hA w1 a0 a1 (by omega) z2 z3 r1
        · show upI (M.2 46) a (M.2 46 a + 1) a = _
          rw [upI_s]
      · exact absurd ((hit j j0 j1).mpr j2) (r1 j j0 j1)
  · rw [if_neg i4, if_pos (by omega)]
    exact bad _ _ (thr_l (A := fun y18 => kfl_rd_parameter_40 a i y18.2.2) (fail_1 _ _ _)) (RP_bnd (wrong_1 (by decide)) (s53 _))
end PAR6
