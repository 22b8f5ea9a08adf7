/-! ===== a state that is being read ===== -/
def CU (s d : Int) (K M : mR) : Prop := (0 ≤ s ∧ s < M.1 23) ∧ (0 ≤ d ∧ d + 1 = M.1 24 ∧ M.2 39 d = s) ∧ K.2 26 s = M.2 41 d ∧ (0 ≤ M.2 41 d ∧ M.2 41 d ≤ 6) ∧ K.2 30 s = M.2 42 d ∧ (0 ≤ M.2 42 d ∧ M.2 42 d ≤ 8) ∧ ∀ i, 0 ≤ i → i < M.2 42 d → GL (M.1 23) (K.2 33 (8 * s + i)) (M.2 45 (8 * d + i))
def SB (s d : Int) (K M : mR) : Prop := LR K M ∧ BP K M ∧ NDR K M ∧ SO K M ∧ SGd (M.1 23) d K M ∧ CU s d K M ∧ M.1 64 = -1
section SBS
variable {K M K' M' : mR} {s d : Int}
theorem SGd_c {n n' : Int} (h : SGd n d K M) (hn : n ≤ n') (hne : ∀ e, 0 ≤ e → e < d → M.2 39 e ≠ s) (k26 : ∀ x, x ≠ s → x < n → K'.2 26 x = K.2 26 x) (k30 : ∀ x, x ≠ s → x < n → K'.2 30 x = K.2 30 x) (k34 : ∀ x, x ≠ s → K'.2 34 x = K.2 34 x) (k33 : ∀ x i, x ≠ s → 0 ≤ i → i < 8 → K'.2 33 (8 * x + i) = K.2 33 (8 * x + i)) (m39 : M'.2 39 = M.2 39) (m41 : ∀ e, e < d → M'.2 41 e = M.2 41 e) (m42 : ∀ e, e < d → M'.2 42 e = M.2 42 e) (m44 : ∀ e, e < d → M'.2 44 e = M.2 44 e) (m45 : ∀ e i, e < d → 0 ≤ i → i < 8 → M'.2 45 (8 * e + i) = M.2 45 (8 * e + i)) : SGd n' d K' M' := by
  intro e e0 e1
  obtain ⟨a1, a2, a3, a4, a5, a6, a7, a8⟩ := h e e0 e1
  have ne := hne e e0 e1
  rw [m39, m41 e e1, m42 e e1, m44 e e1, k26 _ ne a2, k30 _ ne a2, k34 _ ne]
  refine ⟨a1, by omega, a3, a4, GL_m a5 hn, a6, a7, fun i i0 i1 => ?_⟩
  rw [k33 _ i ne i0 (by omega), m45 e i e1 i0 (by omega)]
  exact GL_m (a8 i i0 i1) hn
theorem SB_ne (h : SB s d K M) : (∀ e, 0 ≤ e → e < d → M.2 39 e ≠ s) ∧ 0 ≤ K.2 36 s ∧ M.2 38 s = d := by
  obtain ⟨-, -, -, hO, -, hC, -⟩ := h
  obtain ⟨⟨c1, c2⟩, ⟨c3, c4, c5⟩, -⟩ := hC
  obtain ⟨q1, q2, q3, q4⟩ := hO.2 d c3 (by omega)
  rw [c5] at q3
  refine ⟨fun e e0 e1 he => ?_, ?_, q3⟩
  · obtain ⟨p1, p2, p3, p4⟩ := hO.2 e e0 (by omega)
    rw [he] at p3
    omega
  · rcases hO.1 s c1 c2 with ⟨p1, p2, -⟩ | ⟨p1, -⟩
    · omega
    · exact p1
theorem SB_u (h : SB s d K M) (hL : LR K' M') (hP : BP K' M') (hN : NDR K' M') (k26 : ∀ x, x ≠ s → K'.2 26 x = K.2 26 x) (k30 : ∀ x, x ≠ s → K'.2 30 x = K.2 30 x) (k34 : ∀ x, x ≠ s → K'.2 34 x = K.2 34 x) (k33 : ∀ x i, x ≠ s → 0 ≤ i → i < 8 → K'.2 33 (8 * x + i) = K.2 33 (8 * x + i)) (k35 : K'.2 35 = K.2 35) (k36 : K'.2 36 = K.2 36) (k37 : K'.2 37 = K.2 37) (m23 : M'.1 23 = M.1 23) (m24 : M'.1 24 = M.1 24) (m64 : M'.1 64 = M.1 64) (m37 : M'.2 37 = M.2 37) (m38 : M'.2 38 = M.2 38) (m39 : M'.2 39 = M.2 39) (m41 : ∀ e, e ≠ d → M'.2 41 e = M.2 41 e) (m42 : ∀ e, e ≠ d → M'.2 42 e = M.2 42 e) (m44 : ∀ e, e ≠ d → M'.2 44 e = M.2 44 e) (m45 : ∀ e i, e ≠ d → 0 ≤ i → i < 8 → M'.2 45 (8 * e + i) = M.2 45 (8 * e + i)) (hC : CU s d K' M') : SB s d K' M' := by
  obtain ⟨ne, st, sd⟩ := SB_ne h
  obtain ⟨h1, h2, h3, h4, h5, h6, h7⟩ := h
  refine ⟨hL, hP, hN, ?_, ?_, hC, m64.trans h7⟩
  · unfold SO
    rw [k35, k36, k37, m23, m24, m37, m38, m39]
    refine ⟨fun x x0 x1 => ?_, h4.2⟩
    by_cases e : x = s
    · subst e
      rcases h4.1 x x0 x1 with q | q
      · omega
      · exact Or.inr q
    · rw [k26 x e, k30 x e]
      exact h4.1 x x0 x1
  · rw [m23]
    exact SGd_c h5 (Int.le_refl _) ne (fun x hx _ => k26 x hx) (fun x hx _ => k30 x hx) k34 k33 m39 (fun e he => m41 e (by omega)) (fun e he => m42 e (by omega)) (fun e he => m44 e (by omega)) (fun e i he => m45 e i (by omega))
theorem SB_f {F A G C : List Nat} (h : SB s d K M) (hL : LR K' M') (hK : fr F A K K') (hM : fr G C M M') (c1 : chk [214, 215, 216, 217, 219, 220, 221, 222, 223] F = true) (c2 : chk [10, 11, 12, 13, 14, 18, 19, 26, 30, 33, 34, 35, 36, 37, 39, 40, 41, 42] A = true) (c3 : chk [6, 13, 19, 20, 21, 22, 23, 24, 25, 26, 28, 64] G = true) (c4 : chk [4, 16, 17, 29, 30, 31, 32, 33, 34, 35, 37, 38, 39, 41, 42, 44, 45, 46, 47, 48, 49, 65, 67] C = true) : SB s d K' M' := by
  have h0 := h
  obtain ⟨h1, h2, h3, h4, h5, h6, h7⟩ := h
  have e26 := fr2 hK 26 (chk_1 c2 (by decide))
  have e30 := fr2 hK 30 (chk_1 c2 (by decide))
  have e33 := fr2 hK 33 (chk_1 c2 (by decide))
  have e34 := fr2 hK 34 (chk_1 c2 (by decide))
  have m23 := fr1 hM 23 (chk_1 c3 (by decide))
  have m24 := fr1 hM 24 (chk_1 c3 (by decide))
  have m39 := fr2 hM 39 (chk_1 c4 (by decide))
  have m41 := fr2 hM 41 (chk_1 c4 (by decide))
  have m42 := fr2 hM 42 (chk_1 c4 (by decide))
  have m44 := fr2 hM 44 (chk_1 c4 (by decide))
  have m45 := fr2 hM 45 (chk_1 c4 (by decide))
  refine SB_u h0 hL (BP_f hK hM (chk_s c1 rfl) (chk_s c2 rfl) (chk_s c3 rfl) (chk_s c4 rfl) h2) (NDR_f hK hM (chk_s c1 rfl) (chk_s c2 rfl) (chk_s c3 rfl) (chk_s c4 rfl) h3) (fun _ _ => by rw [e26]) (fun _ _ => by rw [e30]) (fun _ _ => by rw [e34]) (fun _ _ _ _ _ => by rw [e33]) (fr2 hK 35 (chk_1 c2 (by decide))) (fr2 hK 36 (chk_1 c2 (by decide))) (fr2 hK 37 (chk_1 c2 (by decide))) m23 m24 (fr1 hM 64 (chk_1 c3 (by decide))) (fr2 hM 37 (chk_1 c4 (by decide))) (fr2 hM 38 (chk_1 c4 (by decide))) m39 (fun _ _ => by rw [m41]) (fun _ _ => by rw [m42]) (fun _ _ => by rw [m44]) (fun _ _ _ _ _ => by rw [m45]) ?_
  unfold CU
  rw [e26, e30, e33, m23, m24, m39, m41, m42, m45]
  exact h6
/-- a state is named -/
theorem SB_g {a b : Int} (h : SB s d K M) (hg : GG K M a K' b M') : SB s d K' M' := by
  obtain ⟨ne, st, sd⟩ := SB_ne h
  obtain ⟨h1, h2, h3, h4, h5, h6, h7⟩ := h
  obtain ⟨g1, g2, g3, g4, g5, g6, g7, g8, g9⟩ := hg
  obtain ⟨⟨c1, c2⟩, ⟨c3, c4, c5⟩, c6, c7, c8, c9, c10⟩ := h6
  refine ⟨g1, g2, NDR_f g7 g8 rfl rfl rfl rfl h3, g3, ?_, ⟨⟨c1, by omega⟩, ⟨c3, ?_, ?_⟩, ?_, ?_, ?_, ?_, ?_⟩, (fr1 g8 64 rfl).trans h7⟩
  · exact SGd_c (s := s) h5 g5 ne (fun x _ hx => (g6 x hx).1) (fun x _ hx => (g6 x hx).2) (fun _ _ => by rw [fr2 g7 34 rfl]) (fun _ _ _ _ _ => by rw [fr2 g7 33 rfl]) (fr2 g8 39 rfl) (fun _ _ => by rw [fr2 g8 41 rfl]) (fun _ _ => by rw [fr2 g8 42 rfl]) (fun _ _ => by rw [fr2 g8 44 rfl]) (fun _ _ _ _ _ => by rw [fr2 g8 45 rfl])
  · rw [fr1 g8 24 rfl]; exact c4
  · rw [fr2 g8 39 rfl]; exact c5
  · rw [(g6 s c2).1, fr2 g8 41 rfl]; exact c6
  · rw [fr2 g8 41 rfl]; exact c7
  · rw [(g6 s c2).2, fr2 g8 42 rfl]; exact c8
  · rw [fr2 g8 42 rfl]; exact c9
  · rw [fr2 g7 33 rfl, fr2 g8 42 rfl, fr2 g8 45 rfl]
    exact fun i i0 i1 => GL_m (c10 i i0 i1) g5
end SBS
section EXT
variable {K M : mR} {s d : Int}
theorem extract_s {i : Int} (h : SB s d K M) (hi : i = M.2 41 d) (hw : M.1 7 = 305) : RR (kf_rd_extract s i K) (rf_takeExtract d M) (GV (fun _ K2 _ M2 => SB s d K2 M2 ∧ M2.2 41 d = i + 1 ∧ M2.2 42 d = M.2 42 d ∧ M.1 8 + 1 ≤ M2.1 8)) := by
  have h0 := h
  obtain ⟨h1, h2, h3, h4, h5, ⟨⟨c1, c2⟩, ⟨c3, c4, c5⟩, c6, c7, c8, c9, c10⟩, h7⟩ := h
  have hf := h1.2.2.2.2
  have r5 := h2.1.2.2.2.2.2.1
  have r6 := h2.1.2.2.2.2.2.2.1
  have bad : ∀ (X : Option (Int × Int × mR)) (Y : Option (Int × mR)), RP X (fun y => y.1 ≠ 0) → RP Y (fun z => 0 < z.2.1 10) → RR X Y (GV (fun _ K2 _ M2 => SB s d K2 M2 ∧ M2.2 41 d = i + 1 ∧ M2.2 42 d = M.2 42 d ∧ M.1 8 + 1 ≤ M2.1 8)) := fun X Y h1 h2 => RR_w (RR_pr h1 h2) (fun _ _ q => Or.inr q)
  unfold kf_rd_extract rf_takeExtract
  by_cases i6 : i < 6
  · rw [if_pos i6, if_neg (by omega)]
    unfold kfl_rd_extract_21 rfl_takeExtract_20
    rw [if_pos (show M.1 10 ≤ 0 by omega)]
    refine RR_sq (G := fun _ K1 _ M1 => LR K1 M1 ∧ fr kF_tx_advance kA_tx_advance K K1 ∧ fr rF_next rA_next M M1 ∧ M.1 8 + 1 ≤ M1.1 8) (A := fun _ => True) (B := fun _ => True) (adv_s h1 (by omega)) (RP_T _) (RP_T _) (fun z hz => RP_w (u_rfl_takeExtract_32 d z.2) (fun w hw => hw.2 hz)) (fun a K1 b M1 hG _ _ => ?_)
    obtain ⟨g1, g2, g3, g4⟩ := hG
    unfold rfl_takeExtract_32
    dsimp only
    rw [show (301 : Int) = smp 2 from rfl]
    refine RR_sq (G := fun a K2 b M2 => (a = b ∧ ∃ k, 0 ≤ k ∧ k < M1.1 13 ∧ M1.2 16 k = 2 ∧ b = M1.2 17 k) ∧ LR K2 M2 ∧ fr kF_tx_known kA_tx_known K1 K2 ∧ fr rF_oldName rA_oldName M1 M2 ∧ M1.1 8 + 1 ≤ M2.1 8) (A := fun _ => True) (B := fun _ => True) (known_s g1 (s := 2) (by omega) (by omega) (by omega)) (RP_T _) (RP_T _) (fun z hz => RP_w (u_rfl_takeExtract_52 d _ z.1 z.2) (fun w hw => hw.2 hz)) (fun a2 K2 b2 M2 hG _ _ => ?_)
    obtain ⟨-, f1, f2, f3, f4⟩ := hG
    unfold rfl_takeExtract_52
    dsimp only
    rw [cut_i (z := i + 1) (by omega) (by omega)]
    have hL2 : LR (mO K2 [] [(26, upI (K2.2 26) s (i + 1)), (27, upI (K2.2 27) (cut ((cut (s * 6)) + i)) a2)]) (mO M2 [] [(94, upI (M2.2 94) (cut ((cut (6 * d)) + ((M1.2 41) d))) b2)]) := f1
    refine RR_sq (G := fun _ K3 _ M3 => LR K3 M3 ∧ fr kF_tx_expect kA_tx_expect (mO K2 [] [(26, upI (K2.2 26) s (i + 1)), (27, upI (K2.2 27) (cut ((cut (s * 6)) + i)) a2)]) K3 ∧ fr rF_need rA_need (mO M2 [] [(94, upI (M2.2 94) (cut ((cut (6 * d)) + ((M1.2 41) d))) b2)]) M3 ∧ M2.1 8 + 1 ≤ M3.1 8) (A := fun _ => True) (B := fun _ => True) (exp_s hL2 (c := 59) (by omega)) (RP_T _) (RP_T _) (fun z hz => RP_w (u_rfl_takeExtract_59 d z.2) (fun w hw => hw.2 hz)) (fun a3 K3 b3 M3 hG _ _ => ?_)
    obtain ⟨e1, e2, e3, e4⟩ := hG
    unfold rfl_takeExtract_59
    dsimp only
    have m41 : M3.2 41 = M.2 41 := (fr2 e3 41 rfl).trans ((fr2 f3 41 rfl).trans (fr2 g3 41 rfl))
    rw [m41, ← hi, cut_i (z := i + 1) (by omega) (by omega)]
    have fK : fr kF_rd_extract kA_rd_extract K K3 := fr_s e2 (fr_m (fr_s f2 (fr_s g2 fr_0 rfl rfl) rfl rfl) rfl rfl) rfl rfl
    have fM : fr rF_takeExtract rA_takeExtract M (mO M3 [] [(41, upI (M.2 41) d (i + 1))]) := fr_m (fr_s e3 (fr_m (fr_s f3 (fr_s g3 fr_0 rfl rfl) rfl rfl) rfl rfl) rfl rfl) rfl rfl
    have k26 : K3.2 26 = upI (K.2 26) s (i + 1) := by
      have q : K3.2 26 = upI (K2.2 26) s (i + 1) := fr2 e2 26 rfl
      rw [q, fr2 f2 26 rfl, fr2 g2 26 rfl]
    have hL3 : LR K3 (mO M3 [] [(41, upI (M.2 41) d (i + 1))]) := e1
    have n41 : (mO M3 [] [(41, upI (M.2 41) d (i + 1))]).2 41 = upI (M.2 41) d (i + 1) := rfl
    refine RR_some (Or.inl ⟨rfl, SB_u h0 hL3 (BP_f fK fM rfl rfl rfl rfl h2) (NDR_f fK fM rfl rfl rfl rfl h3) (fun x hx => by rw [k26, upI_n hx]) (fun _ _ => by rw [fr2 fK 30 rfl]) (fun _ _ => by rw [fr2 fK 34 rfl]) (fun _ _ _ _ _ => by rw [fr2 fK 33 rfl]) (fr2 fK 35 rfl) (fr2 fK 36 rfl) (fr2 fK 37 rfl) (fr1 fM 23 rfl) (fr1 fM 24 rfl) (fr1 fM 64 rfl) (fr2 fM 37 rfl) (fr2 fM 38 rfl) (fr2 fM 39 rfl) (fun e he => by rw [n41, upI_n he]) (fun _ _ => by rw [fr2 fM 42 rfl]) (fun _ _ => by rw [fr2 fM 44 rfl]) (fun _ _ _ _ _ => by rw [fr2 fM 45 rfl]) ?_, ?_, by show (mO M3 [] [(41, upI (M.2 41) d (i + 1))]).2 42 d = _; rw [fr2 fM 42 rfl], by show M.1 8 + 1 ≤ M3.1 8; omega⟩)
    · unfold CU
      rw [k26, n41, fr2 fK 30 rfl, fr2 fK 33 rfl, fr1 fM 23 rfl, fr1 fM 24 rfl, fr2 fM 39 rfl, fr2 fM 42 rfl, fr2 fM 45 rfl, upI_s, upI_s]
      exact ⟨⟨c1, c2⟩, ⟨c3, c4, c5⟩, rfl, ⟨by omega, by omega⟩, c8, c9, c10⟩
    · show upI (M.2 41) d (i + 1) d = i + 1
      rw [upI_s]
  · rw [if_neg i6, if_pos (by omega)]
    exact bad _ _ (thr_l (A := fun y11 => kfl_rd_extract_21 s i y11.2.2) (fail_1 _ _ _)) (RP_bnd (wrong_1 (by decide)) (fun z hz => RP_w (u_rfl_takeExtract_20 d z.2) (fun w hw => hw.2 hz)))
end EXT
