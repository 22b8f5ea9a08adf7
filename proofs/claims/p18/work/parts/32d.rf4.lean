/-! ===== select ===== -/
section SEL
variable {K M : mR} {s d : Int}
theorem SB_h {F A G C : List Nat} {K' M' : mR} (h : SB s d K M) (hL : LR K' M') (hP : BP K' M') (hN : NDR K' M') (hK : fr F A K K') (hM : fr G C M M') (c2 : chk [26, 30, 33, 34, 35, 36, 37] A = true) (c3 : chk [23, 24, 64] G = true) (c4 : chk [37, 38, 39, 41, 42, 44, 45] C = true) : SB s d K' M' := by
  have h0 := h
  obtain ⟨h1, h2, h3, h4, h5, h6, h7⟩ := h
  have e26 := fr2 hK 26 (chk_1 c2 (by decide))
  have e30 := fr2 hK 30 (chk_1 c2 (by decide))
  have e33 := fr2 hK 33 (chk_1 c2 (by decide))
  have e34 := fr2 hK 34 (chk_1 c2 (by decide))
  have m23 := fr1 hM 23 (chk_1 c3 (by decide))
  have m24 := fr1 hM 24 (chk_1 c3 (by decide))
  have m39 := fr2 hM 39 (chk_1 c4 (by decide))
  have m41 := fr2 hM 41 (chk_1 c4 (by decide))
  have m42 := fr2 hM 42 (chk_1 c4 (by decide))
  have m44 := fr2 hM 44 (chk_1 c4 (by decide))
  have m45 := fr2 hM 45 (chk_1 c4 (by decide))
  refine SB_u h0 hL hP hN (fun _ _ => by rw [e26]) (fun _ _ => by rw [e30]) (fun _ _ => by rw [e34]) (fun _ _ _ _ _ => by rw [e33]) (fr2 hK 35 (chk_1 c2 (by decide))) (fr2 hK 36 (chk_1 c2 (by decide))) (fr2 hK 37 (chk_1 c2 (by decide))) m23 m24 (fr1 hM 64 (chk_1 c3 (by decide))) (fr2 hM 37 (chk_1 c4 (by decide))) (fr2 hM 38 (chk_1 c4 (by decide))) m39 (fun _ _ => by rw [m41]) (fun _ _ => by rw [m42]) (fun _ _ => by rw [m44]) (fun _ _ _ _ _ => by rw [m45]) ?_
  unfold CU
  rw [e26, e30, e33, m23, m24, m39, m41, m42, m45]
  exact h6
/-- an EXPR, then both go on -/
theorem RR_sx {X : Option (Int × Int × mR)} {Y : Option (Int × mR)} {P : Int → mR → mR → Prop} {G' : Int → mR → Int → mR → Prop} {A B : mR → Prop} {k1 : Int × Int × mR → Option (Int × Int × mR)} {l : Int × mR → Option (Int × mR)} (h : RR X Y (XV P)) (u1 : RP X (fun y => A y.2.2)) (u2 : RP Y (fun z => B z.2)) (hs : ∀ z : Int × mR, 0 < z.2.1 10 → RP (l z) (fun w => 0 < w.2.1 10)) (hd : ∀ a K1, DM K1 → RP (k1 (0, a, K1)) (fun w => w.1 ≠ 0)) (g : ∀ a K1 b M1, P a K1 M1 → A K1 → B M1 → RR (k1 (0, a, K1)) (l (b, M1)) (GV G')) : RR (bnd X fun y => if y.1 = 0 then k1 y else some (y.1, 0, y.2.2)) (bnd Y l) (GV G') := by
  intro x w hx hw
  cases hX : X with
  | none => rw [hX] at hx; cases hx
  | some y =>
    cases hY : Y with
    | none => rw [hY] at hw; cases hw
    | some z =>
      rw [hX, bnd_some] at hx
      rw [hY, bnd_some] at hw
      obtain ⟨t, a, K1⟩ := y
      obtain ⟨b, M1⟩ := z
      rcases h _ _ hX hY with ⟨h1, h2⟩ | ⟨h1, h2⟩
      · have h1 : t = 0 := h1
        subst h1
        have hx : (if (0 : Int) = 0 then k1 (0, a, K1) else some (0, 0, K1)) = some x := hx
        rw [if_pos rfl] at hx
        exact g a K1 b M1 h2 (u1 _ hX) (u2 _ hY) x w hx hw
      · have hx : (if t = 0 then k1 (t, a, K1) else some (t, 0, K1)) = some x := hx
        rcases h2 with h2 | ⟨h2, h3⟩
        · have h2 : ¬ t = 0 := h2
          rw [if_neg h2] at hx
          cases hx
          exact Or.inr ⟨h2, hs _ h1 w hw⟩
        · have h2 : t = 0 := h2
          subst h2
          rw [if_pos rfl] at hx
          exact Or.inr ⟨hd a K1 h3 x hx, hs _ h1 w hw⟩
def CS (s d : Int) (K M : mR) (K2 M2 : mR) : Prop := SB s d K2 M2 ∧ M2.2 42 d = M.2 42 d + 1 ∧ M2.2 43 = M.2 43 ∧ K2.2 22 = K.2 22 ∧ M.1 8 + 1 ≤ M2.1 8
theorem cs_tail (h : SB s d K M) (h8 : M.2 42 d < 8) : RR (kfl_rd_selectCase_92 s (M.2 42 d) (8 * s + M.2 42 d) K) (rfl_takeCase_101 d (8 * d + M.2 42 d) M) (GV (fun _ K2 _ M2 => CS s d K M K2 M2)) := by
  have h0 := h
  obtain ⟨h1, h2, h3, h4, h5, ⟨⟨c1, c2⟩, ⟨c3, c4, c5⟩, c6, c7, c8, c9, c10⟩, h7⟩ := h
  have r5 := h2.1.2.2.2.2.2.1
  unfold kfl_rd_selectCase_92 rfl_takeCase_101
  refine RR_sq (G := fun _ K1 _ M1 => LR K1 M1 ∧ fr kF_tx_expect kA_tx_expect K K1 ∧ fr rF_need rA_need M M1 ∧ M.1 8 + 1 ≤ M1.1 8) (A := fun _ => True) (B := fun _ => True) (exp_s h1 (c := 58) (by omega)) (RP_T _) (RP_T _) (fun z hz => RP_w (u_rfl_takeCase_107 d _ z.2) (fun w hw => hw.2 hz)) (fun a K1 b M1 hG _ _ => ?_)
  obtain ⟨g1, g2, g3, g4⟩ := hG
  have hB1 : SB s d K1 M1 := SB_f h0 g1 g2 g3 rfl rfl rfl rfl
  unfold rfl_takeCase_107
  dsimp only
  refine RR_sq (A := fun _ => True) (B := fun _ => True) (goal_s g1 hB1.2.1 hB1.2.2.2.1) (RP_T _) (RP_T _) (fun z hz => RP_w (u_rfl_takeCase_116 d _ z.1 z.2) (fun w hw => hw.2 hz)) (fun a2 K2 b2 M2 hG _ _ => ?_)
  have hB2 := SB_g hB1 hG
  obtain ⟨f1, f2, f3, f4, f5, f6, f7, f8, f9⟩ := hG
  unfold rfl_takeCase_116
  dsimp only
  rw [cut_i (z := M.2 42 d + 1) (by omega) (by omega)]
  have hL2 : LR (mO K2 [] [(30, upI (K2.2 30) s (M.2 42 d + 1)), (33, upI (K2.2 33) (8 * s + M.2 42 d) a2)]) (mO M2 [] [(45, upI (M2.2 45) (8 * d + M.2 42 d) b2)]) := f1
  refine RR_sq (G := fun _ K3 _ M3 => LR K3 M3 ∧ fr kF_tx_expect kA_tx_expect (mO K2 [] [(30, upI (K2.2 30) s (M.2 42 d + 1)), (33, upI (K2.2 33) (8 * s + M.2 42 d) a2)]) K3 ∧ fr rF_need rA_need (mO M2 [] [(45, upI (M2.2 45) (8 * d + M.2 42 d) b2)]) M3 ∧ M2.1 8 + 1 ≤ M3.1 8) (A := fun _ => True) (B := fun _ => True) (exp_s hL2 (c := 59) (by omega)) (RP_T _) (RP_T _) (fun z hz => RP_w (u_rfl_takeCase_123 d z.2) (fun w hw => hw.2 hz)) (fun a3 K3 b3 M3 hG _ _ => ?_)
  obtain ⟨e1, e2, e3, e4⟩ := hG
  unfold rfl_takeCase_123
  dsimp only
  have m42 : M3.2 42 = M.2 42 := (fr2 e3 42 rfl).trans ((fr2 f8 42 rfl).trans (fr2 g3 42 rfl))
  rw [m42, cut_i (z := M.2 42 d + 1) (by omega) (by omega)]
  have fK : fr kF_tx_expect [30, 33] K2 K3 := fr_s e2 (fr_m fr_0 rfl rfl) rfl rfl
  have fM : fr rF_need [42, 45] M2 (mO M3 [] [(42, upI (M.2 42) d (M.2 42 d + 1))]) := fr_m (fr_s e3 (fr_m fr_0 rfl rfl) rfl rfl) rfl rfl
  have k30 : K3.2 30 = upI (K2.2 30) s (M.2 42 d + 1) := fr2 e2 30 rfl
  have k33 : K3.2 33 = upI (K2.2 33) (8 * s + M.2 42 d) a2 := fr2 e2 33 rfl
  have m45 : (mO M3 [] [(42, upI (M.2 42) d (M.2 42 d + 1))]).2 45 = upI (M2.2 45) (8 * d + M.2 42 d) b2 := fr2 e3 45 rfl
  have n42 : (mO M3 [] [(42, upI (M.2 42) d (M.2 42 d + 1))]).2 42 = upI (M.2 42) d (M.2 42 d + 1) := rfl
  have hL3 : LR K3 (mO M3 [] [(42, upI (M.2 42) d (M.2 42 d + 1))]) := e1
  have m42' : M2.2 42 = M.2 42 := (fr2 f8 42 rfl).trans (fr2 g3 42 rfl)
  have hC2 := hB2.2.2.2.2.2.1
  obtain ⟨⟨x1, x2⟩, ⟨x3, x4, x5⟩, x6, x7, x8, x9, x10⟩ := hC2
  rw [m42'] at x8 x9 x10
  refine RR_some (Or.inl ⟨rfl, SB_u hB2 hL3 (BP_f fK fM rfl rfl rfl rfl hB2.2.1) (NDR_f fK fM rfl rfl rfl rfl hB2.2.2.1) (fun _ _ => by rw [fr2 fK 26 rfl]) (fun x hx => by rw [k30, upI_n hx]) (fun _ _ => by rw [fr2 fK 34 rfl]) (fun x i hx i0 i1 => by rw [k33, upI_n (by omega)]) (fr2 fK 35 rfl) (fr2 fK 36 rfl) (fr2 fK 37 rfl) (fr1 fM 23 rfl) (fr1 fM 24 rfl) (fr1 fM 64 rfl) (fr2 fM 37 rfl) (fr2 fM 38 rfl) (fr2 fM 39 rfl) (fun _ _ => by rw [fr2 fM 41 rfl]) (fun e he => by rw [n42, upI_n he, m42']) (fun _ _ => by rw [fr2 fM 44 rfl]) (fun e i he i0 i1 => by rw [m45, upI_n (by omega)]) ?_, ?_, ?_, ?_, by show M.1 8 + 1 ≤ M3.1 8; omega⟩)
  · unfold CU
    rw [fr2 fK 26 rfl, k30, k33, fr1 fM 23 rfl, fr1 fM 24 rfl, fr2 fM 39 rfl, fr2 fM 41 rfl, n42, m45, upI_s, upI_s]
    refine ⟨⟨x1, x2⟩, ⟨x3, x4, x5⟩, x6, x7, rfl, ⟨by omega, by omega⟩, fun i i0 i1 => ?_⟩
    by_cases e : i = M.2 42 d
    · subst e
      rw [upI_s, upI_s]
      exact f4
    · rw [upI_n (by omega), upI_n (by omega)]
      exact x10 i i0 (by omega)
  · show upI (M.2 42) d (M.2 42 d + 1) d = _
    rw [upI_s]
  · show M3.2 43 = _
    rw [fr2 e3 43 rfl]
    show M2.2 43 = _
    rw [fr2 f8 43 rfl, fr2 g3 43 rfl]
  · rw [fr2 fK 22 rfl, fr2 f7 22 rfl, fr2 g2 22 rfl]
theorem selectCase_s {c w : Int} (h : SB s d K M) (hc : c = M.2 42 d) (hw : w = M.2 43 d) (w0 : 1 ≤ w) (w1 : w ≤ 64) : RR (kf_rd_selectCase s c w K) (rf_takeCase d M) (GV (fun _ K2 _ M2 => CS s d K M K2 M2)) := by
  have h0 := h
  obtain ⟨h1, h2, h3, h4, h5, ⟨⟨c1, c2⟩, ⟨c3, c4, c5⟩, c6, c7, c8, c9, c10⟩, h7⟩ := h
  have hf := h1.2.2.2.2
  have r5 := h2.1.2.2.2.2.2.1
  have r6 := h2.1.2.2.2.2.2.2.1
  have bad : ∀ (X : Option (Int × Int × mR)) (Y : Option (Int × mR)), RP X (fun y => y.1 ≠ 0) → RP Y (fun z => 0 < z.2.1 10) → RR X Y (GV (fun _ K2 _ M2 => CS s d K M K2 M2)) := fun X Y h1 h2 => RR_w (RR_pr h1 h2) (fun _ _ q => Or.inr q)
  unfold kf_rd_selectCase rf_takeCase
  by_cases i8 : c < 8
  · rw [if_pos i8, if_neg (by omega)]
    unfold kfl_rd_selectCase_21 rfl_takeCase_20
    rw [if_pos (show M.1 10 ≤ 0 by omega), ← hw, cut_i (z := s * 8) (by omega) (by omega), cut_i (z := s * 8 + c) (by omega) (by omega), cut_i (z := 8 * d) (by omega) (by omega), cut_i (z := 8 * d + M.2 42 d) (by omega) (by omega), show s * 8 + c = 8 * s + M.2 42 d by omega]
    refine RR_sq (G := fun a K1 b M1 => a = b ∧ LR K1 M1 ∧ fr kF_rd_fittingNumber kA_rd_fittingNumber K K1 ∧ fr rF_caseNumber rA_caseNumber M M1 ∧ M.1 8 + 1 ≤ M1.1 8) (A := fun _ => True) (B := fun _ => True) (fitn_s h1 w0 w1) (RP_T _) (RP_T _) (fun z hz => RP_w (u_rfl_takeCase_55 d _ _ z.1 z.2) (fun w hw => hw.2 hz)) (fun a K1 b M1 hG _ _ => ?_)
    obtain ⟨-, g1, g2, g3, g4⟩ := hG
    have hX := g1.2.1
    refine RR_l (RP_T _) (fun o _ => ?_)
    unfold rfl_takeCase_55
    dsimp only
    rw [if_pos g1.2.2.2.2, hX.1]
    -- the tail with what was put
    have tl : ∀ (K2 M2 : mR) (F G : List Nat), LR K2 M2 → fr F [31, 32] K K2 → fr G [97, 98] M M2 → chk [214, 215, 216, 217, 219, 220, 221, 222, 223] F = true → chk [6, 13, 19, 20, 21, 22, 23, 24, 25, 26, 28, 64] G = true → M.1 8 ≤ M2.1 8 → RR (kfl_rd_selectCase_92 s c (8 * s + M.2 42 d) K2) (rfl_takeCase_101 d (8 * d + M.2 42 d) M2) (GV (fun _ K2 _ M2 => CS s d K M K2 M2)) := by
      intro K2 M2 F G hL fK fM cF cG h8
      have m42 : M2.2 42 = M.2 42 := fr2 fM 42 rfl
      have r := cs_tail (SB_f h0 hL fK fM cF rfl cG rfl) (by rw [m42]; omega)
      rw [m42] at r
      rw [hc]
      refine RR_w r (fun y z q => ?_)
      rcases q with ⟨q0, q1, q2, q3, q4, q5⟩ | q
      · rw [m42] at q2
        rw [fr2 fM 43 rfl] at q3
        rw [fr2 fK 22 rfl] at q4
        exact Or.inl ⟨q0, q1, q2, q3, q4, by omega⟩
      · exact Or.inr q
    refine RR_ii (wm_big hX.2.1 (by omega)) (fun _ w38 => ?_) (fun _ w38 => ?_)
    · have hL2 : LR (mO K1 [] [(31, upI (K1.2 31) (8 * s + M.2 42 d) a), (32, upI (K1.2 32) (8 * s + M.2 42 d) o)]) (mO M1 [] [(97, upI (M1.2 97) (8 * d + M.2 42 d) b), (98, upI (M1.2 98) (8 * d + M.2 42 d) (-1))]) := g1
      refine RR_sq (G := fun _ K3 _ M3 => LR K3 M3 ∧ fr kF_tx_advance kA_tx_advance (mO K1 [] [(31, upI (K1.2 31) (8 * s + M.2 42 d) a), (32, upI (K1.2 32) (8 * s + M.2 42 d) o)]) K3 ∧ fr rF_next rA_next (mO M1 [] [(97, upI (M1.2 97) (8 * d + M.2 42 d) b), (98, upI (M1.2 98) (8 * d + M.2 42 d) (-1))]) M3 ∧ M1.1 8 + 1 ≤ M3.1 8) (A := fun _ => True) (B := fun _ => True) (adv_s hL2 (show M1.1 7 ≠ 0 by omega)) (RP_T _) (RP_T _) (fun z hz => RP_w (u_rfl_takeCase_85 d _ z.2) (fun w hw => hw.2 hz)) (fun a3 K3 b3 M3 hG _ _ => ?_)
      obtain ⟨e1, e2, e3, e4⟩ := hG
      unfold rfl_takeCase_85
      dsimp only
      have m43 : M3.2 43 d = w := by
        rw [fr2 e3 43 rfl]
        show M1.2 43 d = w
        rw [fr2 g3 43 rfl]
        exact hw.symm
      rw [m43]
      refine RR_sq (G := fun a K1 b M1 => a = b ∧ LR K1 M1 ∧ fr kF_rd_fittingNumber kA_rd_fittingNumber K3 K1 ∧ fr rF_caseNumber rA_caseNumber M3 M1 ∧ M3.1 8 + 1 ≤ M1.1 8) (A := fun _ => True) (B := fun _ => True) (fitn_s e1 w0 w1) (RP_T _) (RP_T _) (fun z hz => RP_w (u_rfl_takeCase_100 d _ _ z.1 z.2) (fun w hw => hw.2 hz)) (fun a4 K4 b4 M4 hG _ _ => ?_)
      obtain ⟨-, d1, d2, d3, d4⟩ := hG
      unfold rfl_takeCase_100
      dsimp only
      have hL4 : LR (mO K4 [] [(32, upI (K4.2 32) (8 * s + M.2 42 d) a4)]) (mO M4 [] [(98, upI (M4.2 98) (8 * d + M.2 42 d) b4)]) := d1
      exact tl _ _ kF_rd_fittingNumber rF_caseNumber hL4 (fr_m (fr_s d2 (fr_s e2 (fr_m (fr_s g2 fr_0 rfl rfl) rfl rfl) rfl rfl) rfl rfl) rfl rfl) (fr_m (fr_s d3 (fr_s e3 (fr_m (fr_s g3 fr_0 rfl rfl) rfl rfl) rfl rfl) rfl rfl) rfl rfl) rfl rfl (by show M.1 8 ≤ M4.1 8; omega)
    · have hL2 : LR (mO K1 [] [(31, upI (K1.2 31) (8 * s + M.2 42 d) a), (32, upI (K1.2 32) (8 * s + M.2 42 d) o)]) (mO M1 [] [(97, upI (M1.2 97) (8 * d + M.2 42 d) b), (98, upI (M1.2 98) (8 * d + M.2 42 d) (-1))]) := g1
      exact tl _ _ kF_rd_fittingNumber rF_caseNumber hL2 (fr_m (fr_s g2 fr_0 rfl rfl) rfl rfl) (fr_m (fr_s g3 fr_0 rfl rfl) rfl rfl) rfl rfl (by show M.1 8 ≤ M1.1 8; omega)
  · rw [if_neg i8, if_pos (by omega)]
    exact bad _ _ (thr_l (A := fun y24 => kfl_rd_selectCase_21 s c w y24.2.2) (fail_1 _ _ _)) (RP_bnd (wrong_1 (by decide)) (fun z hz => RP_w (u_rfl_takeCase_20 d z.2) (fun w hw => hw.2 hz)))
end SEL
