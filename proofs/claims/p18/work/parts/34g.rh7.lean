/-! ===== tables: the room ===== -/
section RO7
variable {K M : mR} {t : Int}
def TW (t : Int) (K M : mR) : Prop := XP K M ∧ M.1 64 = -1 ∧ (0 ≤ t ∧ t + 1 = M.1 26) ∧ TBn (t + 1) K M
theorem TD_f {F A G C : List Nat} {K' M' : mR} (h : TD t K M) (hL : LR K' M') (hK : fr F A K K') (hM : fr G C M M') (c1 : chk [214, 215, 216, 217, 219, 220, 221, 222, 223] F = true) (c2 : chk [10, 11, 12, 13, 14, 15, 16, 18, 19, 39, 40, 41, 42, 72, 73, 74, 75, 76, 77, 79, 80, 81, 82, 83] A = true) (c3 : chk [6, 13, 19, 20, 21, 22, 23, 24, 25, 26, 28, 64] G = true) (c4 : chk [4, 16, 17, 29, 30, 31, 32, 33, 34, 35, 36, 46, 47, 48, 49, 51, 52, 53, 54, 55, 56, 57, 58, 65, 67, 93, 110, 111, 112, 113, 114] C = true) : TD t K' M' := by
  obtain ⟨h1, h2, h3, h4⟩ := h
  refine ⟨TY_f h1 hL hK hM c1 c2 c3 c4, ?_⟩
  rw [fr2 hK 74 (chk_1 c2 (by decide)), fr2 hM 57 (chk_1 c4 (by decide)), fr1 hM 25 (chk_1 c3 (by decide))]
  exact ⟨h2, h3, h4⟩
theorem TW_i {K' M' : mR} (h : TD t K M) (hL : LR K' M') (fK : fr kF_tx_within [75, 76, 77] K K') (fM : fr rF_number [54, 55, 56] M M') (hne : ∀ b, b ≠ t → K'.2 75 b = K.2 75 b ∧ K'.2 76 b = K.2 76 b ∧ K'.2 77 b = K.2 77 b ∧ M'.2 54 b = M.2 54 b ∧ M'.2 55 b = M.2 55 b ∧ M'.2 56 b = M.2 56 b) (h5 : K'.2 75 t = M'.2 54 t ∧ 1 ≤ M'.2 54 t ∧ M'.2 54 t ≤ 32) (h6 : K'.2 76 t = M'.2 55 t ∧ 0 ≤ M'.2 55 t ∧ M'.2 55 t ≤ 4) (h7 : K'.2 77 t = M'.2 56 t ∧ 0 ≤ M'.2 56 t ∧ M'.2 56 t ≤ 8) : TW t K' M' := by
  obtain ⟨⟨u1, u2, u3, u4, u5, u6, u7⟩, d1, d2, d3⟩ := h
  refine ⟨XP_f u1 hL fK fM rfl rfl rfl rfl, (fr1 fM 64 rfl).trans u2, by rw [fr1 fM 26 rfl]; exact u3, fun b b0 b1 => ?_⟩
  rw [fr1 fM 25 rfl]
  by_cases e : b = t
  · subst e
    refine ⟨TK_f u5 fK fM rfl rfl, TL_f u7 fK fM rfl rfl, TE_f u6 fM rfl, ?_, h5, h6, h7⟩
    rw [fr2 fK 74 rfl, fr2 fM 57 rfl]
    exact ⟨d1, d2, d3⟩
  · obtain ⟨n1, n2, n3, n4, n5, n6⟩ := hne b e
    refine TB1_c (u4 b b0 (by omega)) ⟨⟨?_, ?_, ?_, n1, n2, n3⟩, fun j j0 j1 => ⟨?_, ?_, ?_, ?_, ?_⟩, ⟨?_, ?_, ?_, n4, n5, n6, ?_, ?_⟩, fun j j0 j1 => ⟨?_, ?_, ?_, ?_⟩, fun j j0 j1 => ?_⟩
    · rw [fr2 fK 72 rfl]
    · rw [fr2 fK 73 rfl]
    · rw [fr2 fK 74 rfl]
    · rw [fr2 fK 79 rfl]
    · rw [fr2 fK 80 rfl]
    · rw [fr2 fK 81 rfl]
    · rw [fr2 fK 82 rfl]
    · rw [fr2 fK 83 rfl]
    · rw [fr2 fM 51 rfl]
    · rw [fr2 fM 52 rfl]
    · rw [fr2 fM 53 rfl]
    · rw [fr2 fM 57 rfl]
    · rw [fr2 fM 58 rfl]
    · rw [fr2 fM 110 rfl]
    · rw [fr2 fM 111 rfl]
    · rw [fr2 fM 112 rfl]
    · rw [fr2 fM 113 rfl]
    · rw [fr2 fM 114 rfl]
def TG (t x : Int) : Int → mR → Int → mR → Prop := fun _ K2 _ M2 => TW t K2 M2 ∧ x ≤ M2.1 8
theorem pw2 : ∀ n : Nat, n < 17 → (n = 0 ∨ n = 1 ∨ n = 2 ∨ n = 4 ∨ n = 8 ∨ n = 16 ∨ ¬ cmp64 (and64 (n : Int) (cutl ((n : Int) - 1))) 0 = 0) := by decide +kernel
theorem k72_0 {pl : Int} : RP (kfl_rd_roomLine_72 t 1 pl 1 0 K) (fun y => y.1 ≠ 0) := by
  unfold kfl_rd_roomLine_72
  rw [if_neg (by decide), if_neg (by decide), if_pos rfl]
  exact thr_l (A := fun y => kfl_rd_roomLine_97 t 1 y.2.2) (fail_1 _ _ _)
theorem k72_1 {pl : Int} : kfl_rd_roomLine_72 t 1 pl 1 1 K = kfl_rd_roomLine_114 t 1 t 1 16 K := by
  unfold kfl_rd_roomLine_72 kfl_rd_roomLine_97
  rw [if_neg (by decide), if_neg (by decide), if_neg (by decide), if_neg (by decide)]
theorem k72_2 {pl u0 : Int} : kfl_rd_roomLine_72 t 1 pl 0 u0 K = kfl_rd_roomLine_114 t 1 t 1 16 K := by
  unfold kfl_rd_roomLine_72 kfl_rd_roomLine_97
  rw [if_pos rfl, if_neg (by decide)]
theorem k72_3 {pl a u0 : Int} : kfl_rd_roomLine_72 t 0 pl a u0 K = kfl_rd_roomLine_114 t 0 t 1 32 K := by
  unfold kfl_rd_roomLine_72 kfl_rd_roomLine_97
  rw [if_pos (show (0 : Int) = 0 from rfl), if_pos (show (0 : Int) = 0 from rfl)]
  by_cases e : a = 0
  · rw [if_pos e]
  · rw [if_neg e]
theorem k31_0 {pl a : Int} : kfl_rd_roomLine_31 t 0 pl a K = kfl_rd_roomLine_114 t 0 t 1 32 K := by
  unfold kfl_rd_roomLine_31 kfl_rd_roomLine_71
  rw [k72_3, k72_3]
  by_cases e : cmp64 (K.1 208) 0 ≤ 0
  · rw [if_pos e]
  · rw [if_neg e]
    by_cases e2 : cmp64 (and64 (K.1 208) (cutl ((K.1 208) - 1))) 0 = 0
    · rw [if_pos e2]
    · rw [if_neg e2]
theorem k31_2 {pl : Int} : kfl_rd_roomLine_31 t 1 pl 0 K = kfl_rd_roomLine_114 t 1 t 1 16 K := by
  unfold kfl_rd_roomLine_31 kfl_rd_roomLine_71
  rw [k72_2, k72_2]
  by_cases e : cmp64 (K.1 208) 0 ≤ 0
  · rw [if_pos e]
  · rw [if_neg e]
    by_cases e2 : cmp64 (and64 (K.1 208) (cutl ((K.1 208) - 1))) 0 = 0
    · rw [if_pos e2]
    · rw [if_neg e2]
theorem within_bad {a b : Int} (h : K.1 206 = 257) (hv : ¬ (a ≤ K.1 208 ∧ K.1 208 ≤ b)) : RP (kf_tx_within a b K) (fun y => y.1 ≠ 0) := by
  have bad : RP (kfl_tx_within_34 K) (fun y => y.1 ≠ 0) := by
    unfold kfl_tx_within_34
    exact thr_l (A := fun y => kfl_tx_within_43 y.2.2) (fail_1 _ _ _)
  unfold kf_tx_within kfl_tx_within_14
  rw [if_pos h]
  refine RP_ite (fun _ => bad) (fun l1 => RP_ite (fun l2 => ?_) (fun _ => bad))
  exact absurd ⟨by have : ¬ K.1 208 < a := fun q => l1 (cmp64_lt.mpr q); omega, cmp64_le.mp l2⟩ hv
theorem hit5 {A B : Option (Int × mR)} {v : Int} (h : v = 1 ∨ v = 2 ∨ v = 4 ∨ v = 8 ∨ v = 16) : (if cmp64 v 1 = 0 then A else if cmp64 v 2 = 0 then A else if cmp64 v 4 = 0 then A else if cmp64 v 8 = 0 then A else if cmp64 v 16 = 0 then A else B) = A := by
  rcases h with h | h | h | h | h <;> subst h <;> rfl
theorem hit5n {A B : Option (Int × mR)} {v : Int} (h : ¬ (v = 1 ∨ v = 2 ∨ v = 4 ∨ v = 8 ∨ v = 16)) : (if cmp64 v 1 = 0 then A else if cmp64 v 2 = 0 then A else if cmp64 v 4 = 0 then A else if cmp64 v 8 = 0 then A else if cmp64 v 16 = 0 then A else B) = B := by
  rw [if_neg (fun q => h (Or.inl (cmp64_0.mp q))), if_neg (fun q => h (Or.inr (Or.inl (cmp64_0.mp q)))), if_neg (fun q => h (Or.inr (Or.inr (Or.inl (cmp64_0.mp q))))), if_neg (fun q => h (Or.inr (Or.inr (Or.inr (Or.inl (cmp64_0.mp q)))))), if_neg (fun q => h (Or.inr (Or.inr (Or.inr (Or.inr (cmp64_0.mp q))))))]
theorem room_s {x : Int} (h : TD t K M) (z76 : K.2 76 t = 0) (z77 : K.2 77 t = 0) (hx : x ≤ M.1 8) : RR (kf_rd_roomLine t K) (rfl_takeRoom_7 t M) (GV (TG t x)) := by
  have h0 := h
  obtain ⟨⟨hXP, h64, ⟨t0, t1⟩, hTB, hTK, hTE, hTL⟩, -⟩ := h
  have hX := hXP.1.2.1
  have hf := hXP.1.2.2.2.2
  have bad : ∀ (X : Option (Int × Int × mR)) (Y : Option (Int × mR)), RP X (fun y => y.1 ≠ 0) → RP Y (fun z => 0 < z.2.1 10) → RR X Y (GV (TG t x)) := fun X Y h1 h2 => RR_w (RR_pr h1 h2) (fun _ _ q => Or.inr q)
  -- the number, then the rest
  have num : ∀ (hs w2 : Int), ((hs = 1 ∧ w2 = 16) ∨ (hs = 0 ∧ w2 = 32)) → M.2 58 t = hs → RR (kfl_rd_roomLine_114 t hs t 1 w2 K) (bnd (rf_number 1 w2 M) fun y17 => rfl_takeRoom_105 t t y17.1 y17.2) (GV (TG t x)) := by
    intro hs w2 hw m58
    unfold kfl_rd_roomLine_114
    refine RR_sq (G := fun a K2 b M2 => (a = b ∧ 1 ≤ a ∧ a ≤ w2) ∧ LR K2 M2 ∧ fr kF_tx_within kA_tx_within K K2 ∧ fr rF_number rA_number M M2 ∧ M.1 8 + 1 ≤ M2.1 8) (A := fun _ => True) (B := fun _ => True) (num_s hXP.1 ⟨by omega, by omega⟩) (RP_T _) (RP_T _) (fun z hz => RP_w (u_rfl_takeRoom_105 t t z.1 z.2) (fun w hw => hw.2 hz)) (fun a K1 b M1 hG _ _ => ?_)
    obtain ⟨⟨ab, a1, a2⟩, g1, g2, g3, g4⟩ := hG
    subst ab
    unfold rfl_takeRoom_105
    dsimp only
    rw [fr2 g3 58 rfl, m58]
    have eL : ∃ L, L = mO K1 [] [(75, upI (K1.2 75) t a)] := ⟨_, rfl⟩
    obtain ⟨L, eL⟩ := eL
    have eN : ∃ N, N = mO M1 [] [(54, upI (M1.2 54) t a), (55, upI (M1.2 55) t 0), (56, upI (M1.2 56) t 0)] := ⟨_, rfl⟩
    obtain ⟨N, eN⟩ := eN
    rw [← eL, ← eN]
    have fL : fr kF_tx_within [75, 76, 77] K L := by rw [eL]; exact fr_m (fr_s g2 fr_0 rfl rfl) rfl rfl
    have fN : fr rF_number [54, 55, 56] M N := by rw [eN]; exact fr_m (fr_s g3 fr_0 rfl rfl) rfl rfl
    have l75 : L.2 75 = upI (K.2 75) t a := by rw [eL, ← fr2 g2 75 rfl]; rfl
    have l76 : L.2 76 = K.2 76 := by rw [eL, ← fr2 g2 76 rfl]; rfl
    have l77 : L.2 77 = K.2 77 := by rw [eL, ← fr2 g2 77 rfl]; rfl
    have n54 : N.2 54 = upI (M.2 54) t a := by rw [eN, ← fr2 g3 54 rfl]; rfl
    have n55 : N.2 55 = upI (M.2 55) t 0 := by rw [eN, ← fr2 g3 55 rfl]; rfl
    have n56 : N.2 56 = upI (M.2 56) t 0 := by rw [eN, ← fr2 g3 56 rfl]; rfl
    have hLN : LR L N := by rw [eL, eN]; exact g1
    have n8 : M.1 8 + 1 ≤ N.1 8 := by rw [eN]; exact g4
    clear eL eN g1 g2 g3 g4
    -- the end of the line
    have fin : ∀ L2 N2 p q, LR L2 N2 → fr kF_tx_within [75, 76, 77] K L2 → fr rF_number [54, 55, 56] M N2 → L2.2 75 = upI (K.2 75) t a → N2.2 54 = upI (M.2 54) t a → (∀ b, b ≠ t → L2.2 76 b = K.2 76 b ∧ L2.2 77 b = K.2 77 b ∧ N2.2 55 b = M.2 55 b ∧ N2.2 56 b = M.2 56 b) → L2.2 76 t = p → N2.2 55 t = p → 0 ≤ p → p ≤ 4 → L2.2 77 t = q → N2.2 56 t = q → 0 ≤ q → q ≤ 8 → M.1 8 + 1 ≤ N2.1 8 → RR (kfl_rd_roomLine_171 L2) (rfl_takeRoom_168 N2) (GV (TG t x)) := by
      intro L2 N2 p q h1 h2 h3 h4 h5 h6 h7 h8 p0 p4 h9 h10 q0 q8 hn
      unfold kfl_rd_roomLine_171 rfl_takeRoom_168
      refine RR_sq (G := fun _ K2 _ M2 => LR K2 M2 ∧ fr kF_tx_expect kA_tx_expect L2 K2 ∧ fr rF_need rA_need N2 M2 ∧ N2.1 8 + 1 ≤ M2.1 8) (A := fun _ => True) (B := fun _ => True) (exp_s h1 (c := 59) (by omega)) (RP_T _) (RP_T _) (fun z hz => RP_some hz) (fun _ K2 _ M2 hG _ _ => ?_)
      obtain ⟨f1, f2, f3, f4⟩ := hG
      refine RR_some (Or.inl ⟨rfl, TW_i h0 f1 (fr_s f2 h2 rfl rfl) (fr_s f3 h3 rfl rfl) (fun b hb => ?_) ⟨?_, ?_, ?_⟩ ⟨?_, ?_, ?_⟩ ⟨?_, ?_, ?_⟩, by show x ≤ M2.1 8; omega⟩)
      · obtain ⟨b1, b2, b3, b4⟩ := h6 b hb
        rw [fr2 f2 75 rfl, fr2 f2 76 rfl, fr2 f2 77 rfl, fr2 f3 54 rfl, fr2 f3 55 rfl, fr2 f3 56 rfl, h4, h5, upI_n hb, upI_n hb]
        exact ⟨rfl, b1, b2, rfl, b3, b4⟩
      · rw [fr2 f2 75 rfl, fr2 f3 54 rfl, h4, h5, upI_s, upI_s]
      · rw [fr2 f3 54 rfl, h5, upI_s]; exact a1
      · rw [fr2 f3 54 rfl, h5, upI_s]; omega
      · rw [fr2 f2 76 rfl, fr2 f3 55 rfl, h7, h8]
      · rw [fr2 f3 55 rfl, h8]; exact p0
      · rw [fr2 f3 55 rfl, h8]; exact p4
      · rw [fr2 f2 77 rfl, fr2 f3 56 rfl, h9, h10]
      · rw [fr2 f3 56 rfl, h10]; exact q0
      · rw [fr2 f3 56 rfl, h10]; exact q8
    refine RR_ii Iff.rfl (fun e _ => ?_) (fun e _ => ?_)
    · exact fin L N 0 0 hLN fL fN l75 n54 (fun b hb => by rw [l76, l77, n55, n56, upI_n hb, upI_n hb]; exact ⟨rfl, rfl, rfl, rfl⟩) (by rw [l76]; exact z76) (by rw [n55, upI_s]) (by decide) (by decide) (by rw [l77]; exact z77) (by rw [n56, upI_s]) (by decide) (by decide) n8
    · refine RR_sq (G := fun _ K2 _ M2 => LR K2 M2 ∧ fr kF_tx_expect kA_tx_expect L K2 ∧ fr rF_need rA_need N M2 ∧ N.1 8 + 1 ≤ M2.1 8) (A := fun _ => True) (B := fun _ => True) (exp_s hLN (c := 317) (by omega)) (RP_T _) (RP_T _) (fun z hz => RP_w (u_rfl_takeRoom_136 t z.2) (fun w hw => hw.2 hz)) (fun _ K2 _ M2 hG _ _ => ?_)
      obtain ⟨f1, f2, f3, f4⟩ := hG
      unfold rfl_takeRoom_136
      dsimp only
      refine RR_sq (G := fun a K3 b M3 => (a = b ∧ 1 ≤ a ∧ a ≤ 4) ∧ LR K3 M3 ∧ fr kF_tx_within kA_tx_within K2 K3 ∧ fr rF_number rA_number M2 M3 ∧ M2.1 8 + 1 ≤ M3.1 8) (A := fun _ => True) (B := fun _ => True) (num_s f1 ⟨by omega, by omega⟩) (RP_T _) (RP_T _) (fun z hz => RP_w (u_rfl_takeRoom_147 t t z.1 z.2) (fun w hw => hw.2 hz)) (fun p K3 p' M3 hG _ _ => ?_)
      obtain ⟨⟨pp, p1, p4⟩, c1, c2, c3, c4⟩ := hG
      subst pp
      unfold rfl_takeRoom_147
      dsimp only
      have hL3 : LR (mO K3 [] [(76, upI (K3.2 76) t p)]) (mO M3 [] [(55, upI (M3.2 55) t p)]) := c1
      refine RR_sq (G := fun _ K4 _ M4 => LR K4 M4 ∧ fr kF_tx_expect kA_tx_expect (mO K3 [] [(76, upI (K3.2 76) t p)]) K4 ∧ fr rF_need rA_need (mO M3 [] [(55, upI (M3.2 55) t p)]) M4 ∧ M3.1 8 + 1 ≤ M4.1 8) (A := fun _ => True) (B := fun _ => True) (exp_s hL3 (c := 318) (by omega)) (RP_T _) (RP_T _) (fun z hz => RP_w (u_rfl_takeRoom_155 t z.2) (fun w hw => hw.2 hz)) (fun _ K4 _ M4 hG _ _ => ?_)
      obtain ⟨d1, d2, d3, d4⟩ := hG
      unfold rfl_takeRoom_155
      dsimp only
      refine RR_sq (G := fun a K5 b M5 => (a = b ∧ 0 ≤ a ∧ a ≤ 8) ∧ LR K5 M5 ∧ fr kF_tx_within kA_tx_within K4 K5 ∧ fr rF_number rA_number M4 M5 ∧ M4.1 8 + 1 ≤ M5.1 8) (A := fun _ => True) (B := fun _ => True) (num_s d1 ⟨by omega, by omega⟩) (RP_T _) (RP_T _) (fun z hz => RP_w (u_rfl_takeRoom_167 t z.1 z.2) (fun w hw => hw.2 hz)) (fun q K5 q' M5 hG _ _ => ?_)
      obtain ⟨⟨qq, q0, q8⟩, i1, i2, i3, i4⟩ := hG
      subst qq
      unfold rfl_takeRoom_167
      dsimp only
      have e75 : K5.2 75 = upI (K.2 75) t a := (fr2 i2 75 rfl).trans ((fr2 d2 75 rfl).trans ((fr2 c2 75 rfl).trans ((fr2 f2 75 rfl).trans l75)))
      have e76 : K5.2 76 = upI (K.2 76) t p := by
        rw [fr2 i2 76 rfl, fr2 d2 76 rfl]
        show upI (K3.2 76) t p = _
        rw [fr2 c2 76 rfl, fr2 f2 76 rfl, l76]
      have e77 : K5.2 77 = K.2 77 := (fr2 i2 77 rfl).trans ((fr2 d2 77 rfl).trans ((fr2 c2 77 rfl).trans ((fr2 f2 77 rfl).trans l77)))
      have e54 : M5.2 54 = upI (M.2 54) t a := (fr2 i3 54 rfl).trans ((fr2 d3 54 rfl).trans ((fr2 c3 54 rfl).trans ((fr2 f3 54 rfl).trans n54)))
      have e55 : ∀ b, M5.2 55 b = if b = t then p else M.2 55 b := by
        intro b
        rw [fr2 i3 55 rfl, fr2 d3 55 rfl]
        show upI (M3.2 55) t p b = _
        rw [fr2 c3 55 rfl, fr2 f3 55 rfl, n55]
        by_cases e : b = t
        · rw [if_pos e, e, upI_s]
        · rw [if_neg e, upI_n e, upI_n e]
      have e56 : M5.2 56 = upI (M.2 56) t 0 := (fr2 i3 56 rfl).trans ((fr2 d3 56 rfl).trans ((fr2 c3 56 rfl).trans ((fr2 f3 56 rfl).trans n56)))
      have fK5 : fr kF_tx_within [75, 76, 77] K K5 := fr_s i2 (fr_s d2 (fr_m (fr_s c2 (fr_s f2 fL rfl rfl) rfl rfl) rfl rfl) rfl rfl) rfl rfl
      have fM5 : fr rF_number [54, 55, 56] M M5 := fr_s i3 (fr_s d3 (fr_m (fr_s c3 (fr_s f3 fN rfl rfl) rfl rfl) rfl rfl) rfl rfl) rfl rfl
      refine fin (mO K5 [] [(77, upI (K5.2 77) t q)]) (mO M5 [] [(56, upI (M5.2 56) t q)]) p q i1 (fr_m fK5 rfl rfl) (fr_m fM5 rfl rfl) e75 e54 (fun b hb => ?_) ?_ ?_ (by omega) p4 ?_ ?_ q0 q8 (by show M.1 8 + 1 ≤ M5.1 8; omega)
      · refine ⟨?_, ?_, ?_, ?_⟩
        · show K5.2 76 b = _
          rw [e76, upI_n hb]
        · show upI (K5.2 77) t q b = _
          rw [upI_n hb, e77]
        · show M5.2 55 b = _
          rw [e55, if_neg hb]
        · show upI (M5.2 56) t q b = _
          rw [upI_n hb, e56, upI_n hb]
      · show K5.2 76 t = _
        rw [e76, upI_s]
      · show M5.2 55 t = _
        rw [e55, if_pos rfl]
      · show upI (K5.2 77) t q t = _
        rw [upI_s]
      · show upI (M5.2 56) t q t = _
        rw [upI_s]
  unfold kf_rd_roomLine rfl_takeRoom_7
  rw [if_pos hf, hX.1]
  obtain ⟨k1, k2, k3, k4, -⟩ := hTK
  have hh := isHashed_k (K := K) (t := t) (by omega) (by omega)
  -- which numbers are looked at
  have hsh : RP (kf_tb_isHashed t K) (fun r => (r = 1 ∧ M.2 58 t = 1) ∨ (r = 0 ∧ M.2 58 t = 0)) := RP_w hh (fun r hr => by
    rcases hr with ⟨r1, r2⟩ | ⟨r1, i, i0, i1, i2⟩
    · rcases hTE with ⟨e1, -⟩ | ⟨e1, i, i0, i1, i2⟩
      · exact Or.inl ⟨r1, e1⟩
      · exact absurd ((k4 i i0 i1).2.2.2.2.2.2.1.symm.trans (r2 i i0 (by omega))) i2
    · rcases hTE with ⟨e1, e2⟩ | ⟨e1, -⟩
      · exact absurd ((k4 i i0 (by omega)).2.2.2.2.2.2.1.trans (e2 i i0 (by omega))) i2
      · exact Or.inr ⟨r1, e1⟩)
  intro u v hu hv
  cases hk : kf_tb_isHashed t K with
  | none => rw [hk] at hu; cases hu
  | some r =>
    rw [hk, bnd_some] at hu
    rcases hsh r hk with ⟨r1, m58⟩ | ⟨r1, m58⟩
    · subst r1
      rw [if_neg (show ¬ M.2 58 t = 0 by omega)] at hv
      by_cases w2 : M.1 7 = 2
      · have e8 : K.1 208 = M.1 12 := hX.2.2.2.2.2.2.2.1 w2
        rw [if_pos ((wm_257 hX.2.1).mpr w2)] at hu
        rw [if_pos w2] at hv
        unfold kfl_rd_roomLine_31 kfl_rd_roomLine_71 at hu
        rw [e8, k72_1] at hu
        by_cases h5 : M.1 12 = 1 ∨ M.1 12 = 2 ∨ M.1 12 = 4 ∨ M.1 12 = 8 ∨ M.1 12 = 16
        · rw [hit5 h5] at hv
          have hu' : kfl_rd_roomLine_114 t 1 t 1 16 K = some u := by
            rcases h5 with h5 | h5 | h5 | h5 | h5 <;> rw [h5, if_neg (by decide +kernel), if_pos (by decide +kernel)] at hu <;> exact hu
          have hv' : (bnd (rf_number 1 16 M) fun y17 => rfl_takeRoom_105 t t y17.1 y17.2) = some v := by
            unfold rfl_takeRoom_93 rf_number at hv
            unfold rf_number
            have b1 : 1 ≤ M.1 12 ∧ M.1 12 ≤ 16 := by omega
            rw [if_pos (show M.1 10 ≤ 0 by omega), if_pos w2, if_neg (fun q => by have := cmp64_lt.mp q; omega), if_pos (cmp64_le.mpr (by omega))] at hv
            rw [if_pos (show M.1 10 ≤ 0 by omega), if_pos w2, if_neg (fun q => by have := cmp64_lt.mp q; omega), if_pos (cmp64_le.mpr (by omega))]
            exact hv
          exact num 1 16 (Or.inl ⟨rfl, rfl⟩) m58 u v hu' hv'
        · rw [hit5n h5] at hv
          refine bad _ _ ?_ ?_ u v hu hv
          · refine RP_ite (fun _ => k72_0) (fun l1 => RP_ite (fun l2 => ?_) (fun _ => k72_0))
            unfold kfl_rd_roomLine_114
            refine thr_l (within_bad (hX.1.trans ((wm_257 hX.2.1).mpr w2)) (fun q => ?_))
            rw [e8] at q
            have hn : ((M.1 12).toNat : Int) = M.1 12 := by omega
            have p2 := pw2 (M.1 12).toNat (by omega)
            rw [hn] at p2
            rcases p2 with p2 | p2 | p2 | p2 | p2 | p2 | p2
            · omega
            · exact h5 (by omega)
            · exact h5 (by omega)
            · exact h5 (by omega)
            · exact h5 (by omega)
            · exact h5 (by omega)
            · exact p2 l2
          · exact RP_bnd (wrong_1 (by decide)) (fun z hz => RP_w (u_rfl_takeRoom_93 t z.2) (fun w hw => hw.2 hz))
      · rw [if_neg (fun q => w2 ((wm_257 hX.2.1).mp q)), k31_2] at hu
        rw [if_neg w2] at hv
        refine bad _ _ ?_ ?_ u v hu hv
        · unfold kfl_rd_roomLine_114 kf_tx_within
          rw [if_neg (show ¬ K.1 206 = 257 from fun q => w2 ((wm_257 hX.2.1).mp (hX.1.symm.trans q)))]
          exact thr_l (thr_l (A := fun y => kfl_tx_within_14 1 16 y.2.2) (refuse_1 _))
        · unfold rfl_takeRoom_93 rf_number
          rw [if_pos (show M.1 10 ≤ 0 by omega), if_neg w2]
          exact RP_bnd (P := fun z : Int × mR => 0 < z.2.1 10) (RP_bnd (bad_1 M) (fun z hz => RP_w (u_rfl_number_53 1 z.2) (fun w hw => hw.2 hz))) (fun z hz => RP_w (u_rfl_takeRoom_105 t t z.1 z.2) (fun w hw => hw.2 hz))
    · subst r1
      rw [if_pos m58] at hv
      unfold rfl_takeRoom_93 at hv
      rw [k31_0, k31_0] at hu
      have hu' : kfl_rd_roomLine_114 t 0 t 1 32 K = some u := by
        by_cases e : wm (M.1 7) = 257
        · rw [if_pos e] at hu; exact hu
        · rw [if_neg e] at hu; exact hu
      exact num 0 32 (Or.inr ⟨rfl, rfl⟩) m58 u v hu' hv
end RO7
