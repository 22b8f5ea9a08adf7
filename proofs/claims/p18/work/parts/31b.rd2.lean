/-! ===== EXPRs: nodes, what stands open ===== -/
def DM (K : mR) : Prop := K.1 213 = 1 ∧ 800 < K.1 220
def ND1 (kd lf sg nb n20 : Int) (F I : Int → Int) : Prop := (sg = 401 ∧ kd = 400 ∧ 0 ≤ nb ∧ nb / 16 < n20 ∧ nb % 16 < F (I (nb / 16)) ∧ lf = 17 * (nb / 16) + 1 + nb % 16) ∨ (sg = 404 ∧ kd = 400 ∧ 0 ≤ nb ∧ nb < n20 ∧ lf = 17 * nb) ∨ (sg = 402 ∧ kd = 400 ∧ 0 ≤ nb ∧ nb < 16 ∧ lf = 204 + nb) ∨ (sg ≠ 401 ∧ sg ≠ 402 ∧ sg ≠ 404 ∧ kd ≠ 400)
def NDRx (k220 : Int) (K18 : Int → Int) (K19 : Int → Int) (m20 : Int) (m28 : Int) (M29 : Int → Int) (M34 : Int → Int) (M65 : Int → Int) (M67 : Int → Int) : Prop := (k220 = m28 ∧ 0 ≤ m28 ∧ m28 ≤ 800) ∧ ∀ k, 0 ≤ k → k < m28 → ND1 (K18 k) (K19 k) (M65 k) (M67 k) m20 M29 M34
def NDR (K M : mR) : Prop := NDRx (K.1 220) (K.2 18) (K.2 19) (M.1 20) (M.1 28) (M.2 29) (M.2 34) (M.2 65) (M.2 67)
theorem NDR_f {F A G B : List Nat} {K M K' M' : mR} (hK : fr F A K K') (hM : fr G B M M') (c1 : chk [220] F = true) (c2 : chk [18, 19] A = true) (c3 : chk [20, 28] G = true) (c4 : chk [29, 34, 65, 67] B = true) (h : NDR K M) : NDR K' M' := by
  unfold NDR
  rw [fr1 hK 220 (chk_1 c1 (by decide)), fr2 hK 18 (chk_1 c2 (by decide)), fr2 hK 19 (chk_1 c2 (by decide)), fr1 hM 20 (chk_1 c3 (by decide)), fr1 hM 28 (chk_1 c3 (by decide)), fr2 hM 29 (chk_1 c4 (by decide)), fr2 hM 34 (chk_1 c4 (by decide)), fr2 hM 65 (chk_1 c4 (by decide)), fr2 hM 67 (chk_1 c4 (by decide))]
  exact h
def PAx (K39 : Int → Int) (K40 : Int → Int) (K41 : Int → Int) (K42 : Int → Int) (m6 : Int) (m25 : Int) (M4 : Int → Int) (M46 : Int → Int) (M47 : Int → Int) (M48 : Int → Int) (M49 : Int → Int) : Prop := ∀ a, 0 ≤ a → a < m25 → K39 a = M46 a ∧ 0 ≤ M46 a ∧ M46 a ≤ 4 ∧ (∀ i, 0 ≤ i → i < M46 a → K40 (4 * a + i) = M49 (4 * a + i) ∧ 1 ≤ M49 (4 * a + i) ∧ M49 (4 * a + i) ≤ 64 ∧ 0 ≤ M47 (4 * a + i) ∧ 1 ≤ M48 (4 * a + i) ∧ M48 (4 * a + i) ≤ 16 ∧ M47 (4 * a + i) + M48 (4 * a + i) ≤ m6 ∧ (∀ j, 0 ≤ j → j < M48 (4 * a + i) → namP (M4 (M47 (4 * a + i) + j))) ∧ PK (K41 (4 * a + i)) (K42 (4 * a + i)) (fun j => M4 (M47 (4 * a + i) + j)) (M48 (4 * a + i)) ∧ R64 (K41 (4 * a + i)) ∧ R64 (K42 (4 * a + i))) ∧ ∀ i j, 0 ≤ i → i < j → j < M46 a → ¬ (K41 (4 * a + i) = K41 (4 * a + j) ∧ K42 (4 * a + i) = K42 (4 * a + j))
def PA (K M : mR) : Prop := PAx (K.2 39) (K.2 40) (K.2 41) (K.2 42) (M.1 6) (M.1 25) (M.2 4) (M.2 46) (M.2 47) (M.2 48) (M.2 49)
theorem PA_f {F A G B : List Nat} {K M K' M' : mR} (hK : fr F A K K') (hM : fr G B M M') (c1 : chk [] F = true) (c2 : chk [39, 40, 41, 42] A = true) (c3 : chk [6, 25] G = true) (c4 : chk [4, 46, 47, 48, 49] B = true) (h : PA K M) : PA K' M' := by
  unfold PA
  rw [fr2 hK 39 (chk_1 c2 (by decide)), fr2 hK 40 (chk_1 c2 (by decide)), fr2 hK 41 (chk_1 c2 (by decide)), fr2 hK 42 (chk_1 c2 (by decide)), fr1 hM 6 (chk_1 c3 (by decide)), fr1 hM 25 (chk_1 c3 (by decide)), fr2 hM 4 (chk_1 c4 (by decide)), fr2 hM 46 (chk_1 c4 (by decide)), fr2 hM 47 (chk_1 c4 (by decide)), fr2 hM 48 (chk_1 c4 (by decide)), fr2 hM 49 (chk_1 c4 (by decide))]
  exact h
def HUx (K10 : Int → Int) (K11 : Int → Int) (K12 : Int → Int) : Prop := ∀ h i j, 0 ≤ h → h < 12 → 0 ≤ i → i < 16 → 0 ≤ j → j < 16 → i ≠ j → 0 < K10 (16 * h + i) → 0 < K10 (16 * h + j) → ¬ (K11 (16 * h + i) = K11 (16 * h + j) ∧ K12 (16 * h + i) = K12 (16 * h + j))
def HU (K M : mR) : Prop := HUx (K.2 10) (K.2 11) (K.2 12)
theorem HU_f {F A G B : List Nat} {K M K' M' : mR} (hK : fr F A K K') (hM : fr G B M M') (c1 : chk [] F = true) (c2 : chk [10, 11, 12] A = true) (c3 : chk [] G = true) (c4 : chk [] B = true) (h : HU K M) : HU K' M' := by
  unfold HU
  rw [fr2 hK 10 (chk_1 c2 (by decide)), fr2 hK 11 (chk_1 c2 (by decide)), fr2 hK 12 (chk_1 c2 (by decide))]
  exact h
theorem LR_g {F A G B : List Nat} {K M K' M' : mR} (h : LR K M) (hK : fr F A K K') (hM : fr G B M M') (c1 : chk [203, 204, 205, 206, 207, 208, 209, 210] F = true) (c2 : chk [1, 5, 6, 7, 8, 9] A = true) (c3 : chk [6, 7, 8, 9, 12, 13] G = true) (c4 : chk [0, 4, 14, 15, 16, 17, 18] B = true) (h1 : K'.1 213 = 0) (h2 : M'.1 10 = 0) : LR K' M' := by
  obtain ⟨a, b, c, -, -⟩ := h
  refine ⟨?_, ?_, ?_, h1, h2⟩
  · exact LT_c a (fr1 hK 204 (chk_1 c1 (by decide))) (fr2 hK 1 (chk_1 c2 (by decide))) (fr2 hK 5 (chk_1 c2 (by decide))) (fr1 hM 6 (chk_1 c3 (by decide))) (fr2 hM 4 (chk_1 c4 (by decide))) (fr2 hM 0 (chk_1 c4 (by decide)))
  · unfold LX at *
    rw [fr1 hK 205 (chk_1 c1 (by decide)), fr1 hK 206 (chk_1 c1 (by decide)), fr1 hK 207 (chk_1 c1 (by decide)), fr1 hK 208 (chk_1 c1 (by decide)), fr1 hK 209 (chk_1 c1 (by decide)), fr1 hK 210 (chk_1 c1 (by decide)), fr1 hM 6 (chk_1 c3 (by decide)), fr1 hM 7 (chk_1 c3 (by decide)), fr1 hM 8 (chk_1 c3 (by decide)), fr1 hM 9 (chk_1 c3 (by decide)), fr1 hM 12 (chk_1 c3 (by decide)), fr2 hM 4 (chk_1 c4 (by decide))]
    exact b
  · exact NMR_c c (fr1 hK 203 (chk_1 c1 (by decide))) (fr2 hK 6 (chk_1 c2 (by decide))) (fr2 hK 7 (chk_1 c2 (by decide))) (fr2 hK 8 (chk_1 c2 (by decide))) (fr2 hK 9 (chk_1 c2 (by decide))) (fr1 hM 13 (chk_1 c3 (by decide))) (fr1 hM 6 (chk_1 c3 (by decide))) (fr2 hM 4 (chk_1 c4 (by decide))) (fr2 hM 14 (chk_1 c4 (by decide))) (fr2 hM 15 (chk_1 c4 (by decide))) (fr2 hM 16 (chk_1 c4 (by decide))) (fr2 hM 17 (chk_1 c4 (by decide))) (fr2 hM 18 (chk_1 c4 (by decide)))
def ADK (K K' : mR) (kd lf w : Int) : Prop := fr [213, 220, 229] [18, 19, 20, 22, 23, 70] K K' ∧ K'.1 213 = (if K.1 220 < 800 then 0 else 1) ∧ K'.1 220 = K.1 220 + 1 ∧ K'.1 229 = K.1 229 + 1 ∧ K'.2 18 = upI (K.2 18) (K.1 220) kd ∧ K'.2 19 = upI (K.2 19) (K.1 220) lf ∧ K'.2 22 = upI (K.2 22) (K.1 220) w ∧ K'.2 70 = upI (K.2 70) (K.1 229) (K.1 220)
def NDM (M M' : mR) (sg nb : Int) : Prop := fr [28] [65, 66, 67, 68] M M' ∧ M'.1 28 = M.1 28 + 1 ∧ M'.2 65 = upI (M.2 65) (M.1 28) sg ∧ M'.2 67 = upI (M.2 67) (M.1 28) nb
section ADDS
variable {K M : mR} {kd lf rt w pl sg b nb v : Int}
theorem add_k (h0 : 0 ≤ K.1 220) (h1 : K.1 220 ≤ 800) (p0 : -2 ≤ K.1 229) (p1 : K.1 229 ≤ 10000) : RP (kf_fm_add kd lf rt w pl K) (fun y => y.1 = K.1 220 ∧ ADK K y.2 kd lf w) := by
  unfold kf_fm_add kf_Math_min kfl_Math_min_10 kfl_fm_add_105
  rw [if_neg (by omega), bnd_some, cut_i (by omega) (by omega)]
  have e9 : cut (K.1 229 + 1) = K.1 229 + 1 := cut_i (by omega) (by omega)
  refine RP_ite (fun g => RP_some ⟨rfl, fr_m (fr_m fr_0 rfl rfl) rfl rfl, ?_, rfl, e9, rfl, rfl, rfl, rfl⟩) (fun g => RP_some ⟨rfl, fr_m (fr_m fr_0 rfl rfl) rfl rfl, ?_, rfl, e9, rfl, rfl, rfl, rfl⟩)
  · rw [if_pos (by omega)]
    rfl
  · rw [if_neg (by omega)]
    rfl
theorem add_d (h : DM K) : RP (kf_fm_add kd lf rt w pl K) (fun y => DM y.2) := by
  unfold kf_fm_add kf_Math_min kfl_Math_min_10 kfl_fm_add_105
  obtain ⟨-, h⟩ := h
  by_cases g : (1089 : Int) < K.1 220
  · rw [if_pos g, bnd_some, if_neg (by decide)]
    exact RP_some ⟨rfl, show (800 : Int) < cut (1089 + 1) by decide⟩
  · rw [if_neg g, bnd_some, cut_i (by omega) (by omega), if_neg (by omega)]
    exact RP_some ⟨rfl, show (800 : Int) < K.1 220 + 1 by omega⟩
theorem node_r (h0 : M.1 10 = 0) (h1 : 0 ≤ M.1 28) (h2 : M.1 28 ≤ 800) : RP (rf_node sg b nb v M) (fun z => (M.1 28 < 800 ∧ NDM M z.2 sg nb) ∨ (M.1 28 = 800 ∧ 0 < z.2.1 10)) := by
  unfold rf_node rfl_node_26
  rw [if_pos h0]
  refine RP_ite (fun g => RP_bnd (wrong_1 (by decide)) (fun z hz => ?_)) (fun g => ?_)
  · rw [if_neg (by omega)]
    exact RP_some (Or.inr ⟨g, hz⟩)
  · rw [if_pos (by omega)]
    exact RP_some (Or.inl ⟨by omega, fr_m fr_0 rfl rfl, cut_i (by omega) (by omega), rfl, rfl⟩)
theorem NDR_new {K' M' : mR} (h : NDR K M) (hA : ADK K K' kd lf w) (hN : NDM M M' sg nb) (hd : ND1 kd lf sg nb (M.1 20) (M.2 29) (M.2 34)) (hb : M.1 28 < 800) : NDR K' M' := by
  obtain ⟨a1, a2, a3, a4, a5, a6, a7, a8⟩ := hA
  obtain ⟨b1, b2, b3, b4⟩ := hN
  obtain ⟨⟨h1, h2, h3⟩, h4⟩ := h
  unfold NDR
  rw [a3, a5, a6, b2, b3, b4, fr1 b1 20 rfl, fr2 b1 29 rfl, fr2 b1 34 rfl, h1]
  refine ⟨⟨rfl, by omega, by omega⟩, fun k k0 k1 => ?_⟩
  by_cases e : k = M.1 28
  · subst e
    rw [upI_s, upI_s, upI_s, upI_s]
    exact hd
  · rw [upI_n e, upI_n e, upI_n e, upI_n e]
    exact h4 k k0 (by omega)
end ADDS
/-! what stands open -/
def AG (n p B h q : Int) (K M K' M' : mR) : Prop := (∀ i, i < n → K'.2 68 i = K.2 68 i) ∧ (∀ i, i < p → K'.2 70 i = K.2 70 i) ∧ (∀ o, o < B → K'.2 18 o = K.2 18 o ∧ K'.2 22 o = K.2 22 o ∧ K'.2 24 o = K.2 24 o) ∧ (∀ k, k < h → M'.2 76 k = M.2 76 k ∧ M'.2 78 k = M.2 78 k ∧ M'.2 79 k = M.2 79 k ∧ M'.2 85 k = M.2 85 k ∧ M'.2 89 k = M.2 89 k ∧ M'.2 91 k = M.2 91 k ∧ M'.2 87 k = M.2 87 k ∧ M'.2 90 k = M.2 90 k ∧ M'.2 92 k = M.2 92 k) ∧ (∀ i, i < q → M'.2 80 i = M.2 80 i ∧ M'.2 81 i = M.2 81 i ∧ M'.2 83 i = M.2 83 i ∧ M'.2 84 i = M.2 84 i)
def WTS (K M : mR) (k n1 p1 B1 : Int) (j : Nat) (n p B : Int) : Prop := match j with
  | 0 => n = n1 ∧ p = p1 ∧ B = B1
  | j + 1 => (M.2 80 (9 * k + j) < 0 ∧ WTS K M k n1 p1 B1 j n p B) ∨ (∃ n0 p0 B0 o, n = n0 + 1 ∧ p = p0 + 1 ∧ B = o + 1 ∧ WTS K M k n1 p1 B1 j n0 p0 B0 ∧ (0 ≤ M.2 80 (9 * k + j) ∧ wdom (M.2 80 (9 * k + j))) ∧ lvl (M.2 80 (9 * k + j)) = j ∧ K.2 68 n0 = wm (M.2 80 (9 * k + j)) ∧ o = K.2 70 p0 ∧ B0 ≤ o ∧ OP K o (M.2 81 (9 * k + j)) (M.2 83 (9 * k + j)) (M.2 84 (9 * k + j)))
def STG (K M : mR) (k n p B n1 p1 B1 : Int) : Prop := (M.2 79 k = 0 ∧ n1 = n ∧ p1 = p ∧ B1 = B) ∨ (M.2 79 k = 1 ∧ n1 = n + 1 ∧ p1 = p + 1 ∧ K.2 68 n = 63 ∧ B ≤ K.2 70 p ∧ B1 = K.2 70 p + 1 ∧ OP K (K.2 70 p) (M.2 85 k) (M.2 89 k) (M.2 91 k))
def STKx (K M : mR) (f : Nat) (t n p B d : Int) : Prop := match f with
  | 0 => t = 0 ∧ n = 0 ∧ p = 0 ∧ B = 0 ∧ d = 0
  | f + 1 => (∃ t0 n0 d0, t = 4 ∧ n = n0 + 1 ∧ d = d0 + 1 ∧ STKx K M f t0 n0 p B d0 ∧ 3 ≤ t0 ∧ M.2 76 f = 1 ∧ ((M.2 78 f = 126 ∧ K.2 68 n0 = 126) ∨ (M.2 78 f = 33 ∧ K.2 68 n0 = 33) ∨ (M.2 78 f = 45 ∧ K.2 68 n0 = 405))) ∨ (∃ t0 n0, t = 1 ∧ n = n0 + 1 ∧ STKx K M f t0 n0 p B d ∧ 3 ≤ t0 ∧ M.2 76 f = 2 ∧ K.2 68 n0 = 40) ∨ (∃ t0 n0 p0 B0 d0 o1 o2, t = 2 ∧ n = n0 + 1 ∧ p = p0 + 2 ∧ B = o2 + 1 ∧ d = d0 + 1 ∧ STKx K M f t0 n0 p0 B0 d0 ∧ t0 < 3 ∧ M.2 76 f = 0 ∧ M.2 79 f = 2 ∧ K.2 68 n0 = 58 ∧ o1 = K.2 70 p0 ∧ o2 = K.2 70 (p0 + 1) ∧ B0 ≤ o1 ∧ o1 < o2 ∧ OP K o1 (M.2 85 f) (M.2 89 f) (M.2 91 f) ∧ OP K o2 (M.2 87 f) (M.2 90 f) (M.2 92 f)) ∨ (∃ t0 n0 p0 B0 d0 n1 p1 B1, t = 3 ∧ d = d0 + 1 ∧ STKx K M f t0 n0 p0 B0 d0 ∧ t0 < 3 ∧ M.2 76 f = 0 ∧ STG K M f n0 p0 B0 n1 p1 B1 ∧ WTS K M f n1 p1 B1 9 n p B)
def STK (K M : mR) (t h n p B d : Int) : Prop := 0 ≤ h ∧ STKx K M h.toNat t n p B d
theorem STK_nil (K M : mR) : STK K M 0 0 0 0 0 0 := ⟨by decide, rfl, rfl, rfl, rfl, rfl⟩
theorem tn_s {h : Int} (h0 : 0 ≤ h) : (h + 1).toNat = h.toNat + 1 := by omega
theorem STK_pre {K M : mR} {t h n p B d : Int} (a : STK K M t h n p B d) (b : 3 ≤ t) (c : M.2 76 h = 1) (e : (M.2 78 h = 126 ∧ K.2 68 n = 126) ∨ (M.2 78 h = 33 ∧ K.2 68 n = 33) ∨ (M.2 78 h = 45 ∧ K.2 68 n = 405)) : STK K M 4 (h + 1) (n + 1) p B (d + 1) := by
  have a0 := a.1
  refine ⟨by omega, ?_⟩
  rw [tn_s a0]
  unfold STKx
  rw [show ((h.toNat : Nat) : Int) = h by omega]
  exact Or.inl ⟨_, _, _, rfl, rfl, rfl, a.2, b, c, e⟩
theorem STK_br {K M : mR} {t h n p B d : Int} (a : STK K M t h n p B d) (b : 3 ≤ t) (c : M.2 76 h = 2) (e : K.2 68 n = 40) : STK K M 1 (h + 1) (n + 1) p B d := by
  have a0 := a.1
  refine ⟨by omega, ?_⟩
  rw [tn_s a0]
  unfold STKx
  rw [show ((h.toNat : Nat) : Int) = h by omega]
  exact Or.inr (Or.inl ⟨_, _, rfl, rfl, a.2, b, c, e⟩)
theorem STK_c2 {K M : mR} {t h n p B d o1 o2 : Int} (a : STK K M t h n p B d) (b : t < 3) (c : M.2 76 h = 0) (e : M.2 79 h = 2) (f : K.2 68 n = 58) (g1 : o1 = K.2 70 p) (g2 : o2 = K.2 70 (p + 1)) (g3 : B ≤ o1) (g4 : o1 < o2) (g5 : OP K o1 (M.2 85 h) (M.2 89 h) (M.2 91 h)) (g6 : OP K o2 (M.2 87 h) (M.2 90 h) (M.2 92 h)) : STK K M 2 (h + 1) (n + 1) (p + 2) (o2 + 1) (d + 1) := by
  have a0 := a.1
  refine ⟨by omega, ?_⟩
  rw [tn_s a0]
  unfold STKx
  rw [show ((h.toNat : Nat) : Int) = h by omega]
  exact Or.inr (Or.inr (Or.inl ⟨_, _, _, _, _, _, _, rfl, rfl, rfl, rfl, rfl, a.2, b, c, e, f, g1, g2, g3, g4, g5, g6⟩))
theorem STK_ch {K M : mR} {t h n p B d n1 p1 B1 n' p' B' : Int} (a : STK K M t h n p B d) (b : t < 3) (c : M.2 76 h = 0) (e : STG K M h n p B n1 p1 B1) (f : WTS K M h n1 p1 B1 9 n' p' B') : STK K M 3 (h + 1) n' p' B' (d + 1) := by
  have a0 := a.1
  refine ⟨by omega, ?_⟩
  rw [tn_s a0]
  unfold STKx
  rw [show ((h.toNat : Nat) : Int) = h by omega]
  exact Or.inr (Or.inr (Or.inr ⟨_, _, _, _, _, _, _, _, rfl, rfl, a.2, b, c, e, f⟩))
theorem STK_i {K M : mR} {t h n p B d : Int} (hs : STK K M t h n p B d) : (t = 0 ∧ h = 0 ∧ n = 0 ∧ p = 0 ∧ B = 0 ∧ d = 0) ∨ (∃ t0 h0 n0 d0, t = 4 ∧ h = h0 + 1 ∧ n = n0 + 1 ∧ d = d0 + 1 ∧ STK K M t0 h0 n0 p B d0 ∧ 3 ≤ t0 ∧ M.2 76 h0 = 1 ∧ ((M.2 78 h0 = 126 ∧ K.2 68 n0 = 126) ∨ (M.2 78 h0 = 33 ∧ K.2 68 n0 = 33) ∨ (M.2 78 h0 = 45 ∧ K.2 68 n0 = 405))) ∨ (∃ t0 h0 n0, t = 1 ∧ h = h0 + 1 ∧ n = n0 + 1 ∧ STK K M t0 h0 n0 p B d ∧ 3 ≤ t0 ∧ M.2 76 h0 = 2 ∧ K.2 68 n0 = 40) ∨ (∃ t0 h0 n0 p0 B0 d0 o1 o2, t = 2 ∧ h = h0 + 1 ∧ n = n0 + 1 ∧ p = p0 + 2 ∧ B = o2 + 1 ∧ d = d0 + 1 ∧ STK K M t0 h0 n0 p0 B0 d0 ∧ t0 < 3 ∧ M.2 76 h0 = 0 ∧ M.2 79 h0 = 2 ∧ K.2 68 n0 = 58 ∧ o1 = K.2 70 p0 ∧ o2 = K.2 70 (p0 + 1) ∧ B0 ≤ o1 ∧ o1 < o2 ∧ OP K o1 (M.2 85 h0) (M.2 89 h0) (M.2 91 h0) ∧ OP K o2 (M.2 87 h0) (M.2 90 h0) (M.2 92 h0)) ∨ (∃ t0 h0 n0 p0 B0 d0 n1 p1 B1, t = 3 ∧ h = h0 + 1 ∧ d = d0 + 1 ∧ STK K M t0 h0 n0 p0 B0 d0 ∧ t0 < 3 ∧ M.2 76 h0 = 0 ∧ STG K M h0 n0 p0 B0 n1 p1 B1 ∧ WTS K M h0 n1 p1 B1 9 n p B) := by
  obtain ⟨h0, hs⟩ := hs
  cases hf : h.toNat with
  | zero =>
    rw [hf] at hs
    obtain ⟨a, b, c, e, f⟩ := hs
    exact Or.inl ⟨a, by omega, b, c, e, f⟩
  | succ f =>
    rw [hf] at hs
    have hh : h = (f : Int) + 1 := by omega
    have up : ∀ {t n p B d : Int}, STKx K M f t n p B d → STK K M t (f : Int) n p B d := fun q => ⟨by omega, by rw [show ((f : Nat) : Int).toNat = f by omega]; exact q⟩
    rcases hs with ⟨t0, n0, d0, a1, a2, a3, a4, a⟩ | ⟨t0, n0, a1, a2, a3, a⟩ | ⟨t0, n0, p0, B0, d0, o1, o2, a1, a2, a3, a4, a5, a6, a⟩ | ⟨t0, n0, p0, B0, d0, n1, p1, B1, a1, a2, a3, a⟩
    · exact Or.inr (Or.inl ⟨_, _, _, _, a1, hh, a2, a3, up a4, a⟩)
    · exact Or.inr (Or.inr (Or.inl ⟨_, _, _, a1, hh, a2, up a3, a⟩))
    · exact Or.inr (Or.inr (Or.inr (Or.inl ⟨_, _, _, _, _, _, _, _, a1, hh, a2, a3, a4, a5, up a6, a⟩)))
    · exact Or.inr (Or.inr (Or.inr (Or.inr ⟨_, _, _, _, _, _, _, _, _, a1, hh, a2, up a3, a⟩)))
/-- from the bottom up -/
theorem STK_ind {K M : mR} {C : Int → Int → Int → Int → Int → Int → Prop} (h0 : C 0 0 0 0 0 0) (h1 : ∀ t h n p B d, STK K M t h n p B d → C t h n p B d → 3 ≤ t → M.2 76 h = 1 → ((M.2 78 h = 126 ∧ K.2 68 n = 126) ∨ (M.2 78 h = 33 ∧ K.2 68 n = 33) ∨ (M.2 78 h = 45 ∧ K.2 68 n = 405)) → C 4 (h + 1) (n + 1) p B (d + 1)) (h2 : ∀ t h n p B d, STK K M t h n p B d → C t h n p B d → 3 ≤ t → M.2 76 h = 2 → K.2 68 n = 40 → C 1 (h + 1) (n + 1) p B d) (h3 : ∀ t h n p B d o1 o2, STK K M t h n p B d → C t h n p B d → t < 3 → M.2 76 h = 0 → M.2 79 h = 2 → K.2 68 n = 58 → o1 = K.2 70 p → o2 = K.2 70 (p + 1) → B ≤ o1 → o1 < o2 → OP K o1 (M.2 85 h) (M.2 89 h) (M.2 91 h) → OP K o2 (M.2 87 h) (M.2 90 h) (M.2 92 h) → C 2 (h + 1) (n + 1) (p + 2) (o2 + 1) (d + 1)) (h4 : ∀ t h n p B d n1 p1 B1 n' p' B', STK K M t h n p B d → C t h n p B d → t < 3 → M.2 76 h = 0 → STG K M h n p B n1 p1 B1 → WTS K M h n1 p1 B1 9 n' p' B' → C 3 (h + 1) n' p' B' (d + 1)) : ∀ (f : Nat) {t h n p B d : Int}, h.toNat = f → STK K M t h n p B d → C t h n p B d := by
  intro f
  induction f with
  | zero =>
    intro t h n p B d hf hs
    rcases STK_i hs with ⟨rfl, rfl, rfl, rfl, rfl, rfl⟩ | ⟨t0, k0, n0, d0, -, e, -, -, s, -⟩ | ⟨t0, k0, n0, -, e, -, s, -⟩ | ⟨t0, k0, n0, p0, B0, d0, o1, o2, -, e, -, -, -, -, s, -⟩ | ⟨t0, k0, n0, p0, B0, d0, n1, p1, B1, -, e, -, s, -⟩
    · exact h0
    all_goals
      have := s.1
      omega
  | succ f ih =>
    intro t h n p B d hf hs
    rcases STK_i hs with ⟨rfl, rfl, rfl, rfl, rfl, rfl⟩ | ⟨t0, k0, n0, d0, rfl, rfl, rfl, rfl, s, a, b, c⟩ | ⟨t0, k0, n0, rfl, rfl, rfl, s, a, b, c⟩ | ⟨t0, k0, n0, p0, B0, d0, o1, o2, rfl, rfl, rfl, rfl, rfl, rfl, s, a1, a2, a3, a4, a5, a6, a7, a8, a9, a10⟩ | ⟨t0, k0, n0, p0, B0, d0, n1, p1, B1, rfl, rfl, rfl, s, a, b, c, e⟩
    · exact h0
    · have := s.1
      exact h1 _ _ _ _ _ _ s (ih (by omega) s) a b c
    · have := s.1
      exact h2 _ _ _ _ _ _ s (ih (by omega) s) a b c
    · have := s.1
      exact h3 _ _ _ _ _ _ _ _ s (ih (by omega) s) a1 a2 a3 a4 a5 a6 a7 a8 a9 a10
    · have := s.1
      exact h4 _ _ _ _ _ _ _ _ _ _ _ _ s (ih (by omega) s) a b c e
theorem W_n {K M : mR} {k n1 p1 B1 : Int} {j : Nat} {n p B : Int} (a : WTS K M k n1 p1 B1 j n p B) (b : M.2 80 (9 * k + j) < 0) : WTS K M k n1 p1 B1 (j + 1) n p B := Or.inl ⟨b, a⟩
theorem W_s {K M : mR} {k n1 p1 B1 : Int} {j : Nat} {n p B o : Int} (a : WTS K M k n1 p1 B1 j n p B) (b : 0 ≤ M.2 80 (9 * k + j) ∧ wdom (M.2 80 (9 * k + j))) (c : lvl (M.2 80 (9 * k + j)) = j) (d : K.2 68 n = wm (M.2 80 (9 * k + j))) (e : o = K.2 70 p) (f : B ≤ o) (g : OP K o (M.2 81 (9 * k + j)) (M.2 83 (9 * k + j)) (M.2 84 (9 * k + j))) : WTS K M k n1 p1 B1 (j + 1) (n + 1) (p + 1) (o + 1) := Or.inr ⟨_, _, _, _, rfl, rfl, rfl, a, b, c, d, e, f, g⟩
theorem AG_m {n p B h q n' p' B' h' q' : Int} {K M K' M' : mR} (hA : AG n p B h q K M K' M') (l1 : n' ≤ n) (l2 : p' ≤ p) (l3 : B' ≤ B) (l4 : h' ≤ h) (l5 : q' ≤ q) : AG n' p' B' h' q' K M K' M' := ⟨fun i hi => hA.1 i (by omega), fun i hi => hA.2.1 i (by omega), fun i hi => hA.2.2.1 i (by omega), fun i hi => hA.2.2.2.1 i (by omega), fun i hi => hA.2.2.2.2 i (by omega)⟩
theorem AG_t {n p B h q : Int} {K M K' M' K2 M2 : mR} (hA : AG n p B h q K M K' M') (hB : AG n p B h q K' M' K2 M2) : AG n p B h q K M K2 M2 := by
  obtain ⟨a1, a2, a3, a4, a5⟩ := hA
  obtain ⟨b1, b2, b3, b4, b5⟩ := hB
  refine ⟨fun i hi => (b1 i hi).trans (a1 i hi), fun i hi => (b2 i hi).trans (a2 i hi), fun i hi => ?_, fun i hi => ?_, fun i hi => ?_⟩
  · obtain ⟨x1, x2, x3⟩ := a3 i hi
    obtain ⟨y1, y2, y3⟩ := b3 i hi
    exact ⟨y1.trans x1, y2.trans x2, y3.trans x3⟩
  · obtain ⟨x1, x2, x3, x4, x5, x6, x7, x8, x9⟩ := a4 i hi
    obtain ⟨y1, y2, y3, y4, y5, y6, y7, y8, y9⟩ := b4 i hi
    exact ⟨y1.trans x1, y2.trans x2, y3.trans x3, y4.trans x4, y5.trans x5, y6.trans x6, y7.trans x7, y8.trans x8, y9.trans x9⟩
  · obtain ⟨x1, x2, x3, x4⟩ := a5 i hi
    obtain ⟨y1, y2, y3, y4⟩ := b5 i hi
    exact ⟨y1.trans x1, y2.trans x2, y3.trans x3, y4.trans x4⟩
/-- nothing of what stands open is touched -/
theorem AG_f {n p B h q : Int} {F A G C : List Nat} {K M K' M' : mR} (hK : fr F A K K') (hM : fr G C M M') (c2 : chk [18, 22, 24, 68, 70] A = true) (c4 : chk [76, 78, 79, 80, 81, 83, 84, 85, 87, 89, 90, 91, 92] C = true) : AG n p B h q K M K' M' := by
  refine ⟨fun i _ => ?_, fun i _ => ?_, fun i _ => ?_, fun i _ => ?_, fun i _ => ?_⟩
  · rw [fr2 hK 68 (chk_1 c2 (by decide))]
  · rw [fr2 hK 70 (chk_1 c2 (by decide))]
  · rw [fr2 hK 18 (chk_1 c2 (by decide)), fr2 hK 22 (chk_1 c2 (by decide)), fr2 hK 24 (chk_1 c2 (by decide))]
    exact ⟨rfl, rfl, rfl⟩
  · rw [fr2 hM 76 (chk_1 c4 (by decide)), fr2 hM 78 (chk_1 c4 (by decide)), fr2 hM 79 (chk_1 c4 (by decide)), fr2 hM 85 (chk_1 c4 (by decide)), fr2 hM 89 (chk_1 c4 (by decide)), fr2 hM 91 (chk_1 c4 (by decide)), fr2 hM 87 (chk_1 c4 (by decide)), fr2 hM 90 (chk_1 c4 (by decide)), fr2 hM 92 (chk_1 c4 (by decide))]
    exact ⟨rfl, rfl, rfl, rfl, rfl, rfl, rfl, rfl, rfl⟩
  · rw [fr2 hM 80 (chk_1 c4 (by decide)), fr2 hM 81 (chk_1 c4 (by decide)), fr2 hM 83 (chk_1 c4 (by decide)), fr2 hM 84 (chk_1 c4 (by decide))]
    exact ⟨rfl, rfl, rfl, rfl⟩
theorem WTS_b {K M : mR} {k n1 p1 B1 : Int} {j : Nat} {n p B : Int} (h : WTS K M k n1 p1 B1 j n p B) : n1 ≤ n ∧ n ≤ n1 + j ∧ p1 ≤ p ∧ B1 ≤ B ∧ p - p1 = n - n1 := by
  induction j generalizing n p B with
  | zero =>
    obtain ⟨a, b, c⟩ := h
    omega
  | succ j ih =>
    rcases h with ⟨-, h⟩ | ⟨n0, p0, B0, o, e1, e2, e3, h, -, -, -, -, e4, -⟩
    · have := ih h
      omega
    · have := ih h
      omega
theorem WTS_c {K M K' M' : mR} {k n1 p1 B1 : Int} {j : Nat} {n p B h q : Int} (hw : WTS K M k n1 p1 B1 j n p B) (hA : AG n p B h q K M K' M') (hq : 9 * k + j ≤ q) : WTS K' M' k n1 p1 B1 j n p B := by
  induction j generalizing n p B with
  | zero => exact hw
  | succ j ih =>
    obtain ⟨x1, x2, x3, x4⟩ := hA.2.2.2.2 (9 * k + j) (by omega)
    rcases hw with ⟨e, w⟩ | ⟨n0, p0, B0, o, rfl, rfl, rfl, w, e1, e2, e3, e4, e5, e6⟩
    · refine W_n (ih w hA (by omega)) ?_
      rw [x1]
      exact e
    · have y1 := hA.1 n0 (by omega)
      have y2 := hA.2.1 p0 (by omega)
      obtain ⟨z1, z2, z3⟩ := hA.2.2.1 o (by omega)
      refine W_s (ih w (AG_m hA (by omega) (by omega) (by omega) (Int.le_refl h) (Int.le_refl q)) (by omega)) ?_ ?_ ?_ ?_ e5 ?_
      · rw [x1]; exact e1
      · rw [x1]; exact e2
      · rw [x1, y1]; exact e3
      · rw [y2]; exact e4
      · rw [x2, x3, x4]
        exact OP_c e6 z1 z2 z3
theorem STG_b {K M : mR} {k n p B n1 p1 B1 : Int} (h : STG K M k n p B n1 p1 B1) : n ≤ n1 ∧ n1 ≤ n + 1 ∧ p ≤ p1 ∧ B ≤ B1 ∧ (n1 = n ∨ n1 = n + 1) ∧ p1 - p = n1 - n := by
  rcases h with h | h
  · omega
  · omega
theorem STG_c {K M K' M' : mR} {k n p B n1 p1 B1 h q : Int} (hs : STG K M k n p B n1 p1 B1) (hA : AG n1 p1 B1 h q K M K' M') (hk : k < h) : STG K' M' k n p B n1 p1 B1 := by
  obtain ⟨x1, x2, x3, x4, x5, x6, x7, x8, x9⟩ := hA.2.2.2.1 k hk
  rcases hs with ⟨a, b, c, d⟩ | ⟨a, b, c, d, e, f, g⟩
  · exact Or.inl ⟨x3.trans a, b, c, d⟩
  · have y1 := hA.1 n (by omega)
    have y2 := hA.2.1 p (by omega)
    obtain ⟨z1, z2, z3⟩ := hA.2.2.1 (K.2 70 p) (by omega)
    refine Or.inr ⟨x3.trans a, b, c, y1.trans d, ?_, ?_, ?_⟩
    · rw [y2]; exact e
    · rw [y2]; exact f
    · rw [y2, x4, x5, x6]
      exact OP_c g z1 z2 z3
theorem STK_b {K M : mR} {t h n p B d : Int} (hs : STK K M t h n p B d) : 0 ≤ t ∧ t ≤ 4 ∧ 0 ≤ h ∧ 0 ≤ n ∧ 0 ≤ p ∧ 0 ≤ B ∧ 0 ≤ d ∧ (t = 1 → n ≤ 11 * d + 1) ∧ (t ≠ 1 → n ≤ 11 * d) ∧ p ≤ 2 * n ∧ h ≤ n + d ∧ (h = 0 ↔ t = 0) ∧ (t = 0 → n = 0 ∧ d = 0) := by
  refine STK_ind (C := fun t h n p B d => 0 ≤ t ∧ t ≤ 4 ∧ 0 ≤ h ∧ 0 ≤ n ∧ 0 ≤ p ∧ 0 ≤ B ∧ 0 ≤ d ∧ (t = 1 → n ≤ 11 * d + 1) ∧ (t ≠ 1 → n ≤ 11 * d) ∧ p ≤ 2 * n ∧ h ≤ n + d ∧ (h = 0 ↔ t = 0) ∧ (t = 0 → n = 0 ∧ d = 0)) (by decide) ?_ ?_ ?_ ?_ _ rfl hs
  · intro t h n p B d _ ih ht _ _
    omega
  · intro t h n p B d _ ih ht _ _
    omega
  · intro t h n p B d o1 o2 _ ih ht _ _ _ _ _ _ _ _ _
    omega
  · intro t h n p B d n1 p1 B1 n' p' B' _ ih ht _ hg hw
    have g1 := STG_b hg
    have g2 := WTS_b hw
    omega
theorem STK_c {K M K' M' : mR} {t h n p B d q : Int} (hs : STK K M t h n p B d) (hA : AG n p B h q K M K' M') (hq : 9 * h ≤ q) : STK K' M' t h n p B d := by
  revert hA hq
  refine STK_ind (C := fun t h n p B d => AG n p B h q K M K' M' → 9 * h ≤ q → STK K' M' t h n p B d) (fun _ _ => STK_nil _ _) ?_ ?_ ?_ ?_ _ rfl hs
  · intro t h n p B d s ih ht e1 e2 hA hq
    obtain ⟨x1, x2, x3, x4, x5, x6, x7, x8, x9⟩ := hA.2.2.2.1 h (by omega)
    have y1 := hA.1 n (by omega)
    refine STK_pre (ih (AG_m hA (by omega) (by omega) (by omega) (by omega) (Int.le_refl q)) (by omega)) ht (x1.trans e1) ?_
    rw [x2, y1]
    exact e2
  · intro t h n p B d s ih ht e1 e2 hA hq
    obtain ⟨x1, x2, x3, x4, x5, x6, x7, x8, x9⟩ := hA.2.2.2.1 h (by omega)
    have y1 := hA.1 n (by omega)
    exact STK_br (ih (AG_m hA (by omega) (by omega) (by omega) (by omega) (Int.le_refl q)) (by omega)) ht (x1.trans e1) (y1.trans e2)
  · intro t h n p B d o1 o2 s ih ht e1 e2 e3 e4 e5 e6 e7 e8 e9 hA hq
    obtain ⟨x1, x2, x3, x4, x5, x6, x7, x8, x9⟩ := hA.2.2.2.1 h (by omega)
    have y1 := hA.1 n (by omega)
    have y2 := hA.2.1 p (by omega)
    have y3 := hA.2.1 (p + 1) (by omega)
    obtain ⟨z1, z2, z3⟩ := hA.2.2.1 o1 (by omega)
    obtain ⟨w1, w2, w3⟩ := hA.2.2.1 o2 (by omega)
    refine STK_c2 (ih (AG_m hA (by omega) (by omega) (by omega) (by omega) (Int.le_refl q)) (by omega)) ht (x1.trans e1) (x3.trans e2) (y1.trans e3) (e4.trans y2.symm) (e5.trans y3.symm) e6 e7 ?_ ?_
    · rw [x4, x5, x6]
      exact OP_c e8 z1 z2 z3
    · rw [x7, x8, x9]
      exact OP_c e9 w1 w2 w3
  · intro t h n p B d n1 p1 B1 n' p' B' s ih ht e1 hg hw hA hq
    obtain ⟨x1, x2, x3, x4, x5, x6, x7, x8, x9⟩ := hA.2.2.2.1 h (by omega)
    have g1 := STG_b hg
    have g2 := WTS_b hw
    exact STK_ch (ih (AG_m hA (by omega) (by omega) (by omega) (by omega) (Int.le_refl q)) (by omega)) ht (x1.trans e1) (STG_c hg (AG_m hA (by omega) (by omega) (by omega) (Int.le_refl _) (Int.le_refl q)) (by omega)) (WTS_c hw hA (by omega))
/-- all waiting places of a frame are empty from one on -/
theorem WTS_n {K M : mR} {k n1 p1 B1 : Int} {j : Nat} {n p B : Int} (h : WTS K M k n1 p1 B1 j n p B) : ∀ i : Nat, (∀ x : Nat, j ≤ x → x < j + i → M.2 80 (9 * k + x) < 0) → WTS K M k n1 p1 B1 (j + i) n p B := by
  intro i
  induction i with
  | zero => intro _; exact h
  | succ i ih =>
    intro hx
    exact W_n (ih (fun x x0 x1 => hx x x0 (by omega))) (hx (j + i) (by omega) (by omega))
