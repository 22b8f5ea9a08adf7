/-! ===== statements: what is read of one ===== -/
def PTK (n : Int) (K K' : mR) : Prop := (∀ k, k ≠ n → K'.2 45 k = K.2 45 k) ∧ (∀ k, k ≠ n → K'.2 46 k = K.2 46 k) ∧ (∀ k, k ≠ n → K'.2 47 k = K.2 47 k) ∧ (∀ k, k ≠ n → K'.2 48 k = K.2 48 k) ∧ (∀ k, k ≠ n → K'.2 49 k = K.2 49 k) ∧ (∀ k, k ≠ n → K'.2 50 k = K.2 50 k) ∧ (∀ k, k ≠ n → K'.2 51 k = K.2 51 k)
def PTM (n : Int) (M M' : mR) : Prop := (∀ k, k ≠ n → M'.2 101 k = M.2 101 k) ∧ (∀ k, k ≠ n → M'.2 102 k = M.2 102 k) ∧ (∀ k, k ≠ n → M'.2 103 k = M.2 103 k) ∧ (∀ k, k ≠ n → M'.2 104 k = M.2 104 k) ∧ (∀ k, k ≠ n → M'.2 105 k = M.2 105 k) ∧ (∀ k, k ≠ n → M'.2 106 k = M.2 106 k) ∧ (∀ k, k ≠ n → M'.2 107 k = M.2 107 k) ∧ (∀ k, k ≠ n → M'.2 108 k = M.2 108 k)
def DX (n : Int) (K M : mR) : Prop := XP K M ∧ K.1 224 = n + 1 ∧ M.1 99 = n + 1 ∧ 0 ≤ n ∧ ∀ k, 0 ≤ k → k < n → DE1 (M.1 20) (M.1 21) (M.1 22) (M.2 29) (M.2 34) (K.2 45 k) (K.2 46 k) (K.2 47 k) (K.2 48 k) (K.2 49 k) (K.2 50 k) (K.2 51 k) (M.2 101 k) (M.2 102 k) (M.2 103 k) (M.2 104 k) (M.2 105 k) (M.2 106 k) (M.2 107 k) (M.2 108 k)
section DXS
variable {K M K' M' : mR} {n : Int}
theorem PTK_f {F A : List Nat} (h : fr F A K K') (c : chk [45, 46, 47, 48, 49, 50, 51] A = true) : PTK n K K' := by
  refine ⟨fun k _ => ?_, fun k _ => ?_, fun k _ => ?_, fun k _ => ?_, fun k _ => ?_, fun k _ => ?_, fun k _ => ?_⟩
  · rw [fr2 h 45 (chk_1 c (by decide))]
  · rw [fr2 h 46 (chk_1 c (by decide))]
  · rw [fr2 h 47 (chk_1 c (by decide))]
  · rw [fr2 h 48 (chk_1 c (by decide))]
  · rw [fr2 h 49 (chk_1 c (by decide))]
  · rw [fr2 h 50 (chk_1 c (by decide))]
  · rw [fr2 h 51 (chk_1 c (by decide))]
theorem PTM_f {F A : List Nat} (h : fr F A M M') (c : chk [101, 102, 103, 104, 105, 106, 107, 108] A = true) : PTM n M M' := by
  refine ⟨fun k _ => ?_, fun k _ => ?_, fun k _ => ?_, fun k _ => ?_, fun k _ => ?_, fun k _ => ?_, fun k _ => ?_, fun k _ => ?_⟩
  · rw [fr2 h 101 (chk_1 c (by decide))]
  · rw [fr2 h 102 (chk_1 c (by decide))]
  · rw [fr2 h 103 (chk_1 c (by decide))]
  · rw [fr2 h 104 (chk_1 c (by decide))]
  · rw [fr2 h 105 (chk_1 c (by decide))]
  · rw [fr2 h 106 (chk_1 c (by decide))]
  · rw [fr2 h 107 (chk_1 c (by decide))]
  · rw [fr2 h 108 (chk_1 c (by decide))]
theorem DX_p {G C : List Nat} (h : DX n K M) (hX : XP K' M') (hK : PTK n K K') (hM : PTM n M M') (k224 : K'.1 224 = K.1 224) (fM : fr G C M M') (c3 : chk [20, 21, 22, 99] G = true) (c4 : chk [29, 34] C = true) : DX n K' M' := by
  obtain ⟨h1, h2, h3, h4, h5⟩ := h
  obtain ⟨a1, a2, a3, a4, a5, a6, a7⟩ := hK
  obtain ⟨b1, b2, b3, b4, b5, b6, b7, b8⟩ := hM
  refine ⟨hX, k224.trans h2, (fr1 fM 99 (chk_1 c3 (by decide))).trans h3, h4, fun k k0 k1 => ?_⟩
  have ne : k ≠ n := by omega
  rw [fr1 fM 20 (chk_1 c3 (by decide)), fr1 fM 21 (chk_1 c3 (by decide)), fr1 fM 22 (chk_1 c3 (by decide)), fr2 fM 29 (chk_1 c4 (by decide)), fr2 fM 34 (chk_1 c4 (by decide)), a1 k ne, a2 k ne, a3 k ne, a4 k ne, a5 k ne, a6 k ne, a7 k ne, b1 k ne, b2 k ne, b3 k ne, b4 k ne, b5 k ne, b6 k ne, b7 k ne, b8 k ne]
  exact h5 k k0 k1
/-- words alone -/
theorem DX_f {F A G C : List Nat} (h : DX n K M) (hL : LR K' M') (hK : fr F A K K') (hM : fr G C M M') (c1 : chk [214, 215, 216, 217, 219, 220, 221, 222, 223, 224] F = true) (c2 : chk [10, 11, 12, 13, 14, 15, 16, 18, 19, 39, 40, 41, 42, 45, 46, 47, 48, 49, 50, 51] A = true) (c3 : chk [6, 13, 19, 20, 21, 22, 23, 24, 25, 26, 28, 64, 99] G = true) (c4 : chk [4, 16, 17, 29, 30, 31, 32, 33, 34, 35, 36, 46, 47, 48, 49, 65, 67, 93, 101, 102, 103, 104, 105, 106, 107, 108] C = true) : DX n K' M' := DX_p h (XP_f h.1 hL hK hM (chk_s c1 rfl) (chk_s c2 rfl) (chk_s c3 rfl) (chk_s c4 rfl)) (PTK_f hK (chk_s c2 rfl)) (PTM_f hM (chk_s c4 rfl)) (fr1 hK 224 (chk_1 c1 (by decide))) hM (chk_s c3 rfl) (chk_s c4 rfl)
end DXS
section WOR
variable {K M : mR} {n : Int}
theorem st333_d {v : Int} (h : K.1 213 = 1) : RP (kfl_rd_statement_333 v K) (fun y => y.1 ≠ 0) := by
  unfold kfl_rd_statement_333
  exact thr_x (x1 := fun y => (y.1, 0, y.2.2)) (exp_d h) (fun y hy => hy)
/-- the end of a statement -/
theorem st333_s {x : Int} (h : DX n K M) (hx : x ≤ M.1 8) : RR (kfl_rd_statement_333 n K) (rfl_takeStatement_229 M) (GV (fun a K2 _ M2 => a = n ∧ DX n K2 M2 ∧ fr kF_tx_expect kA_tx_expect K K2 ∧ fr rF_need rA_need M M2 ∧ x + 1 ≤ M2.1 8)) := by
  unfold kfl_rd_statement_333 rfl_takeStatement_229
  refine RR_sq (G := fun _ K1 _ M1 => LR K1 M1 ∧ fr kF_tx_expect kA_tx_expect K K1 ∧ fr rF_need rA_need M M1 ∧ M.1 8 + 1 ≤ M1.1 8) (A := fun _ => True) (B := fun _ => True) (exp_s h.1.1 (c := 59) (by omega)) (RP_T _) (RP_T _) (fun z hz => RP_some hz) (fun a K1 b M1 hG _ _ => ?_)
  obtain ⟨g1, g2, g3, g4⟩ := hG
  exact RR_some (Or.inl ⟨rfl, rfl, DX_f h g1 g2 g3 rfl rfl rfl rfl, g2, g3, by show x + 1 ≤ M1.1 8; omega⟩)
def wKA : List Nat := [18, 19, 20, 21, 22, 23, 24, 50, 51, 68, 69, 70]
def wMA : List Nat := [65, 66, 67, 68, 76, 77, 78, 79, 80, 81, 82, 83, 84, 85, 86, 87, 88, 89, 90, 91, 92, 107, 108]
/-- what a statement puts, and its end -/
theorem wor_s {v1 v2 w x : Int} (h : DX n K M) (hv : v1 = M.1 64) (h2 : v2 = 61 ∨ v2 = 328) (w1 : w ≤ 64) (hx : x ≤ M.1 8) : RR (kfl_rd_statement_222 v1 v2 n w K) (bnd (rf_takeWorth n w M) fun y9 => rfl_takeStatement_229 y9.2) (GV (fun a K2 _ M2 => a = n ∧ DX n K2 M2 ∧ EXR (K2.2 50 n) (K2.2 51 n) (M2.2 107 n) (M2.2 108 n) ∧ fr kF_fm_whole wKA K K2 ∧ fr rF_readExpr wMA M M2 ∧ x + 1 ≤ M2.1 8)) := by
  have hf := h.1.1.2.2.2.2
  have n220 : K.1 220 = M.1 28 := h.1.2.2.2.1.1.1
  unfold kfl_rd_statement_222 rf_takeWorth rf_exprOf rfl_takeWorth_22
  rw [if_pos hf, bnd_a, bnd_a]
  have f50 : fr [] [50] K (mO K [] [(50, upI (K.2 50) n (K.1 220))]) := fr_m fr_0 rfl rfl
  have f107 : fr [] [107] M (mO M [] [(107, upI (M.2 107) n (M.1 28))]) := fr_m fr_0 rfl rfl
  have hX1 : XP (mO K [] [(50, upI (K.2 50) n (K.1 220))]) (mO M [] [(107, upI (M.2 107) n (M.1 28))]) := XP_f h.1 h.1.1 f50 f107 rfl rfl rfl rfl
  have hD1 : DX n (mO K [] [(50, upI (K.2 50) n (K.1 220))]) (mO M [] [(107, upI (M.2 107) n (M.1 28))]) := DX_p h hX1 ⟨fun _ _ => rfl, fun _ _ => rfl, fun _ _ => rfl, fun _ _ => rfl, fun _ _ => rfl, fun k hk => upI_n hk, fun _ _ => rfl⟩ ⟨fun _ _ => rfl, fun _ _ => rfl, fun _ _ => rfl, fun _ _ => rfl, fun _ _ => rfl, fun _ _ => rfl, fun k hk => upI_n hk, fun _ _ => rfl⟩ rfl f107 rfl rfl
  have e278 : ∀ K9, kfl_rd_statement_278 v2 n K9 = kfl_rd_statement_333 n K9 := by
    intro K9
    unfold kfl_rd_statement_278 kfl_rd_statement_314
    rw [if_neg (by omega), if_neg (by omega), if_neg (by omega)]
  refine RR_sx (A := fun q => fr kF_fm_whole kA_fm_whole (mO K [] [(50, upI (K.2 50) n (K.1 220))]) q) (B := fun q => UR rF_readExpr rA_readExpr (mO M [] [(107, upI (M.2 107) n (M.1 28))]) q) (whole_s (v := v1) hX1.1 hX1.2.2.2.1 hX1.2.1 hv hX1.2.2.2.2.1 hX1.2.2.2.2.2) (u_kf_fm_whole _ _) (u_rf_readExpr _) (fun z hz => RP_bnd (RP_w (u_rfl_exprOf_4 w z.2) (fun q hq => hq.2 hz)) (fun q hq => by rw [bnd_some]; exact RP_w (u_rfl_takeStatement_229 _) (fun v hv => hv.2 hq))) (fun a K1 hd => ?_) (fun a2 K2 b2 M2 hG uK uM => ?_)
  · dsimp only
    refine RP_bnd (u_kf_fm_mustFit _ _ _) (fun y hy => RP_ite (fun e => ?_) (fun e => RP_some e))
    rw [e278]
    refine st333_d ?_
    rw [fr1 hy 213 rfl]
    exact hd.1
  · have hG' := hG
    obtain ⟨x1, x2, x3, x4, x5, x6⟩ := hG
    dsimp only
    have f51 : fr [] [51] K2 (mO K2 [] [(51, upI (K2.2 51) n a2)]) := fr_m fr_0 rfl rfl
    rw [show upI (K2.2 51) n a2 n = a2 from upI_s]
    have hG2 : XG ((mO M [] [(107, upI (M.2 107) n (M.1 28))]).1 8) a2 (mO K2 [] [(51, upI (K2.2 51) n a2)]) M2 := ⟨x1, NDR_f f51 (G := []) (B := []) fr_0 rfl rfl rfl rfl x2, BP_f f51 (G := []) (B := []) fr_0 rfl rfl rfl rfl x3, x4, x5, x6⟩
    refine RR_sq (G := fun _ K3 _ M3 => LR K3 M3 ∧ NDR K3 M3 ∧ BP K3 M3 ∧ M.1 8 ≤ M3.1 8) (A := fun q => fr kF_fm_mustFit kA_fm_mustFit (mO K2 [] [(51, upI (K2.2 51) n a2)]) q) (B := fun q => UR F_rfl_exprOf_4 A_rfl_exprOf_4 M2 q) (mustFit_s hG2 w1) (u_kf_fm_mustFit _ _ _) (u_rfl_exprOf_4 w M2) (fun z hz => by rw [bnd_some]; exact RP_w (u_rfl_takeStatement_229 _) (fun v hv => hv.2 hz)) (fun a3 K3 b3 M3 hG fK3 fM3 => ?_)
    obtain ⟨y1, y2, y3, y4⟩ := hG
    rw [bnd_some]
    dsimp only
    rw [e278]
    have fK : fr kF_fm_whole wKA K K3 := fr_s fK3 (fr_m (fr_s uK (fr_s f50 fr_0 rfl rfl) rfl rfl) rfl rfl) rfl rfl
    have fM0 : fr rF_readExpr [65, 66, 67, 68, 76, 77, 78, 79, 80, 81, 82, 83, 84, 85, 86, 87, 88, 89, 90, 91, 92, 107] M M3 := fr_s fM3.1 (fr_s uM.1 (fr_s f107 fr_0 rfl rfl) rfl rfl) rfl rfl
    have fM : fr rF_readExpr wMA M (mO M3 [] [(108, upI (M3.2 108) n (M3.1 28))]) := fr_m (fr_s fM0 fr_0 rfl rfl) rfl rfl
    have k50 : K3.2 50 = upI (K.2 50) n (K.1 220) := (fr2 fK3 50 rfl).trans (fr2 uK 50 rfl)
    have k51 : K3.2 51 = upI (K.2 51) n a2 := by
      have q1 : K3.2 51 = upI (K2.2 51) n a2 := fr2 fK3 51 rfl
      rw [q1, fr2 uK 51 rfl]
      rfl
    have m107 : M3.2 107 = upI (M.2 107) n (M.1 28) := (fr2 fM3.1 107 rfl).trans (fr2 uM.1 107 rfl)
    have m108 : M3.2 108 = M.2 108 := fr2 fM0 108 rfl
    have m28 : M3.1 28 = M2.1 28 := fr1 fM3.1 28 rfl
    have hL3 : LR K3 (mO M3 [] [(108, upI (M3.2 108) n (M3.1 28))]) := y1
    have f108 : fr [] [108] M3 (mO M3 [] [(108, upI (M3.2 108) n (M3.1 28))]) := fr_m fr_0 rfl rfl
    have hXP : XP K3 (mO M3 [] [(108, upI (M3.2 108) n (M3.1 28))]) := XP_x h.1 hL3 (BP_f (F := []) (A := []) fr_0 f108 rfl rfl rfl rfl y3) (NDR_f (F := []) (A := []) fr_0 f108 rfl rfl rfl rfl y2) fK fM rfl rfl rfl
    have hDX : DX n K3 (mO M3 [] [(108, upI (M3.2 108) n (M3.1 28))]) := by
      refine DX_p h hXP ⟨fun k _ => by rw [fr2 fK 45 rfl], fun k _ => by rw [fr2 fK 46 rfl], fun k _ => by rw [fr2 fK 47 rfl], fun k _ => by rw [fr2 fK 48 rfl], fun k _ => by rw [fr2 fK 49 rfl], fun k hk => by rw [k50, upI_n hk], fun k hk => by rw [k51, upI_n hk]⟩ ⟨fun k _ => by rw [fr2 fM 101 rfl], fun k _ => by rw [fr2 fM 102 rfl], fun k _ => by rw [fr2 fM 103 rfl], fun k _ => by rw [fr2 fM 104 rfl], fun k _ => by rw [fr2 fM 105 rfl], fun k _ => by rw [fr2 fM 106 rfl], fun k hk => ?_, fun k hk => ?_⟩ (fr1 fK 224 rfl) fM rfl rfl
      · show M3.2 107 k = _
        rw [m107, upI_n hk]
      · show upI (M3.2 108) n (M3.1 28) k = _
        rw [upI_n hk, m108]
    refine RR_w (st333_s (x := x) hDX (by show x ≤ M3.1 8; omega)) (fun y z q => ?_)
    rcases q with ⟨q0, q1, q2, q3, q4, q5⟩ | q
    · refine Or.inl ⟨q0, q1, q2, ?_, fr_s q3 fK rfl rfl, fr_s q4 fM rfl rfl, q5⟩
      rw [fr2 q3 50 rfl, fr2 q3 51 rfl, fr2 q4 107 rfl, fr2 q4 108 rfl, k50, k51]
      show EXR (upI (K.2 50) n (K.1 220) n) (upI (K.2 51) n a2 n) (M3.2 107 n) (upI (M3.2 108) n (M3.1 28) n)
      rw [m107, upI_s, upI_s, upI_s, upI_s, m28]
      exact ⟨n220, x4.1, x4.2⟩
    · exact Or.inr q
end WOR
