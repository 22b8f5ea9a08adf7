/-! ===== statements whole ===== -/
def iKA : List Nat := [18, 19, 20, 21, 22, 23, 24, 48, 49, 68, 69, 70]
def iMA : List Nat := [65, 66, 67, 68, 76, 77, 78, 79, 80, 81, 82, 83, 84, 85, 86, 87, 88, 89, 90, 91, 92, 105, 106]
section IND
variable {K M : mR} {n : Int}
theorem ind_s {v1 : Int} {k1 : mR → Option (Int × Int × mR)} {l : mR → Option (Int × mR)} {G' : Int → mR → Int → mR → Prop} (h : DX n K M) (hv : v1 = M.1 64) (hs : ∀ m, 0 < m.1 10 → RP (l m) (fun w => 0 < w.2.1 10)) (cont : ∀ K2 M2, DX n K2 M2 → EXR (K2.2 48 n) (K2.2 49 n) (M2.2 105 n) (M2.2 106 n) → fr kF_fm_whole iKA K K2 → fr rF_readExpr iMA M M2 → M.1 8 + 1 ≤ M2.1 8 → RR (k1 K2) (l M2) (GV G')) : RR (bnd (kf_tx_expect 91 K) fun y25 => if y25.1 = 0 then bnd (kf_fm_whole v1 (mO y25.2.2 [] [(48, upI (y25.2.2.2 48) n (y25.2.2.1 220))])) fun y28 => if y28.1 = 0 then bnd (kf_tx_expect 93 (mO y28.2.2 [] [(49, upI (y28.2.2.2 49) n y28.2.1)])) fun y31 => if y31.1 = 0 then k1 y31.2.2 else some (y31.1, 0, y31.2.2) else some (y28.1, 0, y28.2.2) else some (y25.1, 0, y25.2.2)) (bnd (rf_takeIndex n M) fun y => l y.2) (GV G') := by
  unfold rf_takeIndex
  rw [bnd_a]
  refine RR_sq (G := fun _ K1 _ M1 => LR K1 M1 ∧ fr kF_tx_expect kA_tx_expect K K1 ∧ fr rF_need rA_need M M1 ∧ M.1 8 + 1 ≤ M1.1 8) (A := fun _ => True) (B := fun _ => True) (exp_s h.1.1 (c := 91) (by omega)) (RP_T _) (RP_T _) (fun z hz => RP_bnd (RP_w (u_rfl_takeIndex_6 n z.2) (fun q hq => hq.2 hz)) (fun q hq => hs q.2 hq)) (fun a K1 b M1 hG _ _ => ?_)
  obtain ⟨g1, g2, g3, g4⟩ := hG
  have hD1 : DX n K1 M1 := DX_f h g1 g2 g3 rfl rfl rfl rfl
  have n220 : K1.1 220 = M1.1 28 := hD1.1.2.2.2.1.1.1
  dsimp only
  unfold rfl_takeIndex_6
  rw [if_pos g1.2.2.2.2, bnd_a]
  have f48 : fr [] [48] K1 (mO K1 [] [(48, upI (K1.2 48) n (K1.1 220))]) := fr_m fr_0 rfl rfl
  have f105 : fr [] [105] M1 (mO M1 [] [(105, upI (M1.2 105) n (M1.1 28))]) := fr_m fr_0 rfl rfl
  have hX1 : XP (mO K1 [] [(48, upI (K1.2 48) n (K1.1 220))]) (mO M1 [] [(105, upI (M1.2 105) n (M1.1 28))]) := XP_f hD1.1 g1 f48 f105 rfl rfl rfl rfl
  refine RR_sx (A := fun q => fr kF_fm_whole kA_fm_whole (mO K1 [] [(48, upI (K1.2 48) n (K1.1 220))]) q) (B := fun q => UR rF_readExpr rA_readExpr (mO M1 [] [(105, upI (M1.2 105) n (M1.1 28))]) q) (whole_s (v := v1) hX1.1 hX1.2.2.2.1 hX1.2.1 (by rw [hv]; exact (fr1 g3 64 rfl).symm) hX1.2.2.2.2.1 hX1.2.2.2.2.2) (u_kf_fm_whole _ _) (u_rf_readExpr _) (fun z hz => RP_bnd (RP_w (u_rfl_takeIndex_27 n z.2) (fun q hq => hq.2 hz)) (fun q hq => hs q.2 hq)) (fun a K1 hd => ?_) (fun a2 K2 b2 M2 hG uK uM => ?_)
  · dsimp only
    exact thr_l (A := fun y31 => k1 y31.2.2) (exp_d (show (mO K1 [] [(49, upI (K1.2 49) n a)]).1 213 = 1 from hd.1))
  · obtain ⟨x1, x2, x3, x4, x5, x6⟩ := hG
    dsimp only
    unfold rfl_takeIndex_27
    rw [bnd_a]
    have hL2 : LR (mO K2 [] [(49, upI (K2.2 49) n a2)]) (mO M2 [] [(106, upI (M2.2 106) n (M2.1 28))]) := x1
    refine RR_sq (G := fun _ K3 _ M3 => LR K3 M3 ∧ fr kF_tx_expect kA_tx_expect (mO K2 [] [(49, upI (K2.2 49) n a2)]) K3 ∧ fr rF_need rA_need (mO M2 [] [(106, upI (M2.2 106) n (M2.1 28))]) M3 ∧ M2.1 8 + 1 ≤ M3.1 8) (A := fun _ => True) (B := fun _ => True) (exp_s hL2 (c := 93) (by omega)) (RP_T _) (RP_T _) (fun z hz => by rw [bnd_some]; exact hs _ hz) (fun a3 K3 b3 M3 hG _ _ => ?_)
    obtain ⟨y1, y2, y3, y4⟩ := hG
    rw [bnd_some]
    dsimp only
    have f49 : fr [] [49] K2 (mO K2 [] [(49, upI (K2.2 49) n a2)]) := fr_m fr_0 rfl rfl
    have f106 : fr [] [106] M2 (mO M2 [] [(106, upI (M2.2 106) n (M2.1 28))]) := fr_m fr_0 rfl rfl
    have fKa : fr kF_tx_expect [49] K2 K3 := fr_s y2 (fr_s f49 fr_0 rfl rfl) rfl rfl
    have fMa : fr rF_need [106] M2 M3 := fr_s y3 (fr_s f106 fr_0 rfl rfl) rfl rfl
    have fK : fr kF_fm_whole iKA K K3 := fr_s fKa (fr_s uK (fr_s f48 (fr_s g2 fr_0 rfl rfl) rfl rfl) rfl rfl) rfl rfl
    have fM : fr rF_readExpr iMA M M3 := fr_s fMa (fr_s uM.1 (fr_s f105 (fr_s g3 fr_0 rfl rfl) rfl rfl) rfl rfl) rfl rfl
    have k48 : K3.2 48 = upI (K.2 48) n (K1.1 220) := by
      have q : K3.2 48 = upI (K1.2 48) n (K1.1 220) := (fr2 fKa 48 rfl).trans (fr2 uK 48 rfl)
      rw [q, fr2 g2 48 rfl]
    have k49 : K3.2 49 = upI (K.2 49) n a2 := by
      have q : K3.2 49 = upI (K2.2 49) n a2 := fr2 y2 49 rfl
      have q2 : K2.2 49 = K1.2 49 := fr2 uK 49 rfl
      rw [q, q2, fr2 g2 49 rfl]
    have m105 : M3.2 105 = upI (M.2 105) n (M1.1 28) := by
      have q : M3.2 105 = upI (M1.2 105) n (M1.1 28) := (fr2 fMa 105 rfl).trans (fr2 uM.1 105 rfl)
      rw [q, fr2 g3 105 rfl]
    have m106 : M3.2 106 = upI (M.2 106) n (M2.1 28) := by
      have q : M3.2 106 = upI (M2.2 106) n (M2.1 28) := fr2 y3 106 rfl
      have q2 : M2.2 106 = M1.2 106 := fr2 uM.1 106 rfl
      rw [q, q2, fr2 g3 106 rfl]
    have hXP : XP K3 M3 := XP_x h.1 y1 (BP_f fKa fMa rfl rfl rfl rfl x3) (NDR_f fKa fMa rfl rfl rfl rfl x2) fK fM rfl rfl rfl
    have x6 : M1.1 8 ≤ M2.1 8 := x6
    refine cont K3 M3 (DX_p h hXP ⟨fun k _ => by rw [fr2 fK 45 rfl], fun k _ => by rw [fr2 fK 46 rfl], fun k _ => by rw [fr2 fK 47 rfl], fun k hk => by rw [k48, upI_n hk], fun k hk => by rw [k49, upI_n hk], fun k _ => by rw [fr2 fK 50 rfl], fun k _ => by rw [fr2 fK 51 rfl]⟩ ⟨fun k _ => by rw [fr2 fM 101 rfl], fun k _ => by rw [fr2 fM 102 rfl], fun k _ => by rw [fr2 fM 103 rfl], fun k _ => by rw [fr2 fM 104 rfl], fun k hk => by rw [m105, upI_n hk], fun k hk => by rw [m106, upI_n hk], fun k _ => by rw [fr2 fM 107 rfl], fun k _ => by rw [fr2 fM 108 rfl]⟩ (fr1 fK 224 rfl) fM rfl rfl) ?_ fK fM (by omega)
    rw [k48, k49, m105, m106, upI_s, upI_s, upI_s, upI_s]
    exact ⟨n220, x4.1, x4.2⟩
def SG1 (n x : Int) (K2 M2 : mR) : Prop := XP K2 M2 ∧ DE K2 M2 ∧ M2.1 99 = n + 1 ∧ x ≤ M2.1 8
theorem DX_e {x : Int} (h : DX n K M) (hx : x ≤ M.1 8) (hd : DE1 (M.1 20) (M.1 21) (M.1 22) (M.2 29) (M.2 34) (K.2 45 n) (K.2 46 n) (K.2 47 n) (K.2 48 n) (K.2 49 n) (K.2 50 n) (K.2 51 n) (M.2 101 n) (M.2 102 n) (M.2 103 n) (M.2 104 n) (M.2 105 n) (M.2 106 n) (M.2 107 n) (M.2 108 n)) : SG1 n x K M := by
  obtain ⟨h1, h2, h3, h4, h5⟩ := h
  refine ⟨h1, ⟨⟨by omega, by omega⟩, fun k k0 k1 => ?_⟩, h3, hx⟩
  by_cases e : k = n
  · subst e
    exact hd
  · exact h5 k k0 (by omega)
end IND
section STM
variable {K M : mR}
/-- the statement's row, as both begin it -/
theorem row_s {u : Int} (h : XP K M) (hD : DE K M) (hb : M.1 99 ≤ 4000) : DX (M.1 99) (mO K [(224, M.1 99 + 1)] [(45, upI (K.2 45) (M.1 99) u), (46, upI (K.2 46) (M.1 99) (-1)), (47, upI (K.2 47) (M.1 99) (-1)), (49, upI (K.2 49) (M.1 99) (-1)), (51, upI (K.2 51) (M.1 99) (-1))]) (mO M [(99, M.1 99 + 1)] [(101, upI (M.2 101) (M.1 99) (M.1 7))]) := by
  have fK : fr [224] [45, 46, 47, 49, 51] K (mO K [(224, M.1 99 + 1)] [(45, upI (K.2 45) (M.1 99) u), (46, upI (K.2 46) (M.1 99) (-1)), (47, upI (K.2 47) (M.1 99) (-1)), (49, upI (K.2 49) (M.1 99) (-1)), (51, upI (K.2 51) (M.1 99) (-1))]) := fr_m fr_0 rfl rfl
  have fM : fr [99] [101] M (mO M [(99, M.1 99 + 1)] [(101, upI (M.2 101) (M.1 99) (M.1 7))]) := fr_m fr_0 rfl rfl
  refine ⟨XP_f h h.1 fK fM rfl rfl rfl rfl, rfl, rfl, hD.1.2, fun k k0 k1 => ?_⟩
  have ne : k ≠ M.1 99 := by omega
  show DE1 (M.1 20) (M.1 21) (M.1 22) (M.2 29) (M.2 34) (upI (K.2 45) (M.1 99) u k) (upI (K.2 46) (M.1 99) (-1) k) (upI (K.2 47) (M.1 99) (-1) k) (K.2 48 k) (upI (K.2 49) (M.1 99) (-1) k) (K.2 50 k) (upI (K.2 51) (M.1 99) (-1) k) (upI (M.2 101) (M.1 99) (M.1 7) k) (M.2 102 k) (M.2 103 k) (M.2 104 k) (M.2 105 k) (M.2 106 k) (M.2 107 k) (M.2 108 k)
  rw [upI_n ne, upI_n ne, upI_n ne, upI_n ne, upI_n ne, upI_n ne]
  exact hD.2 k k0 k1
end STM
