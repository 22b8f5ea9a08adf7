/-! ===== EXPRs: what stands ahead of an operand ===== -/
theorem chk_s {l l' F : List Nat} (h : chk l F = true) (hs : l'.all (fun x => l.contains x) = true) : chk l' F = true := by
  refine List.all_eq_true.mpr (fun x hx => ?_)
  have h1 := List.all_eq_true.mp hs x hx
  exact chk_1 h (List.contains_iff_mem.mp h1)
def BP (K M : mR) : Prop := CNq K M ∧ NC K M ∧ HD K M ∧ HU K M ∧ IN K M ∧ ME K M ∧ PA K M
theorem BP_f {F A G B : List Nat} {K M K' M' : mR} (hK : fr F A K K') (hM : fr G B M M') (c1 : chk [214, 215, 216, 217, 219, 221, 222, 223] F = true) (c2 : chk [10, 11, 12, 13, 14, 39, 40, 41, 42] A = true) (c3 : chk [6, 13, 19, 20, 21, 22, 23, 24, 25, 26] G = true) (c4 : chk [4, 16, 17, 29, 30, 31, 32, 33, 34, 35, 46, 47, 48, 49] B = true) (h : BP K M) : BP K' M' := by
  obtain ⟨h1, h2, h3, h4, h5, h6, h7⟩ := h
  exact ⟨CN_f hK hM (chk_s c1 rfl) (chk_s c2 rfl) (chk_s c3 rfl) (chk_s c4 rfl) h1, NC_f hK hM (chk_s c1 rfl) (chk_s c2 rfl) (chk_s c3 rfl) (chk_s c4 rfl) h2, HD_f hK hM (chk_s c1 rfl) (chk_s c2 rfl) (chk_s c3 rfl) (chk_s c4 rfl) h3, HU_f hK hM (chk_s c1 rfl) (chk_s c2 rfl) (chk_s c3 rfl) (chk_s c4 rfl) h4, IN_f hK hM (chk_s c1 rfl) (chk_s c2 rfl) (chk_s c3 rfl) (chk_s c4 rfl) h5, ME_f hK hM (chk_s c1 rfl) (chk_s c2 rfl) (chk_s c3 rfl) (chk_s c4 rfl) h6, PA_f hK hM (chk_s c1 rfl) (chk_s c2 rfl) (chk_s c3 rfl) (chk_s c4 rfl) h7⟩
def EB (K M : mR) : Prop := LR K M ∧ NDR K M ∧ BP K M ∧ K.1 230 = M.1 74 ∧ M.1 74 ≤ 24 ∧ K.1 231 = M.1 64 ∧ -1 ≤ M.1 64 ∧ M.1 64 < M.1 25
/-- an operand is wanted -/
def EW (K M : mR) : Prop := ∃ t n p B, STK K M t (M.1 73) n p B (M.1 74) ∧ 3 ≤ t ∧ K.1 228 = n ∧ K.1 229 = p ∧ B ≤ M.1 28 ∧ M.1 75 = 0
/-- an operand is there -/
def EU (K M : mR) (md : Int) : Prop := ∃ t n p B, STK K M t (M.1 73) n p B (M.1 74) ∧ 3 ≤ t ∧ K.1 228 = n ∧ K.1 229 = p + 1 ∧ B ≤ K.2 70 p ∧ K.2 70 p + 1 = M.1 28 ∧ OP K (K.2 70 p) (M.1 69) (M.1 71) (M.1 72) ∧ M.1 75 = md
def D2 (K : mR) : Prop := K.1 206 ≠ 257 ∧ K.1 206 ≠ 256 ∧ K.1 206 ≠ 329 ∧ K.1 206 ≠ 40 ∧ K.1 206 ≠ 126 ∧ K.1 206 ≠ 33 ∧ K.1 206 ≠ 45
theorem AG_open {K K' M M1 M' : mR} {O F A G C : List Nat} {kd sg n p B : Int} (hO : OPN O M M1 kd sg) (fM : fr G C M1 M') (fK : fr F A K K') (c2 : chk [18, 22, 24, 70] A = true) (c4 : chk [76, 78, 79, 80, 81, 83, 84, 85, 87, 89, 90, 91, 92] C = true) (e68 : ∀ i, i < n → K'.2 68 i = K.2 68 i) : AG n p B (M.1 73) (9 * M.1 73) K M K' M' := by
  obtain ⟨o1, o2, o3, o4, o5, o6, o7⟩ := hO
  refine ⟨e68, fun i _ => ?_, fun i _ => ?_, fun i hi => ?_, fun i hi => ?_⟩
  · rw [fr2 fK 70 (chk_1 c2 (by decide))]
  · rw [fr2 fK 18 (chk_1 c2 (by decide)), fr2 fK 22 (chk_1 c2 (by decide)), fr2 fK 24 (chk_1 c2 (by decide))]
    exact ⟨rfl, rfl, rfl⟩
  · rw [fr2 fM 76 (chk_1 c4 (by decide)), fr2 fM 78 (chk_1 c4 (by decide)), fr2 fM 79 (chk_1 c4 (by decide)), fr2 fM 85 (chk_1 c4 (by decide)), fr2 fM 89 (chk_1 c4 (by decide)), fr2 fM 91 (chk_1 c4 (by decide)), fr2 fM 87 (chk_1 c4 (by decide)), fr2 fM 90 (chk_1 c4 (by decide)), fr2 fM 92 (chk_1 c4 (by decide)), o3, o4, o5, upI_n (by omega), upI_n (by omega), upI_n (by omega), fr2 o1 85 rfl, fr2 o1 89 rfl, fr2 o1 91 rfl, fr2 o1 87 rfl, fr2 o1 90 rfl, fr2 o1 92 rfl]
    exact ⟨rfl, rfl, rfl, rfl, rfl, rfl, rfl, rfl, rfl⟩
  · rw [fr2 fM 80 (chk_1 c4 (by decide)), fr2 fM 81 (chk_1 c4 (by decide)), fr2 fM 83 (chk_1 c4 (by decide)), fr2 fM 84 (chk_1 c4 (by decide)), o7 i hi, fr2 o1 81 rfl, fr2 o1 83 rfl, fr2 o1 84 rfl]
    exact ⟨rfl, rfl, rfl, rfl⟩
section PRE
variable {K M : mR}
theorem deepen_k : RP (kf_fm_deepen K) (fun y => (cut (K.1 230 + 1) ≤ 24 ∧ y = (0, 0, mO K [(230, cut (K.1 230 + 1))] [])) ∨ (24 < cut (K.1 230 + 1) ∧ (y.1 ≠ 0 ∨ D2 y.2.2))) := by
  have b1 : RP (kfl_fm_deepen_97 (mO K [(230, cut (K.1 230 + 1))] [])) (fun y => (cut (K.1 230 + 1) ≤ 24 ∧ y = (0, 0, mO K [(230, cut (K.1 230 + 1))] [])) ∨ (24 < cut (K.1 230 + 1) ∧ (y.1 ≠ 0 ∨ D2 y.2.2))) := by
    unfold kfl_fm_deepen_97 kfl_fm_deepen_102
    refine RP_ite (fun g => RP_some (Or.inl ⟨g, rfl⟩)) (fun g => ?_)
    have g : ¬ cut (K.1 230 + 1) ≤ 24 := g
    rw [if_neg (show ¬ (1 : Int) = 0 by decide)]
    exact RP_w (thr_l (A := fun y3 => some (0, 0, y3.2.2)) (fail_1 _ _ _)) (fun z hz => Or.inr ⟨by omega, Or.inl hz⟩)
  unfold kf_fm_deepen
  refine RP_ite (fun _ => b1) (fun g1 => RP_ite (fun _ => b1) (fun g2 => RP_ite (fun _ => b1) (fun g3 => RP_ite (fun _ => b1) (fun g4 => RP_ite (fun _ => b1) (fun g5 => RP_ite (fun _ => b1) (fun g6 => RP_ite (fun _ => b1) (fun g7 => ?_)))))))
  unfold kfl_fm_deepen_102
  refine RP_ite (fun g => RP_some (Or.inl ⟨g, rfl⟩)) (fun g => ?_)
  have g : ¬ cut (K.1 230 + 1) ≤ 24 := g
  rw [if_pos rfl]
  exact RP_some (Or.inr ⟨by omega, Or.inr ⟨g1, g2, g3, g4, g5, g6, g7⟩⟩)
/-- a CHOICE more -/
def BGC (M M' : mR) : Prop := OPN [73, 74, 75] M M' 0 0 ∧ M'.1 74 = M.1 74 + 1 ∧ M'.1 75 = 0
theorem begin_r (hf : M.1 10 = 0) (h0 : 0 ≤ M.1 73) (h1 : M.1 73 ≤ 1000) (d0 : 0 ≤ M.1 74) (d1 : M.1 74 ≤ 24) : RP (rf_beginChoice M) (fun z => (M.1 74 < 24 ∧ BGC M z.2) ∨ (M.1 74 = 24 ∧ 0 < z.2.1 10)) := by
  unfold rf_beginChoice rfl_beginChoice_26 rfl_beginChoice_54
  rw [if_pos (show M.1 10 ≤ 0 by omega)]
  refine RP_ite (fun g => RP_bnd (wrong_1 (by decide)) (fun z hz => ?_)) (fun g => ?_)
  · rw [if_neg (by omega)]
    exact RP_some (Or.inr ⟨g, hz⟩)
  · rw [if_pos (show M.1 10 ≤ 0 by omega), cut_i (z := M.1 74 + 1) (by omega) (by omega)]
    refine RP_bnd (open_r (M := mO M [(74, M.1 74 + 1)] []) h0 h1) (fun z hz => ?_)
    obtain ⟨o1, o2, o3, o4, o5, o6, o7⟩ := hz
    refine RP_some (Or.inl ⟨by omega, ⟨?_, o2, o3, o4, o5, o6, o7⟩, fr1 o1 74 rfl, rfl⟩)
    exact fr_m (fr_s (u' := [73, 74, 75]) (v' := [76, 77, 78, 79, 80]) o1 (fr_m fr_0 rfl rfl) rfl rfl) rfl rfl
theorem STK_beg {K' M' : mR} {F A : List Nat} {t n p B d : Int} (hB : BGC M M') (hS : STK K M t (M.1 73) n p B d) (ht : t < 3) (fK : fr F A K K') (c2 : chk [18, 22, 24, 68, 70] A = true) : STK K' M' 3 (M.1 73 + 1) n p B (d + 1) := by
  obtain ⟨b5, b3, b4⟩ := hB
  have hA : AG n p B (M.1 73) (9 * M.1 73) K M K' M' := AG_open b5 (G := []) (C := []) fr_0 fK (chk_s c2 rfl) rfl (fun i _ => by rw [fr2 fK 68 (chk_1 c2 (by decide))])
  obtain ⟨o1, o2, o3, o4, o5, o6, o7⟩ := b5
  refine STK_ch (STK_c hS hA (Int.le_refl _)) ht ?_ (Or.inl ⟨?_, rfl, rfl, rfl⟩) (WTS_n (j := 0) ⟨rfl, rfl, rfl⟩ 9 (fun x _ hx => ?_))
  · rw [o3, upI_s]
  · rw [o5, upI_s]
  · rw [o6 x (by omega) (by omega)]
    decide
theorem EB_f {F A G B : List Nat} {K' M' : mR} (h : EB K M) (hL : LR K' M') (hK : fr F A K K') (hM : fr G B M M') (c1 : chk [214, 215, 216, 217, 219, 220, 221, 222, 223, 231] F = true) (c2 : chk [10, 11, 12, 13, 14, 18, 19, 39, 40, 41, 42] A = true) (c3 : chk [6, 13, 19, 20, 21, 22, 23, 24, 25, 26, 28, 64] G = true) (c4 : chk [4, 16, 17, 29, 30, 31, 32, 33, 34, 35, 46, 47, 48, 49, 65, 67] B = true) (hd : K'.1 230 = M'.1 74) (hd2 : M'.1 74 ≤ 24) : EB K' M' := by
  obtain ⟨h1, h2, h3, h4, h5, h6, h7, h8⟩ := h
  refine ⟨hL, NDR_f hK hM (chk_s c1 rfl) (chk_s c2 rfl) (chk_s c3 rfl) (chk_s c4 rfl) h2, BP_f hK hM (chk_s c1 rfl) (chk_s c2 rfl) (chk_s c3 rfl) (chk_s c4 rfl) h3, hd, hd2, ?_, ?_, ?_⟩
  · rw [fr1 hK 231 (chk_1 c1 (by decide)), fr1 hM 64 (chk_1 c3 (by decide))]
    exact h6
  · rw [fr1 hM 64 (chk_1 c3 (by decide))]
    exact h7
  · rw [fr1 hM 64 (chk_1 c3 (by decide)), fr1 hM 25 (chk_1 c3 (by decide))]
    exact h8
/-- the class opens a mark and reads on, the reference has its frame -/
theorem opn_s {O : List Nat} {M1 : mR} {kd sg u : Int} (hL : LR K M) (hO : OPN O M M1 kd sg) (cO : chk [6, 7, 8, 9, 10, 12, 13] O = true) (h0 : M.1 7 ≠ 0) (hn : 0 ≤ K.1 228 ∧ K.1 228 < 288) : RR (kf_fm_open u K) (rf_next M1) (fun y z => (y.1 = 0 ∧ (LR y.2.2 z.2 ∧ fr [205, 206, 207, 208, 209, 210, 211, 212, 228] [68, 69] K y.2.2 ∧ y.2.2.1 228 = K.1 228 + 1 ∧ y.2.2.2 68 = upI (K.2 68) (K.1 228) u ∧ fr rF_next rA_next M1 z.2 ∧ M.1 8 + 1 ≤ z.2.1 8)) ∨ (y.1 ≠ 0 ∧ 0 < z.2.1 10)) := by
  unfold kf_fm_open kfl_fm_open_25
  rw [if_pos hn.2, cut_i (by omega) (by omega)]
  have f1 : fr [205, 206, 207, 208, 209, 210, 211, 212, 228] [68, 69] K (mO K [(228, K.1 228 + 1)] [(68, upI (K.2 68) (K.1 228) u), (69, upI (K.2 69) (K.1 228) (K.1 207))]) := fr_m fr_0 rfl rfl
  have fo := hO.1
  have hL1 : LR (mO K [(228, K.1 228 + 1)] [(68, upI (K.2 68) (K.1 228) u), (69, upI (K.2 69) (K.1 228) (K.1 207))]) M1 := LR_g hL (fr_m (u := [228]) (v := [68, 69]) fr_0 rfl rfl) fo rfl rfl (chk_s cO rfl) rfl hL.2.2.2.1 ((fr1 fo 10 (chk_1 cO (by decide))).trans hL.2.2.2.2)
  have e7 : M1.1 7 = M.1 7 := fr1 fo 7 (chk_1 cO (by decide))
  have e8 : M1.1 8 = M.1 8 := fr1 fo 8 (chk_1 cO (by decide))
  intro y z hy hz
  cases hX : kf_tx_advance (mO K [(228, K.1 228 + 1)] [(68, upI (K.2 68) (K.1 228) u), (69, upI (K.2 69) (K.1 228) (K.1 207))]) with
  | none => rw [hX] at hy; cases hy
  | some x =>
    rw [hX, bnd_some] at hy
    rcases adv_s hL1 (by omega) x z hX hz with ⟨a1, a2, a3, a4, a5⟩ | ⟨a1, a2⟩
    · rw [if_pos a1] at hy
      cases hy
      refine Or.inl ⟨rfl, a2, fr_s a3 f1 rfl rfl, fr1 a3 228 rfl, fr2 a3 68 rfl, a4, by omega⟩
    · rw [if_neg a1] at hy
      cases hy
      exact Or.inr ⟨a1, a2⟩
/-- ~ ! - -/
theorem pre_s {v i : Int} (hE : EB K M) (hW : EW K M) (hw : M.1 7 = 126 ∨ M.1 7 = 33 ∨ M.1 7 = 45) : RR (kfl_fm_prefixes_76 v i K) (rfl_wantUnit_32 (M.1 8) M) (PB (fun u M' => ∃ K', u = Sum.inl (v, cut (i + 1), K') ∧ EB K' M' ∧ EW K' M' ∧ M.1 8 + 1 ≤ M'.1 8) (fun u => ∃ e : Int × mR, u = Sum.inr (Sum.inr e) ∧ e.1 ≠ 0)) := by
  obtain ⟨hL, hN, hP, hd, hd2, ha, ha1, ha2⟩ := id hE
  obtain ⟨t, n, p, B, hS, ht, hn, hp, hB, hm⟩ := hW
  have sb := STK_b hS
  have hX := hL.2.1
  have hf := hL.2.2.2.2
  unfold kfl_fm_prefixes_76 rfl_wantUnit_32
  rw [hd]
  by_cases hdp : M.1 74 < 24
  · rw [if_pos hdp, if_neg (show ¬ M.1 74 = 24 by omega)]
    unfold kfl_fm_prefixes_100 rfl_wantUnit_50
    rw [if_pos (show M.1 10 ≤ 0 by omega), hd, cut_i (z := M.1 74 + 1) (by omega) (by omega)]
    have step : ∀ u : Int, ((M.1 7 = 126 ∧ u = 126) ∨ (M.1 7 = 33 ∧ u = 33) ∨ (M.1 7 = 45 ∧ u = 405)) → RR (kfl_fm_prefixes_136 v i u (mO K [(230, M.1 74 + 1)] [])) (bnd (rf_open 1 (M.1 8) (M.1 7) (mO M [(74, M.1 74 + 1)] [])) fun y26 => rfl_wantUnit_78 y26.2) (PB (fun u M' => ∃ K', u = Sum.inl (v, cut (i + 1), K') ∧ EB K' M' ∧ EW K' M' ∧ M.1 8 + 1 ≤ M'.1 8) (fun u => ∃ e : Int × mR, u = Sum.inr (Sum.inr e) ∧ e.1 ≠ 0)) := by
      intro u hu
      unfold kfl_fm_prefixes_136 kfl_fm_prefixes_144
      refine RR_r (open_r (M := mO M [(74, M.1 74 + 1)] []) sb.2.2.1 (show M.1 73 ≤ 1000 by omega)) (fun z1 hO9 => ?_)
      unfold rfl_wantUnit_78
      have hO : OPN [73, 74] M z1.2 1 (M.1 7) := ⟨fr_s hO9.1 (fr_m fr_0 rfl rfl) rfl rfl, hO9.2⟩
      have e74' : z1.2.1 74 = M.1 74 + 1 := fr1 hO9.1 74 rfl
      have hL1 : LR (mO K [(230, M.1 74 + 1)] []) M := hL
      refine RR_pq (opn_s (u := u) hL1 hO rfl (show M.1 7 ≠ 0 by omega) (show 0 ≤ K.1 228 ∧ K.1 228 < 288 by omega)) (fun z hz => RP_some hz) (fun y hy => ⟨_, rfl, hy⟩) (fun y z h1 hG => ?_)
      obtain ⟨g1, g2, g3, g4, g5, g6⟩ := hG
      have hO' := hO
      obtain ⟨o1, o2, o3, o4, o5, o6, o7⟩ := hO
      have g3 : y.2.2.1 228 = K.1 228 + 1 := g3
      have g4 : y.2.2.2 68 = upI (K.2 68) (K.1 228) u := g4
      have o2 : z1.2.1 73 = M.1 73 + 1 := o2
      have o3 : z1.2.2 76 = upI (M.2 76) (M.1 73) 1 := o3
      have o4 : z1.2.2 78 = upI (M.2 78) (M.1 73) (M.1 7) := o4
      have fK : fr [205, 206, 207, 208, 209, 210, 211, 212, 228, 230] [68, 69] K y.2.2 := fr_s g2 (fr_m fr_0 rfl rfl) rfl rfl
      have fM : fr [7, 8, 9, 10, 11, 12, 73, 74] [76, 77, 78, 79, 80] M z.2 := fr_s g5 (fr_s o1 fr_0 rfl rfl) rfl rfl
      have e74 : z.2.1 74 = M.1 74 + 1 := (fr1 g5 74 rfl).trans e74'
      have e73 : z.2.1 73 = M.1 73 + 1 := (fr1 g5 73 rfl).trans o2
      refine RR_some (Or.inl ⟨_, rfl, EB_f hE g1 fK fM rfl rfl rfl rfl ?_ (by show z.2.1 74 ≤ 24; omega), ⟨4, n + 1, p, B, ?_, by decide, by omega, ?_, ?_, ?_⟩, g6⟩)
      · rw [e74]
        exact fr1 g2 230 rfl
      · rw [e73, e74]
        have hA : AG n p B (M.1 73) (9 * M.1 73) K M y.2.2 z.2 := AG_open hO' g5 fK rfl rfl (fun i hi => by rw [g4, upI_n (by omega)])
        refine STK_pre (STK_c hS hA (Int.le_refl _)) ht ?_ ?_
        · rw [fr2 g5 76 rfl, o3, upI_s]
        · rw [fr2 g5 78 rfl, o4, upI_s, g4, ← hn, upI_s]
          exact hu
      · exact (fr1 fK 229 rfl).trans hp
      · rw [fr1 fM 28 rfl]
        exact hB
      · exact (fr1 fM 75 rfl).trans hm
    rw [hX.1]
    rcases hw with e | e | e
    · rw [e, if_neg (show ¬ wm 126 = 45 by decide)]
      have := step 126 (Or.inl ⟨e, rfl⟩)
      rw [e] at this
      exact this
    · rw [e, if_neg (show ¬ wm 33 = 45 by decide)]
      have := step 33 (Or.inr (Or.inl ⟨e, rfl⟩))
      rw [e] at this
      exact this
    · rw [e, if_pos (show wm 45 = 45 by decide)]
      have := step 405 (Or.inr (Or.inr ⟨e, rfl⟩))
      rw [e] at this
      exact this
  · rw [if_neg hdp, if_pos (show M.1 74 = 24 by omega)]
    refine RR_xx (thr_x (fail_1 _ _ _) (fun y hy => ⟨_, rfl, hy⟩)) (RP_bnd (wrong_1 (by decide)) (fun z hz => ?_))
    exact RP_w (u_rfl_wantUnit_50 (M.1 8) z.2) (fun w hw => hw.2 hz)
end PRE
