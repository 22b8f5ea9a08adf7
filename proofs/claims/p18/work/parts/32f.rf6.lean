/-! ===== state whole ===== -/
section ST6
variable {K M : mR} {s d : Int}
theorem exw_s (h : LR K M) {c : Int} (hc : (33 ≤ c ∧ c ≤ 126) ∨ (300 ≤ c ∧ c ≤ 330)) (hw : M.1 7 = c) : RR (kf_tx_expect c K) (rf_next M) (fun y z => (y.1 = 0 ∧ AVP K M y z) ∨ (y.1 ≠ 0 ∧ 0 < z.2.1 10)) := by
  have hX := h.2.1
  unfold kf_tx_expect kfl_tx_expect_12
  rw [hX.1, if_pos ((wm_big hX.2.1 hc).mpr hw)]
  intro y z hy hz
  cases hk : kf_tx_advance K with
  | none => rw [hk] at hy; cases hy
  | some x =>
    rw [hk, bnd_some] at hy
    rcases adv_s h (by omega) x z hk hz with ⟨a, b⟩ | ⟨a, b⟩
    · rw [if_pos a] at hy
      cases hy
      exact Or.inl ⟨rfl, b⟩
    · rw [if_neg a] at hy
      cases hy
      exact Or.inr ⟨a, b⟩
theorem exw_x (h : LR K M) {c : Int} (hc : (33 ≤ c ∧ c ≤ 126) ∨ (300 ≤ c ∧ c ≤ 330)) (hw : M.1 7 ≠ c) : RP (kf_tx_expect c K) (fun y => y.1 ≠ 0) := by
  have hX := h.2.1
  unfold kf_tx_expect
  rw [hX.1, if_neg (fun q => hw ((wm_big hX.2.1 hc).mp q))]
  exact thr_l (refuse_1 _)
def sxI (s d x : Int) (t : Int × mR) (M : mR) : Prop := SB s d t.2 M ∧ t.1 = M.2 41 d ∧ M.2 42 d = 0 ∧ x ≤ M.1 8
def sxE (s d x : Int) (u : Sum mR (Int × mR)) (y : mR) : Prop := sel (fun K => SB s d K y ∧ y.2 42 d = 0 ∧ x ≤ y.1 8) (fun e => e.1 ≠ 0 ∧ 0 < y.1 10) u
theorem extracts_s {x : Int} {t : Int × mR} (hI : sxI s d x t M) : RR (whl (kfb_rd_state_124 s) t) (whl (rfb_takeState_249 d) M) (sxE s d x) := by
  refine RR_whl2 (I := sxI s d x) (fun t M hI => ?_) hI
  obtain ⟨i, K⟩ := t
  obtain ⟨hB, hi, h42, hx⟩ := hI
  have hB : SB s d K M := hB
  have hi : i = M.2 41 d := hi
  have hX := hB.1.2.1
  have hf := hB.1.2.2.2.2
  have c7 := hB.2.2.2.2.2.1.2.2.2.1
  unfold kfb_rd_state_124 rfb_takeState_249
  show RR (if (6 : Int) < i then some (Sum.inr (Sum.inl K)) else if K.1 206 = 305 then bnd (kf_rd_extract s i K) fun y21 => if y21.1 = 0 then some (Sum.inl (cut (i + 1), y21.2.2)) else some (Sum.inr (Sum.inr (y21.1, y21.2.2))) else some (Sum.inr (Sum.inl K))) _ _
  rw [if_neg (by omega), if_pos hf, hX.1]
  refine RR_ii (wm_big hX.2.1 (by omega)) (fun _ w2 => ?_) (fun _ w2 => RR_some (Or.inr (Or.inl ⟨_, _, rfl, rfl, hB, h42, hx⟩)))
  intro u v hu hv
  cases hk : kf_rd_extract s i K with
  | none => rw [hk] at hu; cases hu
  | some y =>
    cases hm : rf_takeExtract d M with
    | none => rw [hm] at hv; cases hv
    | some z =>
      rw [hk, bnd_some] at hu
      rw [hm, bnd_some] at hv
      cases hv
      rcases extract_s hB hi w2 y z hk hm with ⟨q0, q1, q2, q3, q4⟩ | ⟨q0, q1⟩
      · rw [if_pos q0, cut_i (by omega) (by omega)] at hu
        cases hu
        exact Or.inl ⟨_, _, rfl, rfl, q1, q2.symm, q3.trans h42, by omega⟩
      · rw [if_neg q0] at hu
        cases hu
        exact Or.inr (Or.inr (Or.inl ⟨_, _, rfl, rfl, RP_w (uw_rfb_takeState_249 d z.2) (fun w hw => ⟨q0, hw.2 q1⟩)⟩))
theorem st208_s {x : Int} (h : SL s d x K M) : RR (kfl_rd_state_208 K) (rfl_takeState_337 M) (GV (fun _ K2 _ M2 => SL s d x K2 M2)) := by
  unfold kfl_rd_state_208 rfl_takeState_337
  refine RR_sq (G := fun _ K1 _ M1 => LR K1 M1 ∧ fr kF_tx_expect kA_tx_expect K K1 ∧ fr rF_need rA_need M M1 ∧ M.1 8 + 1 ≤ M1.1 8) (A := fun _ => True) (B := fun _ => True) (exp_s h.1.1 (c := 125) (by omega)) (RP_T _) (RP_T _) (fun z hz => RP_some hz) (fun a K1 b M1 hG _ _ => ?_)
  obtain ⟨g1, g2, g3, g4⟩ := hG
  refine RR_some (Or.inl ⟨rfl, SB_f h.1 g1 g2 g3 rfl rfl rfl rfl, ?_, by have := h.2.2; show x ≤ M1.1 8; omega⟩)
  have q := h.2.1
  rw [← fr2 g2 34 rfl, ← fr1 g3 23 rfl, ← fr2 g3 44 rfl] at q
  exact q
theorem st155_s {x : Int} (h : SB s d K M) (h42 : M.2 42 d = 0) (hx : x ≤ M.1 8) : RR (kfl_rd_state_155 s K) (rfl_takeState_274 d M) (GV (fun _ K2 _ M2 => SL s d x K2 M2)) := by
  have hX := h.1.2.1
  have hf := h.1.2.2.2.2
  have bad : ∀ (X : Option (Int × Int × mR)) (Y : Option (Int × mR)), RP X (fun y => y.1 ≠ 0) → RP Y (fun z => 0 < z.2.1 10) → RR X Y (GV (fun _ K2 _ M2 => SL s d x K2 M2)) := fun X Y h1 h2 => RR_w (RR_pr h1 h2) (fun _ _ q => Or.inr q)
  unfold kfl_rd_state_155 rfl_takeState_274
  rw [if_pos (show M.1 10 ≤ 0 by omega), hX.1]
  by_cases w7 : M.1 7 = 307
  · rw [if_pos ((wm_big hX.2.1 (by omega)).mpr w7), if_neg (by omega), if_pos w7]
    refine RR_sq (A := fun _ => True) (B := fun _ => True) (select_s h h42 w7 hx) (RP_T _) (RP_T _) (fun z hz => RP_w (u_rfl_takeState_337 z.2) (fun w hw => hw.2 hz)) (fun a K1 b M1 hG _ _ => ?_)
    exact st208_s hG
  · rw [if_neg (fun q => w7 ((wm_big hX.2.1 (by omega)).mp q))]
    by_cases w6 : M.1 7 = 306
    · rw [if_pos w6]
      refine RR_sq (G := fun _ K1 _ M1 => LR K1 M1 ∧ fr kF_tx_advance kA_tx_advance K K1 ∧ fr rF_next rA_next M M1 ∧ M.1 8 + 1 ≤ M1.1 8) (A := fun _ => True) (B := fun _ => True) (exw_s h.1 (c := 306) (by omega) w6) (RP_T _) (RP_T _) (fun z hz => RP_w (u_rfl_takeState_296 d z.2) (fun w hw => hw.2 hz)) (fun a K1 b M1 hG _ _ => ?_)
      obtain ⟨g1, g2, g3, g4⟩ := hG
      have hB1 : SB s d K1 M1 := SB_f h g1 g2 g3 rfl rfl rfl rfl
      unfold rfl_takeState_296
      dsimp only
      refine RR_sq (A := fun _ => True) (B := fun _ => True) (goal_s g1 hB1.2.1 hB1.2.2.2.1) (RP_T _) (RP_T _) (fun z hz => RP_w (u_rfl_takeState_305 d z.1 z.2) (fun w hw => hw.2 hz)) (fun a3 K3 b3 M3 hG _ _ => ?_)
      have hB3 := SB_g hB1 hG
      obtain ⟨e1, e2, e3, e4, e5, e6, e7, e8, e9⟩ := hG
      have hB4 := SB_o hB3 e4
      unfold rfl_takeState_305
      dsimp only
      refine RR_sq (G := fun _ K4 _ M4 => LR K4 M4 ∧ fr kF_tx_expect kA_tx_expect (mO K3 [] [(34, upI (K3.2 34) s a3)]) K4 ∧ fr rF_need rA_need (mO M3 [] [(44, upI (M3.2 44) d b3)]) M4 ∧ M3.1 8 + 1 ≤ M4.1 8) (A := fun _ => True) (B := fun _ => True) (exp_s hB4.1.1 (c := 59) (by omega)) (RP_T _) (RP_T _) (fun z hz => RP_w (u_rfl_takeState_337 z.2) (fun w hw => hw.2 hz)) (fun a4 K4 b4 M4 hG _ _ => ?_)
      obtain ⟨d1, d2, d3, d4⟩ := hG
      have hB5 : SB s d K4 M4 := SB_f hB4.1 d1 d2 d3 rfl rfl rfl rfl
      refine st208_s ⟨hB5, ?_, by show x ≤ M4.1 8; omega⟩
      have q := hB4.2
      rw [← fr2 d2 34 rfl, ← fr1 d3 23 rfl, ← fr2 d3 44 rfl] at q
      exact q
    · rw [if_neg w6, if_neg w7]
      exact bad _ _ (thr_l (exw_x h.1 (c := 306) (by omega) w6)) (RP_bnd (bad_1 M) (fun z hz => RP_w (u_rfl_takeState_337 z.2) (fun w hw => hw.2 hz)))
theorem sttail_s {x : Int} (h : SB s d K M) (h41 : M.2 41 d = 0) (h42 : M.2 42 d = 0) (hx : x ≤ M.1 8) : RR (bnd (kf_tx_expect 123 K) fun y27 => if y27.1 = 0 then bnd (whl (kfb_rd_state_124 s) (0, y27.2.2)) (sel (fun e30 : mR => kfl_rd_state_155 s e30) (fun e33 : Int × mR => some (e33.1, 0, e33.2))) else some (y27.1, 0, y27.2.2)) (rfl_takeState_243 d M) (GV (fun _ K2 _ M2 => SL s d x K2 M2)) := by
  unfold rfl_takeState_243
  refine RR_sq (G := fun _ K1 _ M1 => LR K1 M1 ∧ fr kF_tx_expect kA_tx_expect K K1 ∧ fr rF_need rA_need M M1 ∧ M.1 8 + 1 ≤ M1.1 8) (A := fun _ => True) (B := fun _ => True) (exp_s h.1 (c := 123) (by omega)) (RP_T _) (RP_T _) (fun z hz => RP_bnd (uw_rfb_takeState_249 d z.2) (fun e he => RP_w (u_rfl_takeState_274 d e) (fun w hw => hw.2 (he.2 hz)))) (fun a K1 b M1 hG _ _ => ?_)
  obtain ⟨g1, g2, g3, g4⟩ := hG
  have hB1 : SB s d K1 M1 := SB_f h g1 g2 g3 rfl rfl rfl rfl
  dsimp only
  refine RR_bnd (extracts_s (s := s) (d := d) (x := x) (t := (0, K1)) (M := M1) ⟨hB1, by rw [fr2 g3 41 rfl]; exact h41.symm, by rw [fr2 g3 42 rfl]; exact h42, by omega⟩) (fun u e hE => ?_)
  cases u with
  | inl K4 => exact st155_s hE.1 hE.2.1 hE.2.2
  | inr t => exact RR_w (RR_pr (RP_some (P := fun y : Int × Int × mR => y.1 ≠ 0) hE.1) (RP_w (u_rfl_takeState_274 d e) (fun w hw => hw.2 hE.2))) (fun _ _ q => Or.inr q)
/-- a state comes to stand -/
theorem SB_n {K' M' : mR} (hO : SO K M) (hG : SGd (M.1 23) (M.1 24) K M) (hL : LR K' M') (hP : BP K' M') (hN : NDR K' M') (h64 : M'.1 64 = -1) (hd : d = M.1 24) (d0 : 0 ≤ M.1 24) (s0 : 0 ≤ s) (s1 : s < M'.1 23) (n1 : M.1 23 ≤ M'.1 23) (nx : ∀ x, x < M'.1 23 → x ≠ s → x < M.1 23) (hst : s < M.1 23 → M.2 38 s < 0) (k35 : ∀ x, x ≠ s → K'.2 35 x = K.2 35 x) (k36 : ∀ x, x ≠ s → K'.2 36 x = K.2 36 x) (k36s : 0 ≤ K'.2 36 s) (k37 : K'.2 37 = upI (K.2 37) d s) (k26 : ∀ x, x ≠ s → K'.2 26 x = K.2 26 x) (k26s : K'.2 26 s = 0) (k30 : ∀ x, x ≠ s → K'.2 30 x = K.2 30 x) (k30s : K'.2 30 s = 0) (k33 : K'.2 33 = K.2 33) (k34 : K'.2 34 = K.2 34) (m24 : M'.1 24 = d + 1) (m37 : ∀ x, x ≠ s → M'.2 37 x = M.2 37 x) (m38 : ∀ x, x ≠ s → M'.2 38 x = M.2 38 x) (m38s : M'.2 38 s = d) (m39 : M'.2 39 = upI (M.2 39) d s) (m41 : ∀ e, e ≠ d → M'.2 41 e = M.2 41 e) (m41d : M'.2 41 d = 0) (m42 : ∀ e, e ≠ d → M'.2 42 e = M.2 42 e) (m42d : M'.2 42 d = 0) (m44 : M'.2 44 = M.2 44) (m45 : M'.2 45 = M.2 45) : SB s d K' M' := by
  have ne : ∀ e, 0 ≤ e → e < d → M.2 39 e ≠ s := by
    intro e e0 e1 he
    obtain ⟨q1, q2, q3, q4⟩ := hO.2 e e0 (by omega)
    rw [he] at q3
    have := hst (by omega)
    omega
  refine ⟨hL, hP, hN, ⟨fun x x0 x1 => ?_, fun e e0 e1 => ?_⟩, fun e e0 e1 => ?_, ⟨⟨s0, s1⟩, ⟨by omega, by omega, ?_⟩, ?_, ⟨by omega, by omega⟩, ?_, ⟨by omega, by omega⟩, fun i i0 i1 => by omega⟩, h64⟩
  · by_cases ex : x = s
    · subst ex
      refine Or.inr ⟨k36s, by omega, by omega, ?_⟩
      rw [m38s, m39, upI_s]
    · rw [k35 x ex, k36 x ex, m37 x ex, m38 x ex, k26 x ex, k30 x ex]
      rcases hO.1 x x0 (nx x x1 ex) with q | ⟨q1, q2, q3, q4⟩
      · exact Or.inl q
      · refine Or.inr ⟨q1, q2, by omega, ?_⟩
        rw [m39, upI_n (by omega)]
        exact q4
  · by_cases ed : e = d
    · subst ed
      rw [m39, upI_s, k37, upI_s]
      exact ⟨s0, s1, m38s, rfl⟩
    · obtain ⟨q1, q2, q3, q4⟩ := hO.2 e e0 (by omega)
      rw [m39, upI_n ed, k37, upI_n ed]
      have nn := ne e e0 (by omega)
      exact ⟨q1, by omega, by rw [m38 _ nn]; exact q3, q4⟩
  · have nn := ne e e0 e1
    obtain ⟨a1, a2, a3, a4, a5, a6, a7, a8⟩ := hG e e0 (by omega)
    rw [m39, upI_n (by omega), k26 _ nn, m41 e (by omega), k34, m44, k30 _ nn, m42 e (by omega), k33, m45]
    exact ⟨a1, by omega, a3, a4, GL_m a5 n1, a6, a7, fun i i0 i1 => GL_m (a8 i i0 i1) n1⟩
  · rw [m39, upI_s]
  · rw [k26s, m41d]
  · rw [k30s, m42d]
/-- a state that is whole -/
theorem SL_e {x : Int} (h : SL s d x K M) : LR K M ∧ BP K M ∧ NDR K M ∧ SO K M ∧ SGd (M.1 23) (M.1 24) K M ∧ M.1 64 = -1 ∧ x ≤ M.1 8 := by
  obtain ⟨⟨h1, h2, h3, h4, h5, ⟨⟨c1, c2⟩, ⟨c3, c4, c5⟩, c6, c7, c8, c9, c10⟩, h7⟩, hg, hx⟩ := h
  refine ⟨h1, h2, h3, h4, fun e e0 e1 => ?_, h7, hx⟩
  by_cases ed : e = d
  · subst ed
    rw [c5]
    exact ⟨c1, c2, c6, c7, hg, c8, c9, c10⟩
  · exact h5 e e0 (by omega)
end ST6
