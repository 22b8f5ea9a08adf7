/-! ===== select and state whole ===== -/
section SE2
variable {K M : mR} {s d : Int}
def scI (s d r x : Int) (t : Int × mR) (M : mR) : Prop := SB s d t.2 M ∧ t.1 = M.2 42 d ∧ t.2.2 22 r = M.2 43 d ∧ 1 ≤ M.2 43 d ∧ M.2 43 d ≤ 64 ∧ x ≤ M.1 8
def scE (s d x : Int) (u : Sum mR (Int × mR)) (y : mR) : Prop := sel (fun K => SB s d K y ∧ x ≤ y.1 8) (fun e => e.1 ≠ 0 ∧ 0 < y.1 10) u
theorem cases_s {r x : Int} {t : Int × mR} (hI : scI s d r x t M) : RR (whl (kfb_rd_select_56 s r) t) (whl (rfb_takeSelect_44 d) M) (scE s d x) := by
  refine RR_whl2 (I := scI s d r x) (fun t M hI => ?_) hI
  obtain ⟨i, K⟩ := t
  obtain ⟨hB, hi, hw, w0, w1, hx⟩ := hI
  have hB : SB s d K M := hB
  have hi : i = M.2 42 d := hi
  have hw : K.2 22 r = M.2 43 d := hw
  have hX := hB.1.2.1
  have hf := hB.1.2.2.2.2
  have c9 := hB.2.2.2.2.2.1.2.2.2.2.2.1
  unfold kfb_rd_select_56 rfb_takeSelect_44
  show RR (if (8 : Int) < i then some (Sum.inr (Sum.inl K)) else if K.1 206 = 257 then bnd (kf_rd_selectCase s i (K.2 22 r) K) fun y20 => if y20.1 = 0 then some (Sum.inl (cut (i + 1), y20.2.2)) else some (Sum.inr (Sum.inr (y20.1, y20.2.2))) else some (Sum.inr (Sum.inl K))) _ _
  rw [if_neg (by omega), if_pos hf, hX.1]
  refine RR_ii (wm_257 hX.2.1) (fun _ w2 => ?_) (fun _ w2 => RR_some (Or.inr (Or.inl ⟨_, _, rfl, rfl, hB, hx⟩)))
  intro u v hu hv
  cases hk : kf_rd_selectCase s i (K.2 22 r) K with
  | none => rw [hk] at hu; cases hu
  | some y =>
    cases hm : rf_takeCase d M with
    | none => rw [hm] at hv; cases hv
    | some z =>
      rw [hk, bnd_some] at hu
      rw [hm, bnd_some] at hv
      cases hv
      rcases selectCase_s hB hi hw (by omega) (by omega) y z hk hm with ⟨q0, q1, q2, q3, q4, q5⟩ | ⟨q0, q1⟩
      · rw [if_pos q0, cut_i (by omega) (by omega)] at hu
        cases hu
        refine Or.inl ⟨_, _, rfl, rfl, q1, ?_, ?_, ?_, ?_, ?_⟩
        · show i + 1 = z.2.2 42 d
          omega
        · show y.2.2.2 22 r = z.2.2 43 d
          rw [q3, q4]
          exact hw
        · rw [q3]; exact w0
        · rw [q3]; exact w1
        · omega
      · rw [if_neg q0] at hu
        cases hu
        exact Or.inr (Or.inr (Or.inl ⟨_, _, rfl, rfl, RP_w (uw_rfb_takeSelect_44 d z.2) (fun w hw => ⟨q0, hw.2 q1⟩)⟩))
def SL (s d x : Int) (K2 M2 : mR) : Prop := SB s d K2 M2 ∧ GL (M2.1 23) (K2.2 34 s) (M2.2 44 d) ∧ x ≤ M2.1 8
/-- where a state goes on, put down -/
theorem SB_o {a b : Int} (h : SB s d K M) (hg : GL (M.1 23) a b) : SB s d (mO K [] [(34, upI (K.2 34) s a)]) (mO M [] [(44, upI (M.2 44) d b)]) ∧ GL ((mO M [] [(44, upI (M.2 44) d b)]).1 23) ((mO K [] [(34, upI (K.2 34) s a)]).2 34 s) ((mO M [] [(44, upI (M.2 44) d b)]).2 44 d) := by
  have h0 := h
  obtain ⟨h1, h2, h3, h4, h5, h6, h7⟩ := h
  have fK : fr [] [34] K (mO K [] [(34, upI (K.2 34) s a)]) := fr_m fr_0 rfl rfl
  have fM : fr [] [44] M (mO M [] [(44, upI (M.2 44) d b)]) := fr_m fr_0 rfl rfl
  refine ⟨SB_u h0 h1 (BP_f fK fM rfl rfl rfl rfl h2) (NDR_f fK fM rfl rfl rfl rfl h3) (fun _ _ => rfl) (fun _ _ => rfl) (fun x hx => upI_n hx) (fun _ _ _ _ _ => rfl) rfl rfl rfl rfl rfl rfl rfl rfl rfl (fun _ _ => rfl) (fun _ _ => rfl) (fun e he => upI_n he) (fun _ _ _ _ _ => rfl) h6, ?_⟩
  show GL (M.1 23) (upI (K.2 34) s a s) (upI (M.2 44) d b d)
  rw [upI_s, upI_s]
  exact hg
theorem sel99_s {x : Int} (h : SB s d K M) (hx : x ≤ M.1 8) : RR (kfl_rd_select_99 s K) (rfl_takeSelect_67 d M) (GV (fun _ K2 _ M2 => SL s d x K2 M2)) := by
  unfold kfl_rd_select_99 rfl_takeSelect_67
  refine RR_sq (G := fun _ K1 _ M1 => LR K1 M1 ∧ fr kF_tx_expect kA_tx_expect K K1 ∧ fr rF_need rA_need M M1 ∧ M.1 8 + 1 ≤ M1.1 8) (A := fun _ => True) (B := fun _ => True) (exp_s h.1 (c := 308) (by omega)) (RP_T _) (RP_T _) (fun z hz => RP_w (u_rfl_takeSelect_74 d z.2) (fun w hw => hw.2 hz)) (fun a K1 b M1 hG _ _ => ?_)
  obtain ⟨g1, g2, g3, g4⟩ := hG
  have hB1 : SB s d K1 M1 := SB_f h g1 g2 g3 rfl rfl rfl rfl
  unfold rfl_takeSelect_74
  dsimp only
  refine RR_sq (G := fun _ K2 _ M2 => LR K2 M2 ∧ fr kF_tx_expect kA_tx_expect K1 K2 ∧ fr rF_need rA_need M1 M2 ∧ M1.1 8 + 1 ≤ M2.1 8) (A := fun _ => True) (B := fun _ => True) (exp_s g1 (c := 58) (by omega)) (RP_T _) (RP_T _) (fun z hz => RP_w (u_rfl_takeSelect_80 d z.2) (fun w hw => hw.2 hz)) (fun a2 K2 b2 M2 hG _ _ => ?_)
  obtain ⟨f1, f2, f3, f4⟩ := hG
  have hB2 : SB s d K2 M2 := SB_f hB1 f1 f2 f3 rfl rfl rfl rfl
  unfold rfl_takeSelect_80
  dsimp only
  refine RR_sq (A := fun _ => True) (B := fun _ => True) (goal_s f1 hB2.2.1 hB2.2.2.2.1) (RP_T _) (RP_T _) (fun z hz => RP_w (u_rfl_takeSelect_89 d z.1 z.2) (fun w hw => hw.2 hz)) (fun a3 K3 b3 M3 hG _ _ => ?_)
  have hB3 := SB_g hB2 hG
  obtain ⟨e1, e2, e3, e4, e5, e6, e7, e8, e9⟩ := hG
  have hB4 := SB_o hB3 e4
  unfold rfl_takeSelect_89
  dsimp only
  refine RR_sq (G := fun _ K4 _ M4 => LR K4 M4 ∧ fr kF_tx_expect kA_tx_expect (mO K3 [] [(34, upI (K3.2 34) s a3)]) K4 ∧ fr rF_need rA_need (mO M3 [] [(44, upI (M3.2 44) d b3)]) M4 ∧ M3.1 8 + 1 ≤ M4.1 8) (A := fun _ => True) (B := fun _ => True) (exp_s hB4.1.1 (c := 59) (by omega)) (RP_T _) (RP_T _) (fun z hz => RP_w (u_rfl_takeSelect_96 z.2) (fun w hw => hw.2 hz)) (fun a4 K4 b4 M4 hG _ _ => ?_)
  obtain ⟨d1, d2, d3, d4⟩ := hG
  have hB5 : SB s d K4 M4 := SB_f hB4.1 d1 d2 d3 rfl rfl rfl rfl
  unfold rfl_takeSelect_96
  dsimp only
  refine RR_sq (G := fun _ K5 _ M5 => LR K5 M5 ∧ fr kF_tx_expect kA_tx_expect K4 K5 ∧ fr rF_need rA_need M4 M5 ∧ M4.1 8 + 1 ≤ M5.1 8) (A := fun _ => True) (B := fun _ => True) (exp_s d1 (c := 125) (by omega)) (RP_T _) (RP_T _) (fun z hz => RP_some hz) (fun a5 K5 b5 M5 hG _ _ => ?_)
  obtain ⟨l1, l2, l3, l4⟩ := hG
  refine RR_some (Or.inl ⟨rfl, SB_f hB5 l1 l2 l3 rfl rfl rfl rfl, ?_, by show x ≤ M5.1 8; omega⟩)
  have q := hB4.2
  rw [← fr2 d2 34 rfl, ← fr1 d3 23 rfl, ← fr2 d3 44 rfl, ← fr2 l2 34 rfl, ← fr1 l3 23 rfl, ← fr2 l3 44 rfl] at q
  exact q
theorem select_s {x : Int} (h : SB s d K M) (h42 : M.2 42 d = 0) (hw : M.1 7 = 307) (hx : x ≤ M.1 8) : RR (kf_rd_select s K) (rf_takeSelect d M) (GV (fun _ K2 _ M2 => SL s d x K2 M2)) := by
  unfold kf_rd_select rf_takeSelect
  refine RR_sq (G := fun _ K1 _ M1 => LR K1 M1 ∧ fr kF_tx_advance kA_tx_advance K K1 ∧ fr rF_next rA_next M M1 ∧ M.1 8 + 1 ≤ M1.1 8) (A := fun _ => True) (B := fun _ => True) (adv_s h.1 (by omega)) (RP_T _) (RP_T _) (fun z hz => RP_w (u_rfl_takeSelect_4 d z.2) (fun w hw => hw.2 hz)) (fun a K1 b M1 hG _ _ => ?_)
  obtain ⟨g1, g2, g3, g4⟩ := hG
  have hB1 : SB s d K1 M1 := SB_f h g1 g2 g3 rfl rfl rfl rfl
  unfold rfl_takeSelect_4
  dsimp only
  have f28 : fr [] [28] K1 (mO K1 [] [(28, upI (K1.2 28) s (K1.1 220))]) := fr_m fr_0 rfl rfl
  have f95 : fr [] [95] M1 (mO M1 [] [(95, upI (M1.2 95) d (M1.1 28))]) := fr_m fr_0 rfl rfl
  have hL1 : LR (mO K1 [] [(28, upI (K1.2 28) s (K1.1 220))]) (mO M1 [] [(95, upI (M1.2 95) d (M1.1 28))]) := g1
  have hB1' : SB s d (mO K1 [] [(28, upI (K1.2 28) s (K1.1 220))]) (mO M1 [] [(95, upI (M1.2 95) d (M1.1 28))]) := SB_f hB1 hL1 f28 f95 rfl rfl rfl rfl
  have r7 := hB1.2.1.1.2.2.2.2.2.2.2.1
  have h64 := hB1.2.2.2.2.2.2
  refine RR_sx (A := fun q => fr kF_fm_whole kA_fm_whole (mO K1 [] [(28, upI (K1.2 28) s (K1.1 220))]) q) (B := fun q => UR rF_readExpr rA_readExpr (mO M1 [] [(95, upI (M1.2 95) d (M1.1 28))]) q) (whole_s (v := -1) hL1 hB1'.2.2.1 hB1'.2.1 (by rw [hB1'.2.2.2.2.2.2]) (by rw [hB1'.2.2.2.2.2.2]; decide) (show M1.1 64 < M1.1 25 by omega)) (u_kf_fm_whole _ _) (u_rf_readExpr _) (fun z hz => RP_w (u_rfl_takeSelect_18 d z.2) (fun w hw => hw.2 hz)) (fun a K1 hd => ?_) (fun a2 K2 b2 M2 hG uK uM => ?_)
  · dsimp only
    exact thr_l (A := fun y29 => bnd (whl (kfb_rd_select_56 s a) (0, y29.2.2)) (sel (fun e32 : mR => kfl_rd_select_99 s e32) (fun e35 : Int × mR => some (e35.1, 0, e35.2)))) (exp_d (show (mO K1 [] [(29, upI (K1.2 29) s a)]).1 213 = 1 from hd.1))
  · obtain ⟨x1, x2, x3, x4, x5, x6⟩ := hG
    obtain ⟨o0, o1, o2, o3⟩ := OP_r x5
    have hB2 : SB s d K2 M2 := SB_h hB1' x1 x3 x2 uK uM.1 rfl rfl rfl
    unfold rfl_takeSelect_18
    dsimp only
    have f29 : fr [] [29] K2 (mO K2 [] [(29, upI (K2.2 29) s a2)]) := fr_m fr_0 rfl rfl
    have f43 : fr [] [43, 96] M2 (mO M2 [] [(43, upI (M2.2 43) d (M2.1 69)), (96, upI (M2.2 96) d (M2.1 28))]) := fr_m fr_0 rfl rfl
    have hL2 : LR (mO K2 [] [(29, upI (K2.2 29) s a2)]) (mO M2 [] [(43, upI (M2.2 43) d (M2.1 69)), (96, upI (M2.2 96) d (M2.1 28))]) := x1
    have hB2' := SB_f hB2 hL2 f29 f43 rfl rfl rfl rfl
    refine RR_sq (G := fun _ K3 _ M3 => LR K3 M3 ∧ fr kF_tx_expect kA_tx_expect (mO K2 [] [(29, upI (K2.2 29) s a2)]) K3 ∧ fr rF_need rA_need (mO M2 [] [(43, upI (M2.2 43) d (M2.1 69)), (96, upI (M2.2 96) d (M2.1 28))]) M3 ∧ M2.1 8 + 1 ≤ M3.1 8) (A := fun _ => True) (B := fun _ => True) (exp_s hL2 (c := 123) (by omega)) (RP_T _) (RP_T _) (fun z hz => RP_bnd (uw_rfb_takeSelect_44 d z.2) (fun e he => RP_w (u_rfl_takeSelect_67 d e) (fun w hw => hw.2 (he.2 hz)))) (fun a3 K3 b3 M3 hG _ _ => ?_)
    obtain ⟨l1, l2, l3, l4⟩ := hG
    have hB3 : SB s d K3 M3 := SB_f hB2' l1 l2 l3 rfl rfl rfl rfl
    have m42 : M3.2 42 d = 0 := by
      have q : M3.2 42 = M.2 42 := (fr2 l3 42 rfl).trans ((fr2 uM.1 42 rfl).trans (fr2 g3 42 rfl))
      rw [q]; exact h42
    have m43 : M3.2 43 d = M2.1 69 := by
      have q : M3.2 43 = upI (M2.2 43) d (M2.1 69) := fr2 l3 43 rfl
      rw [q, upI_s]
    have k22 : K3.2 22 a2 = M2.1 69 := by
      have q : K3.2 22 = K2.2 22 := fr2 l2 22 rfl
      rw [q]; exact o3
    dsimp only
    have x6 : M1.1 8 ≤ M2.1 8 := x6
    refine RR_bnd (cases_s (s := s) (d := d) (r := a2) (x := x) (t := (0, K3)) (M := M3) ⟨hB3, m42.symm, k22.trans m43.symm, by omega, by omega, by omega⟩) (fun u e hE => ?_)
    cases u with
    | inl K4 => exact sel99_s hE.1 hE.2
    | inr t => exact RR_w (RR_pr (RP_some (P := fun y : Int × Int × mR => y.1 ≠ 0) hE.1) (RP_w (u_rfl_takeSelect_67 d e) (fun w hw => hw.2 hE.2))) (fun _ _ q => Or.inr q)
end SE2
