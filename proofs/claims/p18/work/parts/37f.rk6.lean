/-! ===== read: what stands at its end; behind the control ===== -/
section RDT
variable {K M K' M' : mR} {F A G C : List Nat}
def ACw (K M : mR) : Prop := ∀ a, 0 ≤ a → a < M.1 25 → K.2 43 a = M.2 109 a ∧ 0 ≤ M.2 109 a ∧ K.2 44 a = M.2 50 a ∧ 0 ≤ M.2 50 a ∧ M.2 50 a ≤ 12
def RDk (K M : mR) : Prop := BP K M ∧ AR K M ∧ NDR K M ∧ DE K M ∧ ACw K M ∧ SO K M ∧ SGd (M.1 23) (M.1 24) K M ∧ TBn (M.1 26) K M ∧ (K.1 225 = M.1 27 ∧ 0 ≤ M.1 27 ∧ M.1 27 ≤ 48 ∧ CSn (M.1 27) K M) ∧ EMx K M
theorem ACw_f (h : ACw K M) (hK : fr F A K K') (hM : fr G C M M') (c2 : chk [43, 44] A = true) (c3 : chk [25] G = true) (c4 : chk [50, 109] C = true) : ACw K' M' := by
  unfold ACw
  rw [fr2 hK 43 (chk_1 c2 (by decide)), fr2 hK 44 (chk_1 c2 (by decide)), fr1 hM 25 (chk_1 c3 (by decide)), fr2 hM 50 (chk_1 c4 (by decide)), fr2 hM 109 (chk_1 c4 (by decide))]
  exact h
def RDg : Int → mR → Int → mR → Prop := fun a K2 b M2 => a = b ∧ RDk K2 M2 ∧ K2.1 201 = 1 ∧ M2.1 127 = 1 ∧ M2.1 1 = 0
theorem rd219_f (m : mR) (h : 0 < m.1 10) : RP (rfl_read_219 m) (fun w => 0 < w.2.1 10) := by
  unfold rfl_read_219 rfl_read_232 rfl_read_248 rfl_read_266
  exact RP_ite (fun _ => RP_ite (fun _ => RP_ite (fun _ => RP_some h) (fun _ => RP_some h)) (fun _ => RP_ite (fun _ => RP_some h) (fun _ => RP_some h))) (fun _ => RP_ite (fun _ => RP_ite (fun _ => RP_some h) (fun _ => RP_some h)) (fun _ => RP_ite (fun _ => RP_some h) (fun _ => RP_some h)))
theorem rd208_f (m : mR) (h : 0 < m.1 10) : RP (rfl_read_208 m) (fun w => 0 < w.2.1 10) := by
  unfold rfl_read_208
  exact RP_ite (fun _ => RP_bnd (u_rf_checkStates m) (fun y hy => rd219_f y.2 (hy.2 h))) (fun _ => rd219_f m h)
theorem rd190_f (m : mR) (h : 0 < m.1 10) : RP (rfl_read_190 m) (fun w => 0 < w.2.1 10) := by
  unfold rfl_read_190
  exact RP_ite (fun _ => RP_ite (fun _ => rd208_f m h) (fun _ => RP_bnd (u_rf_bad m) (fun y hy => rd208_f y.2 (hy.2 h)))) (fun _ => rd208_f m h)
theorem rd186_f (m : mR) (h : 0 < m.1 10) : RP (rfl_read_186 m) (fun w => 0 < w.2.1 10) := by
  unfold rfl_read_186
  exact RP_bnd (u_rf_takeEmit m) (fun y hy => rd190_f y.2 (hy.2 h))
theorem rd182_f (m : mR) (h : 0 < m.1 10) : RP (rfl_read_182 m) (fun w => 0 < w.2.1 10) := by
  unfold rfl_read_182
  exact RP_bnd (u_rf_takeControl m) (fun y hy => rd186_f y.2 (hy.2 h))
theorem rd219_0 (m : mR) (h : m.1 10 = 0) : rfl_read_219 m = some (m.1 28, mO (mO m [(1, 0)] []) [(127, 1)] []) := by
  unfold rfl_read_219
  rw [if_pos (by omega)]
  unfold rfl_read_232
  rw [if_pos h]
  unfold rfl_read_248
  rw [if_neg (by decide)]
  rfl
theorem tail_s (hX : XP K M) (h218 : K.1 218 = 0) (hD : DE K M) (hA : ACw K M) (hO : SO K M) (hG : SGd (M.1 23) (M.1 24) K M) (hT : TBn (M.1 26) K M) (hS : K.1 225 = M.1 27 ∧ 0 ≤ M.1 27 ∧ M.1 27 ≤ 48 ∧ CSn (M.1 27) K M) : RR (kfl_pw_read_241 K) (rfl_read_186 M) (GV RDg) := by
  unfold kfl_pw_read_241 rfl_read_186
  refine RR_sq (G := fun _ K2 _ M2 => XP K2 M2 ∧ EMx K2 M2 ∧ M.1 8 + 1 ≤ M2.1 8) (A := fun q => fr kF_rd_emit kA_rd_emit K q) (B := fun q => UR rF_takeEmit rA_takeEmit M q) (emit_s hX h218) (u_kf_rd_emit K) (u_rf_takeEmit M) (fun z hz => rd190_f z.2 hz) (fun a K1 b M1 hG1 fK fM => ?_)
  obtain ⟨hX1, hE1, -⟩ := hG1
  have fM := fM.1
  have hf := hX1.1.2.2.2.2
  have hXX := hX1.1.2.1
  have hO1 : SO K1 M1 := SO_f fK fM rfl rfl rfl rfl hO
  have hG1 := SGd_f2 hG fK fM rfl rfl rfl
  dsimp only
  unfold kf_rd_close rfl_read_190
  rw [if_pos hf]
  by_cases w0 : M1.1 7 = 0
  · have k0 : K1.1 206 = 258 := by rw [hXX.1]; exact (wm_258 hXX.2.1).mpr w0
    rw [if_pos k0, if_pos w0]
    unfold rfl_read_208
    rw [if_pos hf]
    intro u v hu hv
    cases hk : kfl_rd_close_20 K1 with
    | none => rw [hk] at hu; cases hu
    | some y =>
      cases hq : rf_checkStates M1 with
      | none => rw [hq] at hv; cases hv
      | some z =>
        rw [hk, bnd_some] at hu
        rw [hq, bnd_some] at hv
        rcases close20_s hX1.1 hX1.2.1 hO1 hG1 y z hk hq with ⟨q0, q1, q2⟩ | ⟨q1, q2⟩
        · rw [if_pos q0] at hu
          have f0 : z.2.1 10 = 0 := (fr1 q2 10 rfl).trans hf
          rw [rd219_0 _ f0] at hv
          cases hu
          cases hv
          have f1 : fr [201] [38] K1 (mO y.2.2 [(201, 1)] []) := fr_m (fr_s q1 fr_0 rfl rfl) rfl rfl
          have f2 : fr [1, 127] [126] M1 (mO (mO z.2 [(1, 0)] []) [(127, 1)] []) := fr_m (fr_m (fr_s q2 fr_0 rfl rfl) rfl rfl) rfl rfl
          have g1 : fr [201, 205, 206, 207, 208, 209, 210, 211, 212, 218] [17, 38] K (mO y.2.2 [(201, 1)] []) := fr_s f1 (fr_s fK fr_0 rfl rfl) rfl rfl
          have g2 : fr [1, 7, 8, 9, 10, 11, 12, 125, 127] [123, 124, 126] M (mO (mO z.2 [(1, 0)] []) [(127, 1)] []) := fr_s f2 (fr_s fM fr_0 rfl rfl) rfl rfl
          have e220 : y.2.2.1 220 = z.2.1 28 := by
            rw [fr1 q1 220 rfl, fr1 q2 28 rfl]
            exact hX1.2.2.2.1.1.1
          have e27 : (mO (mO z.2 [(1, 0)] []) [(127, 1)] []).1 27 = M.1 27 := fr1 g2 27 rfl
          have e225 : (mO y.2.2 [(201, 1)] []).1 225 = K.1 225 := fr1 g1 225 rfl
          refine Or.inl ⟨rfl, e220, ⟨BP_f f1 f2 rfl rfl rfl rfl hX1.2.1, AR_f f1 f2 rfl rfl rfl rfl hX1.2.2.1, NDR_f f1 f2 rfl rfl rfl rfl hX1.2.2.2.1, DE_f g1 g2 rfl rfl rfl rfl hD, ACw_f hA g1 g2 rfl rfl rfl, SO_f g1 g2 rfl rfl rfl rfl hO, SGd_f2 hG g1 g2 rfl rfl rfl, TBn_f2 hT g1 g2 (by rw [fr1 g2 25 rfl]; exact Int.le_refl _) (fr1 g2 26 rfl) rfl rfl, ?_, EMx_f hE1 f1 f2 rfl rfl rfl rfl⟩, rfl, rfl, rfl⟩
          dsimp only
          rw [e27, e225]
          exact ⟨hS.1, hS.2.1, hS.2.2.1, CSn_f hS.2.2.2 g1 g2 rfl rfl rfl (by rw [fr1 g2 99 rfl]; exact Int.le_refl _)⟩
        · rw [if_neg q1] at hu
          cases hu
          exact Or.inr ⟨q1, rd219_f z.2 q2 v hv⟩
  · have k0 : ¬ K1.1 206 = 258 := by rw [hXX.1]; exact fun e => w0 ((wm_258 hXX.2.1).mp e)
    rw [if_neg k0, if_neg w0]
    refine RR_w (RR_pr (thr_l (A := fun y6 => some (0, y6.2.2.1 220, (mO y6.2.2 [(201, 1)] []))) (thr_l (A := fun y16 => kfl_rd_close_20 y16.2.2) (refuse_1 K1))) (RP_bnd (bad_1 M1) (fun y hy => rd208_f y.2 hy))) (fun _ _ q => Or.inr q)
/-- control, emit, the end -/
theorem rest_s (h : FB K M) : RR (kfl_pw_read_202 K) (rfl_read_182 M) (GV RDg) := by
  obtain ⟨hX, h1, h2, h3, h4, h5, h6, h7, h8, h9, h10, h11⟩ := h
  unfold kfl_pw_read_202 rfl_read_182
  refine ctrl_s (k := fun e18 => kfl_pw_read_241 e18) ⟨hX, h1, h2, h4⟩ h10 h11 h8 (fun z hz => rd186_f z.2 hz) (fun K1 M1 b hC fK fM _ => ?_)
  have e26 : M1.1 26 = M.1 26 := fr1 fM 26 rfl
  have e25 : M1.1 25 = M.1 25 := fr1 fM 25 rfl
  exact tail_s hC.1.1 ((fr1 fK 218 rfl).trans h9) hC.1.2.2.1 (ACw_f (fun a a0 a1 => by obtain ⟨x1, x2, x3, x4, x5, -⟩ := h3 a a0 a1; exact ⟨x1, x2, x3, x4, x5⟩) fK fM rfl rfl rfl) (SO_f fK fM rfl rfl rfl rfl h5) (SGd_f2 h6 fK fM rfl rfl rfl) (TBn_f2 h7 fK fM (show M.1 25 ≤ M1.1 25 by omega) e26 rfl rfl) hC.2.1
end RDT
