/-! ===== what read() leaves behind in both ===== -/
section RDB
variable {K M : mR}
def rdF : List Nat := [1, 7, 8, 9, 10, 11, 12, 13, 19, 20, 21, 22, 23, 24, 25, 26, 27, 28, 64, 69, 70, 71, 72, 73, 74, 75, 99, 100, 119, 125, 127]
def rdA : List Nat := [14, 15, 16, 17, 29, 30, 31, 32, 33, 34, 35, 36, 37, 38, 39, 40, 41, 42, 43, 44, 45, 46, 47, 48, 49, 50, 51, 52, 53, 54, 55, 56, 57, 58, 59, 60, 61, 62, 63, 65, 66, 67, 68, 76, 77, 78, 79, 80, 81, 82, 83, 84, 85, 86, 87, 88, 89, 90, 91, 92, 93, 94, 95, 96, 97, 98, 101, 102, 103, 104, 105, 106, 107, 108, 109, 110, 111, 112, 113, 114, 115, 116, 117, 118, 120, 121, 122, 123, 124, 126]
theorem rd219_u (m : mR) : RP (rfl_read_219 m) (fun z => fr [1, 127] [] m z.2 ∧ (0 ≤ m.1 10 → (m.1 10 = 0 ∧ z.2.1 127 = 1 ∧ z.2.1 1 = 0) ∨ (0 < m.1 10 ∧ z.2.1 127 = 0 ∧ z.2.1 1 = 1 ∧ z.1 = 0))) := by
  unfold rfl_read_219 rfl_read_232 rfl_read_248 rfl_read_266
  refine RP_ite (fun g1 => RP_ite (fun g2 => RP_ite (fun g3 => RP_some ⟨fr_m (fr_m fr_0 rfl rfl) rfl rfl, fun _ => absurd g3 (by decide)⟩) (fun g3 => RP_some ⟨fr_m (fr_m fr_0 rfl rfl) rfl rfl, fun _ => Or.inl ⟨g2, rfl, rfl⟩⟩)) (fun g2 => RP_ite (fun g3 => RP_some ⟨fr_m (fr_m fr_0 rfl rfl) rfl rfl, fun q => by exfalso; omega⟩) (fun g3 => absurd rfl g3))) (fun g1 => RP_ite (fun g2 => by exfalso; omega) (fun g2 => RP_ite (fun g3 => RP_some ⟨fr_m (fr_m fr_0 rfl rfl) rfl rfl, fun q => Or.inr ⟨by omega, rfl, rfl, rfl⟩⟩) (fun g3 => absurd rfl g3)))
theorem rd208_u (m : mR) : RP (rfl_read_208 m) (fun z => fr rdF rdA m z.2 ∧ (0 ≤ z.2.1 10 → (z.2.1 10 = 0 ∧ z.2.1 127 = 1 ∧ z.2.1 1 = 0) ∨ (0 < z.2.1 10 ∧ z.2.1 127 = 0 ∧ z.2.1 1 = 1 ∧ z.1 = 0))) := by
  have go : ∀ m2, fr [10, 11] [126] m m2 → RP (rfl_read_219 m2) (fun z => fr rdF rdA m z.2 ∧ (0 ≤ z.2.1 10 → (z.2.1 10 = 0 ∧ z.2.1 127 = 1 ∧ z.2.1 1 = 0) ∨ (0 < z.2.1 10 ∧ z.2.1 127 = 0 ∧ z.2.1 1 = 1 ∧ z.1 = 0))) := fun m2 f => RP_w (rd219_u m2) (fun z hz => by
    have e : z.2.1 10 = m2.1 10 := fr1 hz.1 10 rfl
    rw [e]
    exact ⟨fr_s hz.1 (fr_s f fr_0 rfl rfl) rfl rfl, hz.2⟩)
  unfold rfl_read_208
  exact RP_ite (fun _ => RP_bnd (u_rf_checkStates m) (fun y hy => go y.2 (fr_s hy.1 fr_0 rfl rfl))) (fun _ => go m fr_0)
theorem rd182_u (m : mR) : RP (rfl_read_182 m) (fun z => fr rdF rdA m z.2 ∧ (0 ≤ z.2.1 10 → (z.2.1 10 = 0 ∧ z.2.1 127 = 1 ∧ z.2.1 1 = 0) ∨ (0 < z.2.1 10 ∧ z.2.1 127 = 0 ∧ z.2.1 1 = 1 ∧ z.1 = 0))) := by
  unfold rfl_read_182 rfl_read_186 rfl_read_190
  refine RP_bnd (u_rf_takeControl m) (fun y hy => RP_bnd (u_rf_takeEmit y.2) (fun w hw => ?_))
  have f1 : fr rdF rdA m w.2 := fr_s hw.1 (fr_s hy.1 fr_0 rfl rfl) rfl rfl
  have go : ∀ m2, fr [10, 11] [] w.2 m2 → RP (rfl_read_208 m2) (fun z => fr rdF rdA m z.2 ∧ (0 ≤ z.2.1 10 → (z.2.1 10 = 0 ∧ z.2.1 127 = 1 ∧ z.2.1 1 = 0) ∨ (0 < z.2.1 10 ∧ z.2.1 127 = 0 ∧ z.2.1 1 = 1 ∧ z.1 = 0))) := fun m2 f => RP_w (rd208_u m2) (fun z hz => ⟨fr_s hz.1 (fr_s f f1 rfl rfl) rfl rfl, hz.2⟩)
  exact RP_ite (fun _ => RP_ite (fun _ => go w.2 fr_0) (fun _ => RP_bnd (u_rf_bad w.2) (fun x hx => go x.2 (fr_s hx.1 fr_0 rfl rfl)))) (fun _ => go w.2 fr_0)
theorem begin_ru : RP (rf_begin M) (fun z => fr [128, 130, 148, 149, 150, 151, 152] [138, 139] M z.2 ∧ z.2.1 128 = 0 ∧ z.2.1 130 = -1 ∧ z.2.1 148 = 0 ∧ z.2.1 149 = 0 ∧ z.2.1 150 = 0 ∧ z.2.1 151 = 0 ∧ z.2.1 152 = 0) := by
  unfold rf_begin rfl_begin_32 rfl_begin_53
  refine RP_bnd (uw_rfb_begin_12 _) (fun e he => RP_bnd (uw_rfb_begin_34 _) (fun g hg => RP_some ?_))
  have f : fr [128, 130] [138, 139] M g := fr_s hg.1 (fr_s he.1 (fr_m fr_0 rfl rfl) rfl rfl) rfl rfl
  exact ⟨fr_m (fr_s f fr_0 rfl rfl) rfl rfl, (fr1 hg.1 128 rfl).trans (fr1 he.1 128 rfl), (fr1 hg.1 130 rfl).trans (fr1 he.1 130 rfl), rfl, rfl, rfl, rfl, rfl⟩
theorem read_ru (hr3 : ∀ i, 0 ≤ M.2 3 i ∧ M.2 3 i ≤ 255) (hr4 : ∀ i, 0 ≤ M.2 4 i ∧ M.2 4 i ≤ 255) : RP (rf_read M) (fun z => z.2.1 5 = 0 ∧ z.2.1 128 = 0 ∧ z.2.1 130 = -1 ∧ z.2.1 148 = 0 ∧ z.2.1 150 = 0 ∧ z.2.1 152 = 0 ∧ z.2.2 2 = M.2 2 ∧ (0 ≤ z.2.1 10 → (z.2.1 10 = 0 ∧ z.2.1 127 = 1 ∧ z.2.1 1 = 0) ∨ (0 < z.2.1 10 ∧ z.2.1 127 = 0 ∧ z.2.1 1 = 1 ∧ z.1 = 0)) ∧ z.2.2 3 = M.2 3 ∧ (∀ i, 0 ≤ z.2.2 4 i ∧ z.2.2 4 i ≤ 255) ∧ z.2.2 0 = M.2 0 ∧ z.2.2 18 = M.2 18) := by
  unfold rf_read
  have lp1 : RP (whl rfb_read_15 (0, mO M [(5, 0), (6, M.1 5)] [])) (fun e => fr [5, 6] [4] M e ∧ e.1 5 = 0 ∧ ∀ i, 0 ≤ e.2 4 i ∧ e.2 4 i ≤ 255) := by
    refine RP_whl (I := fun s : Int × mR => fr [5, 6] [4] M s.2 ∧ s.2.1 5 = 0 ∧ ∀ i, 0 ≤ s.2.2 4 i ∧ s.2.2 4 i ≤ 255) (fun s hs => ?_) ⟨fr_m fr_0 rfl rfl, rfl, hr4⟩
    unfold rfb_read_15
    refine RP_ite (fun _ => RP_some hs) (fun _ => RP_some ⟨fr_m hs.1 rfl rfl, hs.2.1, fun i => ?_⟩)
    show 0 ≤ upI (s.2.2 4) s.1 (s.2.2 3 s.1) i ∧ upI (s.2.2 4) s.1 (s.2.2 3 s.1) i ≤ 255
    by_cases e : i = s.1
    · rw [e, upI_s, fr2 hs.1 3 rfl]
      exact hr3 _
    · rw [upI_n e]
      exact hs.2.2 i
  refine RP_bnd lp1 (fun e he => ?_)
  unfold rfl_read_41
  have lp2 : RP (whl rfb_read_88 (0, mO e [(8, 0), (9, 0), (10, 0), (11, (-1)), (13, 0), (19, 0), (20, 0), (21, 3), (127, 0)] [])) (fun g => fr [5, 6, 8, 9, 10, 11, 13, 19, 20, 21, 127] [4, 35] M g ∧ g.1 5 = 0 ∧ ∀ i, 0 ≤ g.2 4 i ∧ g.2 4 i ≤ 255) := by
    refine RP_whl (I := fun s : Int × mR => fr [5, 6, 8, 9, 10, 11, 13, 19, 20, 21, 127] [4, 35] M s.2 ∧ s.2.1 5 = 0 ∧ ∀ i, 0 ≤ s.2.2 4 i ∧ s.2.2 4 i ≤ 255) (fun s hs => ?_) ⟨fr_m (fr_s he.1 fr_0 rfl rfl) rfl rfl, he.2.1, fun i => he.2.2 i⟩
    unfold rfb_read_88
    exact RP_ite (fun _ => RP_some hs) (fun _ => RP_some ⟨fr_m hs.1 rfl rfl, hs.2⟩)
  refine RP_bnd lp2 (fun g hg => ?_)
  unfold rfl_read_107
  refine RP_bnd begin_ru (fun b hb => ?_)
  obtain ⟨fb, b1, b2, b3, b4, b5, b6, b7⟩ := hb
  unfold rfl_read_156
  refine RP_bnd (u_rf_next b.2) (fun x hx => ?_)
  have b2' : b.2.2 2 = M.2 2 := by
    rw [fr2 fb 2 rfl]
    show g.2 2 = _
    rw [fr2 hg.1 2 rfl]
  have b5' : b.2.1 5 = 0 := by
    rw [fr1 fb 5 rfl]
    show g.1 5 = 0
    exact hg.2.1
  refine RP_bnd (P := fun w : mR => fr rdF rdA b.2 w) (RP_whl (I := fun w : mR => fr rdF rdA b.2 w) (fun s hs => ?_) (fr_s hx.1 fr_0 rfl rfl)) (fun w hw => ?_)
  · unfold rfb_read_160 rfl_read_171
    refine RP_ite (fun _ => RP_bnd (u_rf_takeOne s) (fun y hy => ?_)) (fun _ => RP_some hs)
    have f : fr rdF rdA b.2 y.2 := fr_s hy.1 hs rfl rfl
    exact RP_ite (fun _ => RP_some f) (fun _ => RP_some (fr_m f rfl rfl))
  · refine RP_w (rd182_u w) (fun z hz => ?_)
    have f : fr rdF rdA b.2 z.2 := fr_s hz.1 hw rfl rfl
    refine ⟨(fr1 f 5 rfl).trans b5', (fr1 f 128 rfl).trans b1, (fr1 f 130 rfl).trans b2, (fr1 f 148 rfl).trans b3, (fr1 f 150 rfl).trans b5, (fr1 f 152 rfl).trans b7, (fr2 f 2 rfl).trans b2', hz.2, ?_, fun i => ?_, ?_, ?_⟩
    · rw [fr2 f 3 rfl, fr2 fb 3 rfl]
      show g.2 3 = _
      rw [fr2 hg.1 3 rfl]
    · rw [fr2 f 4 rfl, fr2 fb 4 rfl]
      exact hg.2.2 i
    · rw [fr2 f 0 rfl, fr2 fb 0 rfl]
      show g.2 0 = _
      rw [fr2 hg.1 0 rfl]
    · rw [fr2 f 18 rfl, fr2 fb 18 rfl]
      show g.2 18 = _
      rw [fr2 hg.1 18 rfl]
def rkZ (m : mR) : Prop := m.1 200 = 0 ∧ m.1 202 = -1 ∧ m.1 226 = 0 ∧ m.1 232 = 0 ∧ m.1 233 = 0 ∧ m.1 235 = 0
theorem rkZ_f {F A : List Nat} {m m' : mR} (h : rkZ m) (f : fr F A m m') (c1 : chk [200, 202, 226, 232, 233, 235] F = true) : rkZ m' := by
  unfold rkZ
  rw [fr1 f 200 (chk_1 c1 (by decide)), fr1 f 202 (chk_1 c1 (by decide)), fr1 f 226 (chk_1 c1 (by decide)), fr1 f 232 (chk_1 c1 (by decide)), fr1 f 233 (chk_1 c1 (by decide)), fr1 f 235 (chk_1 c1 (by decide))]
  exact h
theorem read_ku : RP (kf_pw_read K) (fun y => rkZ y.2.2 ∧ (y.1 = 0 ∨ y.2.2.1 201 = 0) ∧ y.2.2.2 0 = K.2 0 ∧ y.2.2.2 1 = K.2 1 ∧ y.2.2.2 5 = K.2 5) := by
  intro y hy
  have fA := u_kf_pw_read K y hy
  refine ⟨?_, ?_, fr2 fA 0 rfl, fr2 fA 1 rfl, fr2 fA 5 rfl⟩
  · revert y
    show RP (kf_pw_read K) (fun y => _ → rkZ y.2.2)
    unfold kf_pw_read
    refine RP_bnd clear_pr (fun y1 h1 => RP_bnd clear_pi (fun y2 h2 => ?_))
    have z2 : rkZ y2.2 := ⟨(fr1 h2.1 200 rfl).trans (fr1 h1.2 200 rfl), (fr1 h2.1 202 rfl).trans (fr1 h1.2 202 rfl), (fr1 h2.1 226 rfl).trans h1.1.2.2.2.2.2.2.2.2.2.2.2.2.1, h2.2.1, h2.2.2.1, h2.2.2.2.2⟩
    refine RP_bnd (u_kf_tx_open _ _) (fun y3 h3 => ?_)
    have z3 : rkZ y3.2.2 := rkZ_f z2 h3 rfl
    refine RP_ite (fun _ => RP_bnd (uw_kfb_pw_read_46 _) (RP_sl (fun e he => ?_) (fun e he => RP_some (fun _ => rkZ_f z3 he rfl)))) (fun _ => RP_some (fun _ => z3))
    exact RP_w (u_kfl_pw_read_202 e) (fun w hw _ => rkZ_f (rkZ_f z3 he rfl) hw rfl)
  · revert y
    show RP (kf_pw_read K) (fun y => _ → (y.1 = 0 ∨ y.2.2.1 201 = 0))
    have t241 : ∀ m : mR, m.1 201 = 0 → RP (kfl_pw_read_241 m) (fun y => y.1 = 0 ∨ y.2.2.1 201 = 0) := by
      intro m hm
      unfold kfl_pw_read_241
      refine RP_bnd (u_kf_rd_emit m) (fun y3 h3 => RP_ite (fun _ => RP_bnd (u_kf_rd_close y3.2.2) (fun y6 h6 => RP_ite (fun _ => RP_some (Or.inl rfl)) (fun _ => RP_some (Or.inr ?_)))) (fun _ => RP_some (Or.inr ?_)))
      · show y6.2.2.1 201 = 0
        rw [fr1 h6 201 rfl, fr1 h3 201 rfl]; exact hm
      · show y3.2.2.1 201 = 0
        rw [fr1 h3 201 rfl]; exact hm
    have t202 : ∀ m : mR, m.1 201 = 0 → RP (kfl_pw_read_202 m) (fun y => y.1 = 0 ∨ y.2.2.1 201 = 0) := by
      intro m hm
      unfold kfl_pw_read_202
      refine RP_bnd (u_kf_rd_openControl m) (fun y hy => RP_ite (fun _ => RP_bnd (uw_kfb_pw_read_211 _) (RP_sl (fun e he => t241 e ?_) (fun e he => RP_some (Or.inr ?_)))) (fun _ => RP_some (Or.inr ?_)))
      · rw [fr1 he 201 rfl]
        show y.2.2.1 201 = 0
        rw [fr1 hy 201 rfl]; exact hm
      · show e.2.1 201 = 0
        rw [fr1 he 201 rfl]
        show y.2.2.1 201 = 0
        rw [fr1 hy 201 rfl]; exact hm
      · show y.2.2.1 201 = 0
        rw [fr1 hy 201 rfl]; exact hm
    unfold kf_pw_read
    refine RP_bnd clear_pr (fun y1 h1 => RP_bnd clear_pi (fun y2 h2 => ?_))
    have z2 : y2.2.1 201 = 0 := (fr1 h2.1 201 rfl).trans (fr1 h1.2 201 rfl)
    refine RP_bnd (u_kf_tx_open _ _) (fun y3 h3 => ?_)
    have z3 : y3.2.2.1 201 = 0 := (fr1 h3 201 rfl).trans z2
    refine RP_ite (fun _ => RP_bnd (uw_kfb_pw_read_46 _) (RP_sl (fun e he => ?_) (fun e he => RP_some (fun _ => Or.inr ?_)))) (fun _ => RP_some (fun _ => Or.inr z3))
    · exact RP_w (t202 e (by rw [fr1 he 201 rfl]; exact z3)) (fun w hw _ => hw)
    · show e.2.1 201 = 0
      rw [fr1 he 201 rfl]
      exact z3
/-- read, side by side -/
theorem read_s2 (hB : BYR K M) (hW : KWD K) (hT : TPE K M) : RR (kf_pw_read K) (rf_read M) (GV RDg) := by
  obtain ⟨t1, t2, t3, t4⟩ := hT
  intro u v hu hv
  obtain ⟨N, hR, n6, n4, n4', n0, n18, hv⟩ := head_r t2 t3 v hv
  unfold kf_pw_read at hu
  cases h1 : kf_pr_clear (mO K [(200, 0), (201, 0), (202, (-1))] []) with
  | none => rw [h1] at hu; cases hu
  | some y1 =>
  rw [h1, bnd_some] at hu
  obtain ⟨z1, f1⟩ := clear_pr y1 h1
  cases h2 : kf_pi_clear y1.2 with
  | none => rw [h2] at hu; cases hu
  | some y2 =>
  rw [h2, bnd_some] at hu
  obtain ⟨f2, -⟩ := clear_pi y2 h2
  cases h3 : kf_tx_open (K.1 200) y2.2 with
  | none => rw [h3] at hu; cases hu
  | some y3 =>
  rw [h3, bnd_some] at hu
  obtain ⟨L, hG, f3, l204, l205, l213, x, hx, x1, x2⟩ := open_k y3 h3
  have z3 : PZ L := PZ_f (PZ_f z1 f2 rfl rfl) f3 rfl rfl
  have fKL : fr [200, 201, 202, 203, 204, 205, 209, 210, 211, 212, 213, 214, 215, 216, 217, 218, 219, 220, 221, 222, 223, 224, 225, 226, 232, 233, 234, 235] [6, 7, 8, 9, 10, 14, 71, 106] K L := fr_s f3 (fr_s f2 (fr_s f1 (fr_m fr_0 rfl rfl) rfl rfl) rfl rfl) rfl rfl
  have r4 : ∀ i, 0 ≤ M.2 4 i ∧ M.2 4 i ≤ 255 := hB.2.2.1
  have r3 : ∀ i, 0 ≤ M.2 3 i ∧ M.2 3 i ≤ 255 := hB.2.1
  have hLT : LT L N := by
    refine ⟨⟨by omega, by omega, fun i => ?_⟩, ⟨by omega, by omega, fun i => ?_⟩, ⟨by omega, fun i i0 i1 => ?_⟩, ?_, by rw [n0]; exact hB.2.2.2.1⟩
    · rcases n4' i with q | ⟨j, q⟩
      · rw [q]; exact r4 i
      · rw [q]; exact r3 j
    · rw [fr2 fKL 1 rfl]
      exact hB.1 i
    · rw [n6] at i1
      rw [fr2 fKL 1 rfl, n4 i i0 i1]
      exact t4 i i0 i1
    · unfold KWD
      rw [fr2 fKL 5 rfl]
      exact hW
  have hNM : NMR L N := GVK_n hG hR.2.2.2.1 (by rw [n18]; exact hB.2.2.2.2)
  cases h4 : rf_next N with
  | none => rw [h4] at hv; cases hv
  | some z4 =>
  rw [h4, bnd_some] at hv
  have g1 := u_kf_tx_advance L x hx
  have g2 := u_rf_next N z4 h4
  have hf := hR.2.2.1
  rcases rr_adv1 hLT hNM l213 hf l205 (show cut (N.1 8 + N.1 9) = 0 by rw [hR.1, hR.2.1]; decide) (Int.le_refl 0) (by omega) x z4 hx h4 with ⟨q0, -, q1⟩ | ⟨q1, q2⟩
  · rw [if_pos (by omega)] at hu
    obtain ⟨hF, hd⟩ := first_fb q1 g1 g2.1 z3 hR
    rw [x2] at hF
    cases h5 : whl kfb_pw_read_46 (1, 0, y3.2.2) with
    | none => rw [h5] at hu; cases hu
    | some a =>
    rw [h5, bnd_some] at hu
    cases h6 : whl rfb_read_160 z4.2 with
    | none => rw [h6] at hv; cases hv
    | some b =>
    rw [h6, bnd_some] at hv
    rcases decls_s (s := (1, 0, y3.2.2)) (M := z4.2) ⟨hF, rfl, (by show (0 : Int) + 3 = _; omega)⟩ a b h5 h6 with ⟨K5, rfl, hF5⟩ | ⟨⟨e, rfl, he⟩, hb⟩
    · exact rest_s hF5 u v hu hv
    · cases hu
      exact Or.inr ⟨he, rd182_f b hb v hv⟩
  · rw [if_neg (by omega)] at hu
    cases hu
    cases h6 : whl rfb_read_160 z4.2 with
    | none => rw [h6] at hv; cases hv
    | some b =>
    rw [h6, bnd_some] at hv
    have e : rfb_read_160 z4.2 = some (.inr z4.2) := by
      unfold rfb_read_160
      rw [if_neg (show ¬ z4.2.1 10 = 0 by omega)]
    rw [whl_eq, e] at h6
    cases h6
    exact Or.inr ⟨by show y3.1 ≠ 0; omega, rd182_f z4.2 q2 v hv⟩
/-- behind read() -/
theorem REL_read (h : REL0 K M) : RR (kf_pw_read K) (rf_read M) (fun y z => 0 ≤ z.2.1 10 → REL0 y.2.2 z.2 ∧ ((y.1 = 0 ∧ z.2.1 1 = 0 ∧ y.2.1 = z.1) ∨ (y.1 ≠ 0 ∧ z.2.1 1 = 1))) := by
  obtain ⟨h0, h1, h2, h3, h4, h5, h6, h7, h8, h9, h10, h11⟩ := h
  intro y z hy hz z0
  obtain ⟨⟨a1, a2, a3, a4, a5, a6⟩, a7, a8, a9, a10⟩ := read_ku y hy
  obtain ⟨b1, b2, b3, b4, b5, b6, b7, b8, b9, b10, b11, b12⟩ := read_ru h0.2.1 h0.2.2.1 z hz
  have B : BYR y.2.2 z.2 := ⟨by rw [a9]; exact h0.1, by rw [b9]; exact h0.2.1, b10, by rw [b11]; exact h0.2.2.2.1, by rw [b12]; exact h0.2.2.2.2⟩
  have b8 := b8 z0
  have T : TPE y.2.2 z.2 := ⟨by omega, by omega, by omega, fun i i0 i1 => by omega⟩
  have R : RDY y.2.2 z.2 := by
    unfold RDY
    rw [a8, b7]
    exact h2
  have W : KWD y.2.2 := by
    unfold KWD
    rw [a10]
    exact h3
  rcases read_s2 h0 h3 h1 y z hy hz with ⟨q0, q1, q2, q3, q4, q5⟩ | ⟨q1, q2⟩
  · refine ⟨⟨B, T, R, W, by omega, by omega, fun _ => q2, ⟨Or.inr ⟨by omega, by omega⟩, fun q => by omega⟩, by omega, by omega, by omega, by omega⟩, Or.inl ⟨q0, q5, q1⟩⟩
  · have k : y.2.2.1 201 = 0 := by
      rcases a7 with a7 | a7
      · exact absurd a7 q1
      · exact a7
    refine ⟨⟨B, T, R, W, by omega, by omega, fun q => by omega, ⟨Or.inr ⟨by omega, by omega⟩, fun q => by omega⟩, by omega, by omega, by omega, by omega⟩, Or.inr ⟨q1, by omega⟩⟩
end RDB
