/-! ===== EXPRs: what stands behind an operand ===== -/
section SFX
variable {K M : mR}
theorem num_s (h : LR K M) {a b : Int} (hab : -2147483648 ≤ a ∧ b < 2147483648) : RR (kf_tx_within a b K) (rf_number a b M) (fun y z => (y.1 = 0 ∧ ((y.2.1 = z.1 ∧ a ≤ y.2.1 ∧ y.2.1 ≤ b) ∧ LR y.2.2 z.2 ∧ fr kF_tx_within kA_tx_within K y.2.2 ∧ fr rF_number rA_number M z.2 ∧ M.1 8 + 1 ≤ z.2.1 8)) ∨ (y.1 ≠ 0 ∧ 0 < z.2.1 10)) := by
  intro y z hy hz
  rcases rr_num h hab y z hy hz with ⟨a1, b1, c⟩ | a1
  · refine Or.inl ⟨a1, b1, c, u_kf_tx_within a b K y hy, (u_rf_number a b M z hz).1, ?_⟩
    have hf := h.2.2.2.2
    have hg := c.2.2.2.2
    have bd : ∀ (X : Option (Int × mR)), RP X (fun z => 0 < z.2.1 10) → ∀ w, bnd X (fun q => rfl_number_53 a q.2) = some w → 0 < w.2.1 10 := by
      intro X hX w hw
      exact RP_e (P := fun w : Int × mR => 0 < w.2.1 10) hw (RP_bnd hX (fun q hq => RP_w (u_rfl_number_53 a q.2) (fun w hw => hw.2 hq)))
    have good : ∀ w, M.1 7 = 2 → rfl_number_53 a M = some w → M.1 8 + 1 ≤ w.2.1 8 := by
      intro w e hw
      unfold rfl_number_53 at hw
      rw [if_pos (show M.1 10 ≤ 0 by omega)] at hw
      exact RP_e (P := fun z : Int × mR => M.1 8 + 1 ≤ z.2.1 8) hw (RP_bnd (next_8 h (by omega)) (fun q hq => RP_some hq))
    unfold rf_number rfl_number_44 at hz
    rw [if_pos (show M.1 10 ≤ 0 by omega)] at hz
    by_cases e : M.1 7 = 2
    · rw [if_pos e] at hz
      by_cases e2 : cmp64 (M.1 12) a < 0
      · rw [if_pos e2] at hz
        have := bd _ (wrong_1 (by decide)) z hz
        omega
      · rw [if_neg e2] at hz
        by_cases e3 : cmp64 (M.1 12) b ≤ 0
        · rw [if_pos e3] at hz
          exact good z e hz
        · rw [if_neg e3] at hz
          have := bd _ (wrong_1 (by decide)) z hz
          omega
    · rw [if_neg e] at hz
      have := bd _ (bad_1 M) z hz
      omega
  · exact Or.inr a1
/-- a NUMBER is wanted and read -/
theorem exn_s (h : LR K M) (hw : M.1 7 = 2) : RR (kf_tx_expect 257 K) (rf_next M) (fun y z => (y.1 = 0 ∧ AVP K M y z) ∨ (y.1 ≠ 0 ∧ 0 < z.2.1 10)) := by
  have hX := h.2.1
  unfold kf_tx_expect kfl_tx_expect_12
  rw [hX.1, if_pos ((wm_257 hX.2.1).mpr hw)]
  intro y z hy hz
  cases hk : kf_tx_advance K with
  | none => rw [hk] at hy; cases hy
  | some x =>
    rw [hk, bnd_some] at hy
    rcases adv_s h (by omega) x z hk hz with ⟨a, b⟩ | ⟨a, b⟩
    · rw [if_pos a] at hy
      cases hy
      exact Or.inl ⟨rfl, b⟩
    · rw [if_neg a] at hy
      cases hy
      exact Or.inr ⟨a, b⟩
theorem exn_x (h : LR K M) (hw : M.1 7 ≠ 2) : RP (kf_tx_expect 257 K) (fun y => y.1 ≠ 0) := by
  have hX := h.2.1
  unfold kf_tx_expect
  rw [hX.1, if_neg (fun q => hw ((wm_257 hX.2.1).mp q))]
  exact thr_l (refuse_1 _)
def bS (u : Sum (Int × mR) (Sum mR (Int × mR))) : Prop := sel (fun s => DM s.2) (sel (fun q => DM q) (fun e => e.1 ≠ 0)) u
def gS (x i : Int) (u : Sum (Int × mR) (Sum mR (Int × mR))) (M' : mR) : Prop := ∃ K', u = Sum.inl (cut (i + 1), K') ∧ EB K' M' ∧ EU K' M' 1 ∧ x ≤ M'.1 8
/-- the latest operand goes, a node with it comes -/
theorem sfx_s {kd rt w pl sg nb x i : Int} {q : mR → Int} (hE : EB K M) (hU : EU K M 1) (hk : kd ≠ 257) (hk4 : kd ≠ 400) (hs : sg ≠ 401 ∧ sg ≠ 402 ∧ sg ≠ 404) (w0 : 1 ≤ w) (w1 : w ≤ 64) (hx : x ≤ M.1 8) {v2 : Int} : RR (bnd (kf_fm_add kd v2 rt w pl (mO K [(229, cut (K.1 229 - 1))] [])) fun y => kfl_fm_suffixes_287 i y.2) (bnd (rf_node sg w nb 0 M) fun y4 => bnd (rf_unit w (q y4.2) y4.2) fun y1 => some ((0 : Int), y1.2)) (PB (gS x i) bS) := by
  obtain ⟨⟨n1, n2, n3⟩, -⟩ := hE.2.1
  have hf := hE.1.2.2.2.2
  obtain ⟨t, n, p, B, h1, h2, h3, h4, h5, h6, h7, h8⟩ := hU
  have sb := STK_b h1
  have hd2 := hE.2.2.2.2.1
  rw [h4, cut_i (by omega) (by omega), show p + 1 - 1 = p by omega]
  have hE' : EB (mO K [(229, p)] []) M := EB_a (F := [229]) (A := []) (G := []) (C := []) hE (LR_g hE.1 (F := [229]) (A := []) (G := []) (B := []) (fr_m fr_0 rfl rfl) fr_0 rfl rfl rfl rfl hE.1.2.2.2.1 hf) (fr_m fr_0 rfl rfl) fr_0 rfl rfl rfl rfl
  refine RR_l (add_k (K := mO K [(229, p)] []) (show 0 ≤ K.1 220 by omega) (show K.1 220 ≤ 800 by omega) (show -2 ≤ p by omega) (show p ≤ 10000 by omega)) (fun y hy => ?_)
  refine RR_r (node_r hf (by omega) (by omega)) (fun z hz => ?_)
  obtain ⟨-, hA⟩ := hy
  unfold rf_unit kfl_fm_suffixes_287
  rw [bnd_some]
  rcases hz with ⟨z1, hN⟩ | ⟨z1, z2⟩
  · have z10 : z.2.1 10 = 0 := (fr1 hN.1 10 rfl).trans hf
    have fM : fr [69, 70, 71, 72] [] z.2 (mO z.2 [(69, w), (70, q z.2), (71, 0), (72, 0)] []) := fr_m fr_0 rfl rfl
    refine RR_some (Or.inl ⟨_, rfl, EB_add hE' hA hN (Or.inr (Or.inr (Or.inr ⟨hs.1, hs.2.1, hs.2.2, hk4⟩))) z1 fr_0 fM rfl rfl rfl rfl (F := []) (A := []), ?_, ?_⟩)
    · have hA' := hA
      obtain ⟨a1, a2, a3, a4, a5, a6, a7, a8⟩ := hA
      have hS' : STK (mO K [(229, p)] []) M t (M.1 73) n p B (M.1 74) := STK_c h1 (q := 9 * M.1 73) (AG_f (F := [229]) (A := []) (G := []) (C := []) (fr_m fr_0 rfl rfl) fr_0 rfl rfl) (Int.le_refl _)
      refine EU_add (Kx := mO K [(229, p)] []) hS' h2 h3 rfl (by omega) n1 hA' hN fr_0 fM rfl rfl (fun o _ => by rw [fr2 a1 24 rfl]) rfl rfl (F := []) (A := []) (Or.inl ⟨rfl, ?_, ?_, w0, w1⟩) ((fr1 hN.1 75 rfl).trans h8)
      · rw [a5]
        show upI _ (K.1 220) kd (M.1 28) ≠ 257
        rw [n1, upI_s]; exact hk
      · rw [a7]
        show upI _ (K.1 220) w (M.1 28) = w
        rw [n1, upI_s]
    · show x ≤ z.2.1 8
      rw [fr1 hN.1 8 rfl]
      exact hx
  · refine RR_some (Or.inr ⟨z2, ?_, ?_⟩)
    · obtain ⟨a1, a2, -⟩ := hA
      show y.2.1 213 = 1
      rw [a2]
      exact if_neg (show ¬ K.1 220 < 800 by omega)
    · obtain ⟨a1, a2, a3, -⟩ := hA
      show 800 < y.2.1 220
      rw [a3]
      show 800 < K.1 220 + 1
      omega
theorem as_s {x i v2 : Int} (hE : EB K M) (hU : EU K M 1) (hw : M.1 7 = 330) (hx : x ≤ M.1 8) : RR (kfl_fm_suffixes_64 i v2 1 K) (bnd (rf_next M) fun y48 => rfl_after_189 y48.2) (PB (gS (x + 1) i) bS) := by
  unfold kfl_fm_suffixes_64
  refine RR_pq (adv_s hE.1 (by omega)) (fun z hz => RP_w (u_rfl_after_189 z.2) (fun w hw => hw.2 hz)) (fun y hy => hy) (fun y z _ hG => ?_)
  obtain ⟨g1, g2, g3, g4⟩ := hG
  have hE1 : EB y.2.2 z.2 := EB_a hE g1 g2 g3 rfl rfl rfl rfl
  have hU1 : EU y.2.2 z.2 1 := by
    obtain ⟨t, n, p, B, q1, q2, q3, q4, q5, q6, q7, q8⟩ := id hU
    exact EU_f hU g2 g3 rfl rfl rfl rfl ((fr1 g3 75 rfl).trans q8)
  rw [if_neg (show ¬ (1 : Int) = 0 by decide)]
  unfold rfl_after_189
  refine RR_pq (num_s g1 (a := 1) (b := 64) (by omega)) (fun z hz => RP_w (u_rfl_after_196 z.1 z.2) (fun w hw => hw.2 hz)) (fun y hy => hy) (fun y2 z2 _ hG => ?_)
  obtain ⟨⟨k1, k2, k3⟩, f1, f2, f3, f4⟩ := hG
  have hE2 : EB y2.2.2 z2.2 := EB_a hE1 f1 f2 f3 rfl rfl rfl rfl
  have hU2 : EU y2.2.2 z2.2 1 := by
    obtain ⟨t, n, p, B, q1, q2, q3, q4, q5, q6, q7, q8⟩ := id hU1
    exact EU_f hU1 f2 f3 rfl rfl rfl rfl ((fr1 f3 75 rfl).trans q8)
  unfold rfl_after_196 rfl_after_207
  rw [← k1]
  exact sfx_s (q := fun m => m.1 70) hE2 hU2 (by decide) (by decide) ⟨by decide, by decide, by decide⟩ k2 k3 (by omega)
theorem sl_s {x i : Int} (hE : EB K M) (hU : EU K M 1) (hw : M.1 7 = 91) (hx : x ≤ M.1 8) : RR (kfl_fm_suffixes_64 i (K.2 70 (cut (K.1 229 - 1))) 0 K) (bnd (rf_next M) fun y51 => rfl_after_13 y51.2) (PB (gS (x + 1) i) bS) := by
  have EUa : ∀ {K1 M1 K2 M2 : mR} {F A : List Nat}, EU K1 M1 1 → fr F A K1 K2 → fr rF_next rA_next M1 M2 → chk [228, 229] F = true → chk [18, 22, 24, 68, 70] A = true → EU K2 M2 1 := by
    intro K1 M1 K2 M2 F A h hK hM c1 c2
    obtain ⟨t, n, p, B, q1, q2, q3, q4, q5, q6, q7, q8⟩ := id h
    exact EU_f h hK hM c1 c2 rfl rfl ((fr1 hM 75 rfl).trans q8)
  have ev2 : ∃ v2, v2 = K.2 70 (cut (K.1 229 - 1)) := ⟨_, rfl⟩
  obtain ⟨v2, ev2⟩ := ev2
  rw [← ev2]
  have hv2 : K.2 22 v2 = M.1 69 ∧ 1 ≤ M.1 69 ∧ M.1 69 ≤ 64 := by
    obtain ⟨t, n, p, B, q1, q2, q3, q4, q5, q6, q7, q8⟩ := hU
    have sb := STK_b q1
    have hd2 := hE.2.2.2.2.1
    rw [ev2, q4, cut_i (by omega) (by omega), show p + 1 - 1 = p by omega]
    have := OP_r q7
    omega
  unfold kfl_fm_suffixes_64
  refine RR_pq (adv_s hE.1 (by omega)) (fun z hz => RP_w (u_rfl_after_13 z.2) (fun w hw => hw.2 hz)) (fun y hy => hy) (fun y z _ hG => ?_)
  obtain ⟨g1, g2, g3, g4⟩ := hG
  have hE1 : EB y.2.2 z.2 := EB_a hE g1 g2 g3 rfl rfl rfl rfl
  have hU1 : EU y.2.2 z.2 1 := EUa hU g2 g3 rfl rfl
  rw [if_pos rfl]
  unfold rfl_after_13
  by_cases wn : z.2.1 7 = 2
  · rw [if_pos wn]
    have e5 : y.2.2.1 208 = z.2.1 12 := g1.2.1.2.2.2.2.2.2.2.1 wn
    unfold rfl_after_30
    refine RR_pq (exn_s g1 wn) (fun w hw => RP_w (u_rfl_after_39 _ _ w.2) (fun v hv => hv.2 hw)) (fun y hy => hy) (fun y2 z2 _ hG => ?_)
    obtain ⟨f1, f2, f3, f4⟩ := hG
    have hE2 : EB y2.2.2 z2.2 := EB_a hE1 f1 f2 f3 rfl rfl rfl rfl
    have hU2 : EU y2.2.2 z2.2 1 := EUa hU1 f2 f3 rfl rfl
    unfold rfl_after_39
    refine RR_pq (exp_s f1 (c := 58) (by omega)) (fun w hw => RP_w (u_rfl_after_45 _ _ w.2) (fun v hv => hv.2 hw)) (fun y hy => hy) (fun y3 z3 _ hG => ?_)
    obtain ⟨e1, e2, e3, e4⟩ := hG
    have hE3 : EB y3.2.2 z3.2 := EB_a hE2 e1 e2 e3 rfl rfl rfl rfl
    have hU3 : EU y3.2.2 z3.2 1 := EUa hU2 e2 e3 rfl rfl
    have hf3 := e1.2.2.2.2
    unfold rfl_after_45
    rw [if_pos hf3]
    by_cases wm2 : z3.2.1 7 = 2
    · rw [if_pos wm2]
      have e7 : y3.2.2.1 208 = z3.2.1 12 := e1.2.1.2.2.2.2.2.2.2.1 wm2
      unfold rfl_after_64
      refine RR_pq (exn_s e1 wm2) (fun w hw => RP_w (u_rfl_after_74 _ _ _ w.2) (fun v hv => hv.2 hw)) (fun y hy => hy) (fun y4 z4 _ hG => ?_)
      obtain ⟨d1, d2, d3, d4⟩ := hG
      have hE4 : EB y4.2.2 z4.2 := EB_a hE3 d1 d2 d3 rfl rfl rfl rfl
      have hU4 : EU y4.2.2 z4.2 1 := EUa hU3 d2 d3 rfl rfl
      have hf4 := d1.2.2.2.2
      have e22 : y4.2.2.2 22 v2 = z4.2.1 69 := by
        rw [fr2 d2 22 rfl, fr2 e2 22 rfl, fr2 f2 22 rfl, fr2 g2 22 rfl, fr1 d3 69 rfl, fr1 e3 69 rfl, fr1 f3 69 rfl, fr1 g3 69 rfl]
        exact hv2.1
      have e69 : z4.2.1 69 = M.1 69 := by rw [fr1 d3 69 rfl, fr1 e3 69 rfl, fr1 f3 69 rfl, fr1 g3 69 rfl]
      unfold rfl_after_74
      rw [if_pos hf4, e5, e7, e22]
      have bad : RR (kfl_fm_suffixes_220 i v2 (y.2.2.1 207) (z.2.1 12) (z3.2.1 12) y4.2.2) (rfl_after_116 (z.2.1 8) (z.2.1 12) (z3.2.1 12) z4.2) (PB (gS (x + 1) i) bS) := by
        unfold kfl_fm_suffixes_220 kfl_fm_suffixes_221 rfl_after_116 rfl_after_117
        rw [if_pos rfl]
        refine RR_xx (thr_x (fail_1 _ _ _) (fun y hy => hy)) (RP_bnd want_r (fun w hw => ?_))
        rcases hw with hw | hw
        · exact absurd rfl hw.1
        · exact RP_w (u_rfl_after_121 _ _ w.2) (fun v hv => hv.2 hw.2)
      by_cases c1 : cmp64 (z.2.1 12) 0 < 0
      · rw [if_pos c1, if_pos c1]
        exact bad
      · rw [if_neg c1, if_neg c1]
        by_cases c2 : (0 : Int) ≤ cmp64 (z.2.1 12) (z4.2.1 69)
        · rw [if_pos c2]
          refine RR_ir (fun _ => bad) (fun _ => RR_ir (fun _ => bad) (fun _ => ?_))
          rw [if_pos c2]
          exact bad
        · rw [if_neg c2]
          refine RR_ii Iff.rfl (fun _ _ => bad) (fun c3 _ => ?_)
          refine RR_ii Iff.rfl (fun _ _ => bad) (fun c4 _ => ?_)
          rw [if_neg c2]
          unfold kfl_fm_suffixes_221 rfl_after_117
          rw [if_neg (show ¬ (1 : Int) = 0 by decide)]
          have r1 : 0 ≤ z.2.1 12 := by
            apply Classical.byContradiction
            intro q
            exact c1 (cmp64_lt.mpr (by omega))
          have r3 : 0 ≤ z3.2.1 12 := by
            apply Classical.byContradiction
            intro q
            exact c3 (cmp64_lt.mpr (by omega))
          have r2 : z.2.1 12 < z4.2.1 69 := by
            have : cmp64 (z.2.1 12) (z4.2.1 69) < 0 := by omega
            exact cmp64_lt.mp this
          have r4 : z3.2.1 12 ≤ z.2.1 12 := by
            have : cmp64 (z3.2.1 12) (z.2.1 12) ≤ 0 := by omega
            exact cmp64_le.mp this
          refine RR_r want_r (fun w9 hw9 => ?_)
          rcases hw9 with ⟨-, hw9⟩ | ⟨hw9, -⟩
          · rw [hw9]
            unfold kfl_fm_suffixes_239 rfl_after_121
            refine RR_pq (exp_s d1 (c := 93) (by omega)) (fun w hw => RP_w (u_rfl_after_127 _ _ w.2) (fun v hv => hv.2 hw)) (fun y hy => hy) (fun y5 z5 _ hG => ?_)
            obtain ⟨b1, b2, b3, b4⟩ := hG
            have hE5 : EB y5.2.2 z5.2 := EB_a hE4 b1 b2 b3 rfl rfl rfl rfl
            have hU5 : EU y5.2.2 z5.2 1 := EUa hU4 b2 b3 rfl rfl
            unfold rfl_after_127 rfl_after_159
            rw [if_pos (show z5.2.1 10 ≤ 0 by have := b1.2.2.2.2; omega)]
            have ec : cut (cutl (z.2.1 12 - z3.2.1 12)) = z.2.1 12 - z3.2.1 12 := by
              rw [cutl_i (by omega) (by omega)]
              exact cut_i (by omega) (by omega)
            rw [ec, cut_i (z := z.2.1 12 - z3.2.1 12 + 1) (by omega) (by omega)]
            exact sfx_s (q := fun _ => z5.2.1 70) hE5 hU5 (by decide) (by decide) ⟨by decide, by decide, by decide⟩ (by omega) (by omega) (by omega)
          · exact absurd hw9 (by decide)
    · rw [if_neg wm2]
      exact RR_xx (thr_x (exn_x e1 wm2) (fun y hy => hy)) (RP_bnd (bad_1 _) (fun w hw => RP_w (u_rfl_after_64 _ _ w.2) (fun v hv => hv.2 hw)))
  · rw [if_neg wn]
    exact RR_xx (thr_x (exn_x g1 wn) (fun y hy => hy)) (RP_bnd (bad_1 _) (fun w hw => RP_w (u_rfl_after_30 _ w.2) (fun v hv => hv.2 hw)))
theorem sfx_d {s : Int × mR} (h : DM s.2) : RP (whl kfb_fm_suffixes_2 s) (sel (fun q => DM q) (fun e => e.1 ≠ 0)) := by
  refine RP_whl (I := fun s : Int × mR => DM s.2) (fun s hs => ?_) h
  unfold kfb_fm_suffixes_2 kfl_fm_suffixes_34
  have a : ∀ v2 u, RP (kfl_fm_suffixes_64 s.1 v2 u s.2) (sel (fun s : Int × mR => DM s.2) (sel (fun q => DM q) (fun e => e.1 ≠ 0))) := by
    intro v2 u
    unfold kfl_fm_suffixes_64
    exact thr_x (adv_d hs.1) (fun y hy => hy)
  refine RP_ite (fun _ => RP_some hs) (fun _ => RP_ite (fun _ => RP_ite (fun _ => a _ _) (fun _ => a _ _)) (fun _ => RP_ite (fun _ => RP_ite (fun _ => a _ _) (fun _ => a _ _)) (fun _ => RP_some hs)))
/-- all that stands behind an operand -/
theorem suffixes_s (hE : EB K M) (hU : EU K M 1) : SM (kf_fm_suffixes K) M (fun y M' => y.1 = 0 ∧ EB y.2.2 M' ∧ EU y.2.2 M' 2 ∧ M.1 8 ≤ M'.1 8) (fun y => y.1 ≠ 0 ∨ (y.1 = 0 ∧ DM y.2.2)) := by
  unfold kf_fm_suffixes
  refine SM_bnd (P := fun x M' => sel (fun q => EB q M' ∧ EU q M' 2 ∧ M.1 8 ≤ M'.1 8) (fun _ => False) x) (B := sel (fun q => DM q) (fun e => e.1 ≠ 0)) ?_ (fun x M' hx => ?_) (fun x hx => ?_)
  · have m0 : 0 ≤ M.1 8 := hE.1.2.1.2.2.2.1
    refine SM_whl (I := fun (s : Int × mR) M' => EB s.2 M' ∧ EU s.2 M' 1 ∧ M.1 8 ≤ M'.1 8 ∧ 0 ≤ s.1 ∧ s.1 ≤ M'.1 8) (D := fun s => DM s.2) ?_ (fun s hs => sfx_d hs) ⟨hE, hU, Int.le_refl _, (show (0 : Int) ≤ 0 by decide), m0⟩
    intro s M1 hI
    obtain ⟨i, K1⟩ := s
    obtain ⟨hE1, hU1, h8, i0, i1⟩ := hI
    have hE1 : EB K1 M1 := hE1
    have hU1 : EU K1 M1 1 := hU1
    have i0 : 0 ≤ i := i0
    have i1 : i ≤ M1.1 8 := i1
    have hX := hE1.1.2.1
    have hf := hE1.1.2.2.2.2
    have hT := hE1.1.1.1.2.1
    have h86 := hX.2.2.2.2.1
    have h75 : M1.1 75 = 1 := by
      obtain ⟨t, n, p, B, _, _, _, _, _, _, _, hm⟩ := hU1
      exact hm
    have more : ∀ u M', gS (M1.1 8 + 1) i u M' → sel (fun s' : Int × mR => EB s'.2 M' ∧ EU s'.2 M' 1 ∧ M.1 8 ≤ M'.1 8 ∧ 0 ≤ s'.1 ∧ s'.1 ≤ M'.1 8) (fun x => sel (fun q => EB q M' ∧ EU q M' 2 ∧ M.1 8 ≤ M'.1 8) (fun _ => False) x) u := by
      intro u M' ⟨K', e, q1, q2, q3⟩
      subst e
      rw [cut_i (by omega) (by omega)]
      exact ⟨q1, q2, by omega, by show 0 ≤ i + 1; omega, by show i + 1 ≤ _; omega⟩
    unfold kfb_fm_suffixes_2 kfl_fm_suffixes_34
    show SM (if (4000 : Int) < i then some (Sum.inr (Sum.inl K1)) else if K1.1 206 = 91 then (if K1.1 206 = 330 then kfl_fm_suffixes_64 i (K1.2 70 (cut (K1.1 229 - 1))) 1 K1 else kfl_fm_suffixes_64 i (K1.2 70 (cut (K1.1 229 - 1))) 0 K1) else if K1.1 206 = 330 then (if K1.1 206 = 330 then kfl_fm_suffixes_64 i (K1.2 70 (cut (K1.1 229 - 1))) 1 K1 else kfl_fm_suffixes_64 i (K1.2 70 (cut (K1.1 229 - 1))) 0 K1) else some (Sum.inr (Sum.inl K1))) M1 _ _
    rw [if_neg (by omega), hX.1]
    by_cases w91 : M1.1 7 = 91
    · rw [if_pos ((wm_big hX.2.1 (by omega)).mpr w91), if_neg (fun q => by have := (wm_big hX.2.1 (c := 330) (by omega)).mp q; omega)]
      refine SM_st (Y := bnd (rf_next M1) fun y51 => rfl_after_13 y51.2) ?_ (PB_w (sl_s hE1 hU1 w91 (Int.le_refl _)) more (fun u hu => hu))
      rw [WX_1 hf h75]
      congr 1
      unfold rf_after
      rw [if_pos w91]
    · rw [if_neg (fun q => w91 ((wm_big hX.2.1 (by omega)).mp q))]
      by_cases w330 : M1.1 7 = 330
      · have e330 := (wm_big hX.2.1 (c := 330) (by omega)).mpr w330
        rw [if_pos e330, if_pos e330]
        refine SM_st (Y := bnd (rf_next M1) fun y48 => rfl_after_189 y48.2) ?_ (PB_w (as_s hE1 hU1 w330 (Int.le_refl _)) more (fun u hu => hu))
        rw [WX_1 hf h75]
        congr 1
        unfold rf_after
        rw [if_neg w91, if_pos w330]
      · rw [if_neg (fun q => w330 ((wm_big hX.2.1 (by omega)).mp q))]
        refine SM_st (Y := some (0, mO M1 [(75, 2)] [])) ?_ (RR_some (Or.inl ?_))
        · rw [WX_1 hf h75]
          congr 1
          unfold rf_after
          rw [if_neg w91, if_neg w330]
        · have fM : fr [75] [] M1 (mO M1 [(75, 2)] []) := fr_m fr_0 rfl rfl
          exact ⟨EB_a (F := []) (A := []) hE1 (LR_g hE1.1 (F := []) (A := []) fr_0 fM rfl rfl rfl rfl hE1.1.2.2.2.1 hf) fr_0 fM rfl rfl rfl rfl, EU_f (F := []) (A := []) hU1 fr_0 fM rfl rfl rfl rfl rfl, h8⟩
  · cases x with
    | inl q => exact SM_some ⟨rfl, hx⟩
    | inr e => exact False.elim hx
  · cases x with
    | inl q => exact RP_some (Or.inr ⟨rfl, hx⟩)
    | inr e => exact RP_some (Or.inl hx)
end SFX
