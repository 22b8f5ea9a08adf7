/-! ===== EXPRs: places as operands; the operand whole ===== -/
section PLC
variable {K M : mR}
theorem RR_tl {α : Type} {X : Option α} {Y : Option (Int × mR)} {P : α → mR → Prop} {B : α → Prop} (h : RR X Y (PB P B)) : RR X (bnd Y fun y => some ((0 : Int), y.2)) (PB P B) := by
  intro a z ha hz
  cases hY : Y with
  | none => rw [hY] at hz; cases hz
  | some w =>
    rw [hY, bnd_some] at hz
    cases hz
    exact h a w ha hY
/-- . and a field's name -/
def FLG (K M : mR) (i a : Int) (K2 : mR) (b : Int) (M2 : mR) : Prop := (∃ f, 0 ≤ f ∧ f < M.2 29 (M.2 34 i) ∧ a = 17 * i + 1 + f ∧ b = 16 * i + f) ∧ LR K2 M2 ∧ fr kF_tx_advance kA_tx_advance K K2 ∧ fr rF_next rA_next M M2 ∧ M.1 8 + 1 ≤ M2.1 8
theorem plc_s (h : LR K M) (hP : BP K M) {i : Int} (i0 : 0 ≤ i) (i1 : i < M.1 20) (h0 : M.1 7 ≠ 0) : RR (kfl_fm_placeSlot_61 i K) (bnd (rf_next M) fun y => bnd (rf_need 46 y.2) fun y2 => rf_takeField i y2.2) (GV (FLG K M i)) := by
  unfold kfl_fm_placeSlot_61
  have h20 := hP.1.2.2.1
  have sr : ∀ z : Int × mR, 0 < z.2.1 10 → RP (bnd (rf_need 46 z.2) fun y2 => rf_takeField i y2.2) (fun w => 0 < w.2.1 10) := fun z hz => RP_bnd (RP_w (u_rf_need 46 z.2) (fun w hw => hw.2 hz)) (fun w hw => RP_w (u_rf_takeField i w.2) (fun v hv => hv.2 hw))
  have sr2 : ∀ z : Int × mR, 0 < z.2.1 10 → RP (rf_takeField i z.2) (fun w => 0 < w.2.1 10) := fun w hw => RP_w (u_rf_takeField i w.2) (fun v hv => hv.2 hw)
  have bad : ∀ (X : Option (Int × Int × mR)) (Y : Option (Int × mR)), RP X (fun y => y.1 ≠ 0) → RP Y (fun z => 0 < z.2.1 10) → RR X Y (GV (FLG K M i)) := fun X Y h1 h2 => RR_w (RR_pr h1 h2) (fun _ _ q => Or.inr q)
  refine RR_sq (G := fun _ K1 _ M1 => LR K1 M1 ∧ fr kF_tx_advance kA_tx_advance K K1 ∧ fr rF_next rA_next M M1 ∧ M.1 8 + 1 ≤ M1.1 8) (A := fun _ => True) (B := fun _ => True) (adv_s h h0) (RP_T _) (RP_T _) sr (fun a K1 b M1 hG _ _ => ?_)
  obtain ⟨g1, g2, g3, g4⟩ := hG
  have hX := g1.2.1
  have hf := g1.2.2.2.2
  show RR (if K1.1 206 = 46 then kfl_fm_placeSlot_87 i K1 else bnd (kf_tx_refuse K1) fun y22 => if y22.1 = 0 then kfl_fm_placeSlot_87 i y22.2.2 else some (y22.1, 0, y22.2.2)) (bnd (rf_need 46 M1) fun y2 => rf_takeField i y2.2) _
  rw [hX.1]
  by_cases w46 : M1.1 7 = 46
  · rw [if_pos ((wm_big hX.2.1 (by omega)).mpr w46), need_is (by omega) w46, bnd_a]
    unfold kfl_fm_placeSlot_87
    refine RR_sq (G := fun _ K2 _ M2 => LR K2 M2 ∧ fr kF_tx_advance kA_tx_advance K1 K2 ∧ fr rF_next rA_next M1 M2 ∧ M1.1 8 + 1 ≤ M2.1 8) (A := fun _ => True) (B := fun _ => True) (adv_s g1 (by omega)) (RP_T _) (RP_T _) (fun z hz => by rw [bnd_some]; exact sr2 (0, z.2) hz) (fun a2 K2 b2 M2 hG _ _ => ?_)
    obtain ⟨f1, f2, f3, f4⟩ := hG
    rw [bnd_some]
    show RR (if K2.1 206 = 256 then kfl_fm_placeSlot_114 i K2 else bnd (kf_tx_refuse K2) fun y15 => if y15.1 = 0 then kfl_fm_placeSlot_114 i y15.2.2 else some (y15.1, 0, y15.2.2)) (rf_takeField i M2) _
    have hX2 := f1.2.1
    have hf2 := f1.2.2.2.2
    have fK2 : fr kF_tx_advance kA_tx_advance K K2 := fr_s f2 g2 rfl rfl
    have fM2 : fr rF_next rA_next M M2 := fr_s f3 g3 rfl rfl
    have hP2 : BP K2 M2 := BP_f fK2 fM2 rfl rfl rfl rfl hP
    unfold rf_takeField
    rw [if_pos (show M2.1 10 ≤ 0 by omega), hX2.1]
    refine RR_ii (wm_256 hX2.2.1) (fun _ w1 => ?_) (fun _ _ => bad _ _ (thr_l (refuse_1 _)) (RP_bnd (bad_1 M2) (fun z hz => RP_some hz)))
    unfold kfl_fm_placeSlot_114
    have e20 : M2.1 20 = M.1 20 := fr1 fM2 20 rfl
    have e34 : M2.2 34 = M.2 34 := fr2 fM2 34 rfl
    have e29 : M2.2 29 = M.2 29 := fr2 fM2 29 rfl
    obtain ⟨n1, n2, n3⟩ := hP2.2.2.2.2.1 i i0 (by omega)
    rw [n1]
    have h19 := hP2.1.2.1.2
    refine RR_bnd (fieldW_s f1 hP2.2.2.1 hP2.2.2.2.1 w1 n2 n3 h19) (fun r e hre => ?_)
    have dd := hP2.2.2.1.1 (M2.2 34 i) n2 n3
    rcases hre with ⟨r0, r1, r2⟩ | ⟨r0, r1⟩
    · rw [if_neg (by omega)]
      unfold kfl_fm_placeSlot_166 rfl_takeField_88 rfl_takeField_102
      rw [if_pos (show (0 : Int) ≤ e by omega), if_pos (show M2.1 10 ≤ 0 by omega)]
      intro y z hy hz
      cases hk : kf_tx_advance K2 with
      | none => rw [hk] at hy; cases hy
      | some y1 =>
        cases hm : rf_next M2 with
        | none => rw [hm] at hz; cases hz
        | some z1 =>
          rw [hk, bnd_some] at hy
          rw [hm, bnd_some] at hz
          unfold rfl_takeField_115 at hz
          cases hz
          rcases adv_s f1 (by omega) y1 z1 hk hm with ⟨q1, q2, q3, q4, q5⟩ | ⟨q1, q2⟩
          · rw [if_pos q1, cut_i (z := i * 17) (by omega) (by omega), cut_i (z := i * 17 + 1) (by omega) (by omega), cut_i (z := i * 17 + 1 + r) (by omega) (by omega)] at hy
            cases hy
            rw [cut_i (z := 16 * i) (by omega) (by omega), cut_i (z := 16 * i + e) (by omega) (by omega), cut_i (z := 16 * M2.2 34 i) (by omega) (by omega), cut_i (by omega) (by omega)]
            refine Or.inl ⟨rfl, ⟨r, r0, ?_, by show i * 17 + 1 + r = _; omega, by show 16 * i + e - 16 * M2.2 34 i = _; omega⟩, q2, fr_s q3 fK2 rfl rfl, fr_s q4 fM2 rfl rfl, by show M.1 8 + 1 ≤ z1.2.1 8; omega⟩
            rw [← e29, ← e34]
            exact r1
          · rw [if_neg q1] at hy
            cases hy
            exact Or.inr ⟨q1, q2⟩
    · rw [if_pos r0]
      unfold rfl_takeField_88
      rw [if_neg (by omega)]
      exact bad _ _ (thr_l (fail_1 _ _ _)) (RP_bnd (wrong_1 (by decide)) (fun z hz => RP_w (u_rfl_takeField_102 i (M2.2 34 i) e z.2) (fun w hw => hw.2 hz)))
  · rw [if_neg (fun q => w46 ((wm_big hX.2.1 (by omega)).mp q))]
    refine bad _ _ (thr_l (refuse_1 _)) (RP_bnd ?_ sr2)
    unfold rf_need
    rw [if_pos (by omega), if_neg w46]
    exact RP_bnd (bad_1 M1) (fun z hz => RP_some hz)
/-- the width of a field's slot -/
theorem slotF_k (hP : BP K M) {i f : Int} (i0 : 0 ≤ i) (i1 : i < M.1 20) (f0 : 0 ≤ f) (f1 : f < M.2 29 (M.2 34 i)) : RP (kf_pr_slotWidth (17 * i + 1 + f) K) (fun w => w = M.2 33 (16 * M.2 34 i + f) ∧ 1 ≤ w ∧ w ≤ 64) := by
  have h20 := hP.1.2.2.1
  have h19 := hP.1.2.1
  obtain ⟨n1, n2, n3⟩ := hP.2.2.2.2.1 i i0 i1
  obtain ⟨d1, d2, d3, d4, d5⟩ := hP.2.2.1.1 (M.2 34 i) n2 n3
  obtain ⟨t1, t2, t3, -⟩ := d4 f f0 f1
  have e1 : (17 * i + 1 + f).tmod 17 = 1 + f := by
    rw [Int.tmod_eq_emod_of_nonneg (by omega)]
    omega
  have e2 : (17 * i + 1 + f).tdiv 17 = i := by
    rw [Int.tdiv_eq_ediv_of_nonneg (by omega)]
    omega
  unfold kf_pr_slotWidth kfl_pr_slotWidth_42 kf_pr_widthOfField kfl_pr_widthOfField_26
  rw [if_pos (by omega), e1, e2, cut_i (z := 1 + f - 1) (by omega) (by omega), show 1 + f - 1 = f by omega, if_pos f0, if_neg (by omega), bnd_some, n1, cut_i (z := M.2 34 i * 16) (by omega) (by omega), cut_i (by omega) (by omega), show M.2 34 i * 16 + f = 16 * M.2 34 i + f by omega]
  exact RP_some ⟨t1, by omega, by omega⟩
theorem slotM_k (hP : BP K M) {m : Int} (m0 : 0 ≤ m) (m1 : m < M.1 21) : RP (kf_pr_slotWidth (204 + m) K) (fun w => w = M.2 35 m ∧ 1 ≤ w ∧ w ≤ 64) := by
  have h21 := hP.1.2.2.2.1
  obtain ⟨n1, n2, n3⟩ := hP.2.2.2.2.2.1.1 m m0 m1
  unfold kf_pr_slotWidth
  rw [if_neg (by omega), cut_i (by omega) (by omega), show 204 + m - 204 = m by omega]
  exact RP_some ⟨n1, by omega, by omega⟩
theorem bitsF_r (hP : BP K M) {i f : Int} (i0 : 0 ≤ i) (i1 : i < M.1 20) (f0 : 0 ≤ f) (f1 : f < M.2 29 (M.2 34 i)) : rf_bitsOfField (16 * i + f) M = some (M.2 33 (16 * M.2 34 i + f)) := by
  have h20 := hP.1.2.2.1
  have h19 := hP.1.2.1
  obtain ⟨n1, n2, n3⟩ := hP.2.2.2.2.1 i i0 i1
  obtain ⟨d1, d2, d3, d4, d5⟩ := hP.2.2.1.1 (M.2 34 i) n2 n3
  have e1 : (16 * i + f).tmod 16 = f := by
    rw [Int.tmod_eq_emod_of_nonneg (by omega)]
    omega
  have e2 : (16 * i + f).tdiv 16 = i := by
    rw [Int.tdiv_eq_ediv_of_nonneg (by omega)]
    omega
  unfold rf_bitsOfField
  rw [e1, e2, cut_i (z := 16 * M.2 34 i) (by omega) (by omega), cut_i (by omega) (by omega)]
/-- what the word at hand is, of metas and instances -/
theorem idx3 (h : LR K M) (hP : BP K M) (h1 : M.1 7 = 1) {a t : Int} (ha : kf_tx_indexOf 302 K = some a) (ht : rf_sortHere M = some t) : (t = 3 ∧ 0 ≤ a ∧ a < M.1 21 ∧ ∀ v, rf_whichHere M = some v → v = a) ∨ (t ≠ 3 ∧ a = -1) := by
  have h21 := hP.1.2.2.2.1
  rcases rr_idx h h1 (s := 3) (by omega) a t ha ht with ⟨t1, t2, t3, t4⟩ | q
  · refine Or.inl ⟨t1, t2, ?_, fun v hv => ((t3 v hv).1 (by decide)).symm⟩
    rcases t4 with ⟨k, k0, k1, k2, k3⟩ | t4 | t4
    · have := (hP.2.1 k k0 k1).2.2.1 k2
      omega
    · omega
    · omega
  · exact Or.inr q
theorem idx2 (h : LR K M) (hP : BP K M) (h1 : M.1 7 = 1) {a t : Int} (ha : kf_tx_indexOf 301 K = some a) (ht : rf_sortHere M = some t) : (t = 2 ∧ 0 ≤ a ∧ a < M.1 20 ∧ ∀ v, rf_whichHere M = some v → v = a) ∨ (t ≠ 2 ∧ a = -1) := by
  rcases rr_idx h h1 (s := 2) (by omega) a t ha ht with ⟨t1, t2, t3, t4⟩ | q
  · refine Or.inl ⟨t1, t2, ?_, fun v hv => ((t3 v hv).1 (by decide)).symm⟩
    rcases t4 with ⟨k, k0, k1, k2, k3⟩ | t4 | t4
    · have := (hP.2.1 k k0 k1).2.1 k2
      omega
    · omega
    · omega
  · exact Or.inr q
theorem atp_s {x : Int} (hE : EB K M) (hW : EW K M) (h1 : M.1 7 = 1) (hx : x ≤ M.1 8) : RR (bnd (kf_ac_parameterOf (K.1 231) (K.1 209) (K.1 210) K) fun y7 => if y7 = (-1) then bnd (kf_fm_placeSlot K) fun y11 => if y11.1 = 0 then bnd (kf_pr_slotWidth y11.2.1 y11.2.2) fun y14 => bnd (kf_fm_add 400 y11.2.1 0 y14 (K.1 207) y11.2.2) fun y17 => kfl_fm_atom_220 y17.2 else some (y11.1, 0, y11.2.2) else bnd (kf_tx_advance K) fun y20 => if y20.1 = 0 then bnd (kf_fm_add 401 y7 0 ((K.2 40) (cut ((cut ((K.1 231) * 4)) + y7))) (K.1 207) y20.2.2) fun y23 => kfl_fm_atom_220 y23.2 else some (y20.1, 0, y20.2.2)) (rf_takeName (M.1 8) M) (PB (gAt (x + 1)) bAt) := by
  obtain ⟨hL, hN, hP, hd, hd2, ha, ha1, ha2⟩ := id hE
  have h25 : M.1 25 ≤ 16 := hP.1.2.2.2.2.2.2.2.1.2
  unfold rf_takeName
  refine RR_bnd (par_s hE h1) (fun r y hry => ?_)
  rcases hry with ⟨r1, r2⟩ | ⟨r0, r1, r2, r3⟩
  · rw [if_pos r1]
    intro a z haz hz
    cases hs : rf_sortHere M with
    | none => rw [hs] at hz; cases hz
    | some t =>
      rw [hs, bnd_some, if_pos r2] at hz
      unfold kf_fm_placeSlot at haz
      cases h3 : kf_tx_indexOf 302 K with
      | none => rw [h3] at haz; cases haz
      | some i3 =>
        rw [h3, bnd_some] at haz
        rcases idx3 hL hP h1 h3 hs with ⟨t1, t2, t3, t4⟩ | ⟨t1, t2⟩
        · rw [if_pos t1] at hz
          rw [if_neg (by omega), bnd_a] at haz
          cases hv : rf_whichHere M with
          | none => rw [hv] at hz; cases hz
          | some v =>
            rw [hv, bnd_some] at hz
            have ev := t4 v hv
            subst ev
            refine (?_ : RR (bnd (kf_tx_advance K) fun y36 => bnd (if y36.1 = 0 then some (0, cut (204 + v), y36.2.2) else some (y36.1, 0, y36.2.2)) fun y11 => if y11.1 = 0 then bnd (kf_pr_slotWidth y11.2.1 y11.2.2) fun y14 => bnd (kf_fm_add 400 y11.2.1 0 y14 (K.1 207) y11.2.2) fun y17 => kfl_fm_atom_220 y17.2 else some (y11.1, 0, y11.2.2)) (bnd (rf_next M) fun y33 => rfl_takeName_139 (M.1 8) (M.2 35 v) 402 v y33.2) (PB (gAt (x + 1)) bAt)) a z haz hz
            have e : (fun y36 : Int × Int × mR => bnd (if y36.1 = 0 then some (0, cut (204 + v), y36.2.2) else some (y36.1, 0, y36.2.2)) fun y11 : Int × Int × mR => if y11.1 = 0 then bnd (kf_pr_slotWidth y11.2.1 y11.2.2) fun y14 => bnd (kf_fm_add 400 y11.2.1 0 y14 (K.1 207) y11.2.2) fun y17 => kfl_fm_atom_220 y17.2 else some (y11.1, 0, y11.2.2)) = (fun y36 => if y36.1 = 0 then bnd (kf_pr_slotWidth (cut (204 + v)) y36.2.2) fun y14 => bnd (kf_fm_add 400 (cut (204 + v)) 0 y14 (K.1 207) y36.2.2) fun y17 => kfl_fm_atom_220 y17.2 else some (y36.1, 0, y36.2.2)) := by
              funext y36
              by_cases e : y36.1 = 0
              · rw [if_pos e, if_pos e, bnd_some]
                rfl
              · rw [if_neg e, if_neg e, bnd_some, if_neg e]
            rw [e]
            refine RR_pq (adv_s hL (by omega)) (fun z hz => RP_w (u_rfl_takeName_139 _ _ _ _ z.2) (fun w hw => hw.2 hz)) (fun y hy => Or.inl hy) (fun y z _ hG => ?_)
            obtain ⟨g1, g2, g3, g4⟩ := hG
            have hE1 : EB y.2.2 z.2 := EB_a hE g1 g2 g3 rfl rfl rfl rfl
            have hW1 : EW y.2.2 z.2 := EW_f hW g2 g3 rfl rfl rfl rfl
            have h21 := hP.1.2.2.2.1
            rw [cut_i (by omega) (by omega)]
            refine RR_l (slotM_k hE1.2.2.1 t2 (by rw [fr1 g3 21 rfl]; exact t3)) (fun w hw => ?_)
            obtain ⟨w1, w2, w3⟩ := hw
            rw [fr2 g3 35 rfl] at w1
            unfold rfl_takeName_139 rfl_takeName_150 kfl_fm_atom_220
            rw [← w1]
            exact atm_s hE1 hW1 (by decide) w2 w3 (Or.inr (Or.inr (Or.inl ⟨rfl, rfl, t2, by omega, rfl⟩))) (by omega)
        · rw [if_neg t1] at hz
          rw [if_pos t2] at haz
          cases h2 : kf_tx_indexOf 301 K with
          | none => rw [h2] at haz; cases haz
          | some i2 =>
            rw [h2, bnd_some] at haz
            rcases idx2 hL hP h1 h2 hs with ⟨u1, u2, u3, u4⟩ | ⟨u1, u2⟩
            · rw [if_pos u1] at hz
              rw [if_neg (by omega)] at haz
              cases hv : rf_whichHere M with
              | none => rw [hv] at hz; cases hz
              | some v =>
                rw [hv, bnd_some] at hz
                have ev := u4 v hv
                subst ev
                have e : (bnd (rf_next M) fun y28 => rfl_takeName_97 (M.1 8) 1 401 v y28.2) = bnd (bnd (rf_next M) fun y => bnd (rf_need 46 y.2) fun y2 => rf_takeField v y2.2) (fun y10 => rfl_takeName_109 (M.1 8) 1 401 y10.1 y10.2) := by
                  rw [bnd_a]
                  congr 1
                  funext y
                  rw [bnd_a]
                  rfl
                rw [e] at hz
                refine (?_ : RR (bnd (kfl_fm_placeSlot_61 v K) fun y11 => if y11.1 = 0 then bnd (kf_pr_slotWidth y11.2.1 y11.2.2) fun y14 => bnd (kf_fm_add 400 y11.2.1 0 y14 (K.1 207) y11.2.2) fun y17 => kfl_fm_atom_220 y17.2 else some (y11.1, 0, y11.2.2)) (bnd (bnd (rf_next M) fun y => bnd (rf_need 46 y.2) fun y2 => rf_takeField v y2.2) (fun y10 => rfl_takeName_109 (M.1 8) 1 401 y10.1 y10.2)) (PB (gAt (x + 1)) bAt)) a z haz hz
                refine RR_pq (plc_s hL hP u2 u3 (by omega)) (fun z hz => RP_w (u_rfl_takeName_109 _ _ _ _ z.2) (fun w hw => hw.2 hz)) (fun y hy => Or.inl hy) (fun y z _ hG => ?_)
                obtain ⟨⟨f, f0, f1, f2, f3⟩, g1, g2, g3, g4⟩ := hG
                have hE1 : EB y.2.2 z.2 := EB_a hE g1 g2 g3 rfl rfl rfl rfl
                have hW1 : EW y.2.2 z.2 := EW_f hW g2 g3 rfl rfl rfl rfl
                have e20 : z.2.1 20 = M.1 20 := fr1 g3 20 rfl
                have e29 : z.2.2 29 = M.2 29 := fr2 g3 29 rfl
                have e34 : z.2.2 34 = M.2 34 := fr2 g3 34 rfl
                have f1' : f < z.2.2 29 (z.2.2 34 v) := by rw [e29, e34]; exact f1
                have f16 : f < 16 := by
                  obtain ⟨n1, n2, n3⟩ := hP.2.2.2.2.1 v u2 u3
                  have := (hP.2.2.1.1 (M.2 34 v) n2 n3).2.1
                  omega
                have h20 := hP.1.2.2.1
                have zf := g1.2.2.2.2
                rw [f2, f3]
                unfold rfl_takeName_109
                rw [if_pos zf, bitsF_r hE1.2.2.1 u2 (by omega) f0 f1', bnd_some]
                refine RR_l (slotF_k hE1.2.2.1 u2 (by omega) f0 f1') (fun w hw => ?_)
                obtain ⟨w1, w2, w3⟩ := hw
                unfold rfl_takeName_139 rfl_takeName_150 kfl_fm_atom_220
                rw [← w1]
                have q1 : (16 * v + f) / 16 = v := by omega
                have q2 : (16 * v + f) % 16 = f := by omega
                refine atm_s hE1 hW1 (by decide) w2 w3 (Or.inl ⟨rfl, rfl, by omega, by omega, ?_, by omega⟩) (by omega)
                rw [q1, q2]
                exact f1'
            · rw [if_neg u1] at hz
              rw [if_pos u2] at haz
              refine (RR_xx (P := gAt (x + 1)) (B := bAt) (X := bnd (bnd (kf_tx_fail 6 (K.1 207) K) fun y33 => if y33.1 = 0 then kfl_fm_placeSlot_61 i2 y33.2.2 else some (y33.1, 0, y33.2.2)) fun y11 => if y11.1 = 0 then bnd (kf_pr_slotWidth y11.2.1 y11.2.2) fun y14 => bnd (kf_fm_add 400 y11.2.1 0 y14 (K.1 207) y11.2.2) fun y17 => kfl_fm_atom_220 y17.2 else some (y11.1, 0, y11.2.2)) ?_ ?_) a z haz hz
              · exact thr_x (thr_l (fail_1 _ _ _)) (fun y hy => Or.inl hy)
              · exact RP_bnd (wrong_1 (by decide)) (fun z hz => RP_w (u_rfl_takeName_139 _ _ _ _ z.2) (fun w hw => hw.2 hz))
  · rw [if_neg (by omega)]
    refine RR_r (RP_T _) (fun t _ => ?_)
    rw [if_neg (by omega)]
    refine RR_pq (adv_s hL (by omega)) (fun z hz => RP_w (u_rfl_takeName_139 _ _ _ _ z.2) (fun w hw => hw.2 hz)) (fun y hy => Or.inl hy) (fun y z _ hG => ?_)
    obtain ⟨g1, g2, g3, g4⟩ := hG
    have hE1 : EB y.2.2 z.2 := EB_a hE g1 g2 g3 rfl rfl rfl rfl
    have hW1 : EW y.2.2 z.2 := EW_f hW g2 g3 rfl rfl rfl rfl
    obtain ⟨p1, p2, p3, p4, p5⟩ := hP.2.2.2.2.2.2 (M.1 64) r0 ha2
    obtain ⟨t1, t2, t3, -⟩ := p4 r r1 r2
    rw [ha, cut_i (z := M.1 64 * 4) (by omega) (by omega), cut_i (by omega) (by omega), show M.1 64 * 4 + r = 4 * M.1 64 + r by omega, t1, r3]
    unfold rfl_takeName_139 rfl_takeName_150 kfl_fm_atom_220
    exact atm_s hE1 hW1 (by decide) t2 t3 (Or.inr (Or.inr (Or.inr ⟨by decide, by decide, by decide, by decide⟩))) (by omega)
/-- an operand -/
theorem atom_s (hE : EB K M) (hW : EW K M) (hn : NP M) : SM (kf_fm_atom K) M (gAt (M.1 8 + 1)) bAt := by
  have hX := hE.1.2.1
  have hf := hE.1.2.2.2.2
  have h75 : M.1 75 = 0 := by
    obtain ⟨t, n, p, B, _, _, _, _, _, hm⟩ := hW
    exact hm
  obtain ⟨n1, n2, n3, n4⟩ := hn
  refine SM_st (WX_0 hf h75) ?_
  unfold kf_fm_atom rf_wantUnit
  rw [hX.1, if_neg n2, if_neg n3, if_neg n4]
  refine RR_ii (wm_257 hX.2.1) (fun _ w2 => ?_) (fun _ w2 => ?_)
  · have e8 : K.1 208 = M.1 12 := hX.2.2.2.2.2.2.2.1 w2
    rw [e8]
    refine RR_pq (adv_s hE.1 (by omega)) (fun z hz => RP_w (u_rfl_wantUnit_102 _ _ z.2) (fun w hw => hw.2 hz)) (fun y hy => Or.inl hy) (fun y z _ hG => ?_)
    obtain ⟨g1, g2, g3, g4⟩ := hG
    exact atn_s (EB_a hE g1 g2 g3 rfl rfl rfl rfl) (EW_f hW g2 g3 rfl rfl rfl rfl) g4
  · by_cases w329 : M.1 7 = 329
    · rw [if_pos ((wm_big hX.2.1 (by omega)).mpr w329), if_neg (by omega), if_pos w329]
      exact atv_s hE hW w329 (Int.le_refl _)
    · rw [if_neg (fun q => w329 ((wm_big hX.2.1 (by omega)).mp q))]
      refine RR_ii (wm_256 hX.2.1) (fun _ w1 => RR_tl (atp_s hE hW w1 (Int.le_refl _))) (fun _ w1 => ?_)
      rw [if_neg w329, if_neg n1]
      exact RR_xx (thr_x (fun y hy => refuse_1 _ y hy) (fun y hy => Or.inl hy)) (RP_bnd (bad_1 M) (fun z hz => RP_some hz))
/-- what is no operand's beginning is none -/
theorem atom_d (h : D2 K) : RP (kf_fm_atom K) (fun y => y.1 ≠ 0) := by
  obtain ⟨h1, h2, h3, -⟩ := h
  unfold kf_fm_atom
  rw [if_neg h1, if_neg h3, if_neg h2]
  exact thr_l (A := fun y4 => some (0, 0, y4.2.2)) (refuse_1 _)
end PLC
