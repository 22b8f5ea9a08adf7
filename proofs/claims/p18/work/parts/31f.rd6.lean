/-! ===== EXPRs: operands ===== -/
section ATM
variable {K M : mR}
theorem bnd_a {α β γ : Type} {X : Option α} {f : α → Option β} {g : β → Option γ} : bnd (bnd X f) g = bnd X (fun x => bnd (f x) g) := by
  cases X with
  | none => rfl
  | some x => rfl
theorem EW_f {F A G C : List Nat} {K' M' : mR} (h : EW K M) (hK : fr F A K K') (hM : fr G C M M') (c1 : chk [228, 229] F = true) (c2 : chk [18, 22, 24, 68, 70] A = true) (c3 : chk [28, 73, 74, 75] G = true) (c4 : chk [76, 78, 79, 80, 81, 83, 84, 85, 87, 89, 90, 91, 92] C = true) : EW K' M' := by
  obtain ⟨t, n, p, B, h1, h2, h3, h4, h5, h6⟩ := h
  refine ⟨t, n, p, B, ?_, h2, ?_, ?_, ?_, ?_⟩
  · rw [fr1 hM 73 (chk_1 c3 (by decide)), fr1 hM 74 (chk_1 c3 (by decide))]
    exact STK_c h1 (q := 9 * M.1 73) (AG_f hK hM c2 c4) (Int.le_refl _)
  · rw [fr1 hK 228 (chk_1 c1 (by decide))]; exact h3
  · rw [fr1 hK 229 (chk_1 c1 (by decide))]; exact h4
  · rw [fr1 hM 28 (chk_1 c3 (by decide))]; exact h5
  · rw [fr1 hM 75 (chk_1 c3 (by decide))]; exact h6
theorem EU_f {F A G C : List Nat} {K' M' : mR} {md md' : Int} (h : EU K M md) (hK : fr F A K K') (hM : fr G C M M') (c1 : chk [228, 229] F = true) (c2 : chk [18, 22, 24, 68, 70] A = true) (c3 : chk [28, 69, 71, 72, 73, 74] G = true) (c4 : chk [76, 78, 79, 80, 81, 83, 84, 85, 87, 89, 90, 91, 92] C = true) (hm : M'.1 75 = md') : EU K' M' md' := by
  obtain ⟨t, n, p, B, h1, h2, h3, h4, h5, h6, h7, h8⟩ := h
  refine ⟨t, n, p, B, ?_, h2, ?_, ?_, ?_, ?_, ?_, hm⟩
  · rw [fr1 hM 73 (chk_1 c3 (by decide)), fr1 hM 74 (chk_1 c3 (by decide))]
    exact STK_c h1 (q := 9 * M.1 73) (AG_f hK hM c2 c4) (Int.le_refl _)
  · rw [fr1 hK 228 (chk_1 c1 (by decide))]; exact h3
  · rw [fr1 hK 229 (chk_1 c1 (by decide))]; exact h4
  · rw [fr2 hK 70 (chk_1 c2 (by decide))]; exact h5
  · rw [fr2 hK 70 (chk_1 c2 (by decide)), fr1 hM 28 (chk_1 c3 (by decide))]; exact h6
  · rw [fr2 hK 70 (chk_1 c2 (by decide)), fr1 hM 69 (chk_1 c3 (by decide)), fr1 hM 71 (chk_1 c3 (by decide)), fr1 hM 72 (chk_1 c3 (by decide))]
    exact OP_c h7 (by rw [fr2 hK 18 (chk_1 c2 (by decide))]) (by rw [fr2 hK 22 (chk_1 c2 (by decide))]) (by rw [fr2 hK 24 (chk_1 c2 (by decide))])
/-- both at the next word, ahead of an operand or behind one -/
theorem EB_a {F A : List Nat} {G C : List Nat} {K' M' : mR} (h : EB K M) (hL : LR K' M') (hK : fr F A K K') (hM : fr G C M M') (c1 : chk [214, 215, 216, 217, 219, 220, 221, 222, 223, 230, 231] F = true) (c2 : chk [10, 11, 12, 13, 14, 18, 19, 39, 40, 41, 42] A = true) (c3 : chk [6, 13, 19, 20, 21, 22, 23, 24, 25, 26, 28, 64, 74] G = true) (c4 : chk [4, 16, 17, 29, 30, 31, 32, 33, 34, 35, 46, 47, 48, 49, 65, 67] C = true) : EB K' M' := by
  refine EB_f h hL hK hM (chk_s c1 rfl) c2 (chk_s c3 rfl) c4 ?_ ?_
  · rw [fr1 hK 230 (chk_1 c1 (by decide)), fr1 hM 74 (chk_1 c3 (by decide))]
    exact h.2.2.2.1
  · rw [fr1 hM 74 (chk_1 c3 (by decide))]
    exact h.2.2.2.2.1
def bAt (y : Int × Int × mR) : Prop := y.1 ≠ 0 ∨ (y.1 = 0 ∧ DM y.2.2)
def gAt (x : Int) (y : Int × Int × mR) (M' : mR) : Prop := y.1 = 0 ∧ EB y.2.2 M' ∧ EU y.2.2 M' 1 ∧ x ≤ M'.1 8
theorem EW_rg (h : EW K M) (hd : M.1 74 ≤ 24) : -2 ≤ K.1 229 ∧ K.1 229 ≤ 10000 := by
  obtain ⟨t, n, p, B, h1, h2, h3, h4, h5, h6⟩ := h
  have sb := STK_b h1
  omega
theorem atm_s {kd lf w pl sg nb q x : Int} (hE : EB K M) (hW : EW K M) (hk : kd ≠ 257) (w0 : 1 ≤ w) (w1 : w ≤ 64) (hd : ND1 kd lf sg nb (M.1 20) (M.2 29) (M.2 34)) (hx : x ≤ M.1 8) : RR (bnd (kf_fm_add kd lf 0 w pl K) fun y => some ((0 : Int), (0 : Int), y.2)) (bnd (rf_node sg w nb 0 M) fun y4 => bnd (rf_atom w q y4.2) fun y1 => some ((0 : Int), y1.2)) (PB (gAt x) bAt) := by
  have hr := EW_rg hW hE.2.2.2.2.1
  obtain ⟨⟨n1, n2, n3⟩, -⟩ := hE.2.1
  have hf := hE.1.2.2.2.2
  refine RR_l (add_k (by omega) (by omega) hr.1 hr.2) (fun y hy => ?_)
  refine RR_r (node_r hf (by omega) (by omega)) (fun z hz => ?_)
  obtain ⟨-, hA⟩ := hy
  rcases hz with ⟨z1, hN⟩ | ⟨z1, z2⟩
  · have z10 : z.2.1 10 = 0 := (fr1 hN.1 10 rfl).trans hf
    unfold rf_atom rf_unit rfl_atom_14
    rw [if_pos (by omega), bnd_some, bnd_some]
    have fM : fr [69, 70, 71, 72, 75] [] z.2 (mO (mO z.2 [(69, w), (70, q), (71, 0), (72, 0)] []) [(75, 1)] []) := fr_m (fr_m fr_0 rfl rfl) rfl rfl
    refine RR_some (Or.inl ⟨rfl, EB_add hE hA hN hd z1 fr_0 fM rfl rfl rfl rfl (F := []) (A := []), ?_, ?_⟩)
    · obtain ⟨t, n, p, B, h1, h2, h3, h4, h5, h6⟩ := hW
      have hA' := hA
      obtain ⟨a1, a2, a3, a4, a5, a6, a7, a8⟩ := hA
      refine EU_add h1 h2 h3 h4 h5 n1 hA' hN fr_0 fM rfl rfl (fun o _ => by rw [fr2 a1 24 rfl]) rfl rfl (F := []) (A := []) (Or.inl ⟨rfl, ?_, ?_, w0, w1⟩) rfl
      · rw [a5, n1, upI_s]; exact hk
      · rw [a7, n1, upI_s]; rfl
    · show x ≤ z.2.1 8
      rw [fr1 hN.1 8 rfl]
      exact hx
  · intro a b ha hb
    cases ha
    refine Or.inr ⟨?_, Or.inr ⟨rfl, ?_, ?_⟩⟩
    · exact RP_e (P := fun w : Int × mR => 0 < w.2.1 10) hb (RP_bnd (u_rf_atom w q z.2) (fun v hv => RP_some (hv.2 z2)))
    · obtain ⟨a1, a2, -⟩ := hA
      rw [a2, if_neg (by omega)]
    · obtain ⟨a1, a2, a3, -⟩ := hA
      show 800 < y.2.1 220
      omega
/-- NUMBER -/
theorem atn_s {pl v q x : Int} (hE : EB K M) (hW : EW K M) (hx : x ≤ M.1 8) : RR (bnd (kf_fm_add 257 0 0 64 pl K) fun y => some ((0 : Int), (0 : Int), mO y.2 [] [(24, upI (y.2.2 24) y.1 v)])) (rfl_wantUnit_102 q v M) (PB (gAt x) bAt) := by
  have hr := EW_rg hW hE.2.2.2.2.1
  obtain ⟨⟨n1, n2, n3⟩, -⟩ := hE.2.1
  have hf := hE.1.2.2.2.2
  unfold rfl_wantUnit_102 rfl_wantUnit_113 rfl_wantUnit_120
  refine RR_l (add_k (by omega) (by omega) hr.1 hr.2) (fun y hy => ?_)
  refine RR_r (node_r hf (by omega) (by omega)) (fun z hz => ?_)
  obtain ⟨hy1, hA⟩ := hy
  have fK : fr [] [24] y.2 (mO y.2 [] [(24, upI (y.2.2 24) y.1 v)]) := fr_m fr_0 rfl rfl
  rcases hz with ⟨z1, hN⟩ | ⟨z1, z2⟩
  · have z10 : z.2.1 10 = 0 := (fr1 hN.1 10 rfl).trans hf
    unfold rf_atom rf_unit rfl_atom_14
    rw [if_pos (by omega), bnd_some, bnd_some]
    have fM : fr [69, 70, 71, 72, 75] [] z.2 (mO (mO (mO z.2 [(69, 64), (70, q), (71, 0), (72, 0)] []) [(75, 1)] []) [(71, 1), (72, v)] []) := fr_m (fr_m (fr_m fr_0 rfl rfl) rfl rfl) rfl rfl
    refine RR_some (Or.inl ⟨rfl, EB_add hE hA hN (Or.inr (Or.inr (Or.inr ⟨by decide, by decide, by decide, by decide⟩))) z1 fK fM rfl rfl rfl rfl, ?_, ?_⟩)
    · obtain ⟨t, n, p, B, h1, h2, h3, h4, h5, h6⟩ := hW
      have hA' := hA
      obtain ⟨a1, a2, a3, a4, a5, a6, a7, a8⟩ := hA
      refine EU_add h1 h2 h3 h4 h5 n1 hA' hN fK fM rfl rfl (fun o ho => ?_) rfl rfl (Or.inr ⟨rfl, ?_, ?_, rfl, ?_⟩) rfl
      · show upI (y.2.2 24) y.1 v o = _
        rw [upI_n (by omega), fr2 a1 24 rfl]
      · show y.2.2 18 (M.1 28) = 257
        rw [a5, n1, upI_s]
      · show y.2.2 22 (M.1 28) = 64
        rw [a7, n1, upI_s]
      · show upI (y.2.2 24) y.1 v (M.1 28) = v
        rw [hy1, n1, upI_s]
    · show x ≤ z.2.1 8
      rw [fr1 hN.1 8 rfl]
      exact hx
  · intro a b ha hb
    cases ha
    refine Or.inr ⟨?_, Or.inr ⟨rfl, ?_, ?_⟩⟩
    · exact RP_e (P := fun w : Int × mR => 0 < w.2.1 10) hb (RP_bnd (u_rf_atom 64 q z.2) (fun v hv => RP_some (hv.2 z2)))
    · obtain ⟨a1, a2, -⟩ := hA
      show y.2.1 213 = 1
      rw [a2, if_neg (by omega)]
    · obtain ⟨a1, a2, a3, -⟩ := hA
      show 800 < y.2.1 220
      omega
theorem known_s (h : LR K M) {s : Int} (hs : 1 ≤ s ∧ s ≤ 7) (h3 : s ≠ 3) (h5 : s ≠ 5) : RR (kf_tx_known (smp s) K) (rf_oldName s M) (fun y z => (y.1 = 0 ∧ ((y.2.1 = z.1 ∧ ∃ k, 0 ≤ k ∧ k < M.1 13 ∧ M.2 16 k = s ∧ z.1 = M.2 17 k) ∧ LR y.2.2 z.2 ∧ fr kF_tx_known kA_tx_known K y.2.2 ∧ fr rF_oldName rA_oldName M z.2 ∧ M.1 8 + 1 ≤ z.2.1 8)) ∨ (y.1 ≠ 0 ∧ 0 < z.2.1 10)) := by
  intro y z hy hz
  rcases rr_known h hs h3 h5 y z hy hz with ⟨a, b, c⟩ | a
  · refine Or.inl ⟨a, b, c, u_kf_tx_known _ K y hy, (u_rf_oldName _ M z hz).1, ?_⟩
    have hf := h.2.2.2.2
    have bd : ∀ (X : Option (Int × mR)), RP X (fun z => 0 < z.2.1 10) → ∀ w, bnd X (fun q => rfl_oldName_42 q.2) = some w → 0 < w.2.1 10 := by
      intro X hX w hw
      exact RP_e (P := fun w : Int × mR => 0 < w.2.1 10) hw (RP_bnd hX (fun q hq => RP_w (u_rfl_oldName_42 q.2) (fun w hw => hw.2 hq)))
    have hg := c.2.2.2.2
    unfold rf_oldName at hz
    rw [if_pos (show M.1 10 ≤ 0 by omega)] at hz
    by_cases e : M.1 7 = 1
    · rw [if_pos e] at hz
      cases hs1 : rf_sortHere M with
      | none => rw [hs1] at hz; cases hz
      | some v =>
        rw [hs1, bnd_some] at hz
        by_cases ev : v = s
        · rw [if_pos ev] at hz
          unfold rfl_oldName_42 at hz
          rw [if_pos (show M.1 10 ≤ 0 by omega)] at hz
          exact RP_e (P := fun z : Int × mR => M.1 8 + 1 ≤ z.2.1 8) hz (RP_bndT (fun v => RP_bnd (next_8 h (by omega)) (fun q hq => RP_some hq)))
        · rw [if_neg ev] at hz
          have := bd _ (wrong_1 (by decide)) z hz
          omega
    · rw [if_neg e] at hz
      have := bd _ (bad_1 M) z hz
      omega
  · exact Or.inr a
/-- valid and an instance -/
theorem atv_s {pl x : Int} (hE : EB K M) (hW : EW K M) (hw : M.1 7 = 329) (hx : x ≤ M.1 8) : RR (bnd (kf_tx_advance K) fun y26 => if y26.1 = 0 then bnd (kf_tx_known 301 y26.2.2) fun y29 => if y29.1 = 0 then bnd (kf_fm_add 400 (cut (y29.2.1 * 17)) 0 1 pl y29.2.2) fun y32 => some ((0 : Int), (0 : Int), y32.2) else some (y29.1, 0, y29.2.2) else some (y26.1, 0, y26.2.2)) (bnd (rf_next M) fun y46 => rfl_wantUnit_163 (M.1 8) y46.2) (PB (gAt (x + 1)) bAt) := by
  refine RR_pq (adv_s hE.1 (by omega)) (fun z hz => RP_w (u_rfl_wantUnit_163 (M.1 8) z.2) (fun w hw => hw.2 hz)) (fun y hy => Or.inl hy) (fun y z h1 hG => ?_)
  obtain ⟨g1, g2, g3, g4⟩ := hG
  have hE1 : EB y.2.2 z.2 := EB_a hE g1 g2 g3 rfl rfl rfl rfl
  have hW1 : EW y.2.2 z.2 := EW_f hW g2 g3 rfl rfl rfl rfl
  unfold rfl_wantUnit_163
  rw [show (301 : Int) = smp 2 from rfl]
  refine RR_pq (known_s g1 (s := 2) (by omega) (by omega) (by omega)) (fun w hw => RP_w (u_rfl_wantUnit_168 (M.1 8) w.1 w.2) (fun v hv => hv.2 hw)) (fun y hy => Or.inl hy) (fun y2 z2 h2 hG => ?_)
  obtain ⟨⟨k1, k, k2, k3, k4, k5⟩, f1, f2, f3, f4⟩ := hG
  have hE2 : EB y2.2.2 z2.2 := EB_a hE1 f1 f2 f3 rfl rfl rfl rfl
  have hW2 : EW y2.2.2 z2.2 := EW_f hW1 f2 f3 rfl rfl rfl rfl
  have r20 : z2.2.1 20 = z.2.1 20 := fr1 f3 20 rfl
  have hb : 0 ≤ z2.1 ∧ z2.1 < z.2.1 20 ∧ z.2.1 20 ≤ 12 := by
    have c := hE1.2.2.1.2.1 k k2 k3
    have d := (hE1.1.2.2.1.2.2.1 k k2 k3).2.2.2.2.2.2
    have e := hE1.2.2.1.1.2.2.1
    have := c.2.1 k4
    omega
  unfold rfl_wantUnit_168 rfl_wantUnit_179
  rw [k1, cut_i (by omega) (by omega)]
  exact atm_s hE2 hW2 (by decide) (by decide) (by decide) (Or.inr (Or.inl ⟨rfl, rfl, hb.1, by omega, by omega⟩)) (by omega)
end ATM
