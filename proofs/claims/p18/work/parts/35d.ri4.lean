/-! ===== the control: a block's end, a step, all of it ===== -/
section CT4
variable {K M K' M' : mR} {n kd : Int} {F A G C : List Nat}
theorem CB_f (h : CB K M) (hL : LR K' M') (hK : fr F A K K') (hM : fr G C M M') (h8 : M.1 8 ≤ M'.1 8) (c1 : chk [214, 215, 216, 217, 219, 220, 221, 222, 223, 224, 225, 227] F = true) (c2 : chk [10, 11, 12, 13, 14, 15, 16, 18, 19, 39, 40, 41, 42, 45, 46, 47, 48, 49, 50, 51, 52, 53, 54, 55, 56, 57, 58, 66, 67] A = true) (c3 : chk [6, 13, 19, 20, 21, 22, 23, 24, 25, 26, 27, 28, 64, 99, 119] G = true) (c4 : chk [4, 16, 17, 29, 30, 31, 32, 33, 34, 35, 36, 46, 47, 48, 49, 59, 60, 61, 62, 63, 65, 67, 93, 101, 102, 103, 104, 105, 106, 107, 108, 117, 118, 120, 121, 122] C = true) : CB K' M' := by
  obtain ⟨h1, ⟨h2, h3, h4, h5⟩, h6, h7⟩ := h
  have e27 := fr1 hM 27 (chk_1 c3 (by decide))
  refine ⟨CX0_f h1 hL hK hM h8 (chk_s c1 rfl) (chk_s c2 rfl) (chk_s c3 rfl) (chk_s c4 rfl), ⟨?_, ?_, ?_, ?_⟩, ?_, ?_⟩
  · rw [fr1 hK 225 (chk_1 c1 (by decide)), e27]; exact h2
  · rw [e27]; exact h3
  · rw [e27]; exact h4
  · rw [e27]; exact CSn_f h5 hK hM (chk_s c2 rfl) (chk_s c3 rfl) (chk_s c4 rfl) (by rw [fr1 hM 99 (chk_1 c3 (by decide))]; omega)
  · rw [e27]; exact CBd_f h6 hK hM (chk_s c1 rfl) (chk_s c2 rfl) (chk_s c3 rfl) (chk_s c4 rfl)
  · rw [e27]; exact CAn_f h7 hM (chk_s c3 rfl) (chk_s c4 rfl)
/-- the same but for the blocks -/
theorem CB_b (h : CB K M) (hL : LR K' M') (hK : fr F A K K') (hM : fr G C M M') (h8 : M.1 8 ≤ M'.1 8) (hb : CBd (M.1 27) K' M') (c1 : chk [214, 215, 216, 217, 219, 220, 221, 222, 223, 224, 225] F = true) (c2 : chk [10, 11, 12, 13, 14, 15, 16, 18, 19, 39, 40, 41, 42, 45, 46, 47, 48, 49, 50, 51, 52, 53, 54, 55, 56, 57, 58] A = true) (c3 : chk [6, 13, 19, 20, 21, 22, 23, 24, 25, 26, 27, 28, 64, 99] G = true) (c4 : chk [4, 16, 17, 29, 30, 31, 32, 33, 34, 35, 36, 46, 47, 48, 49, 59, 60, 61, 62, 63, 65, 67, 93, 101, 102, 103, 104, 105, 106, 107, 108, 120, 121, 122] C = true) : CB K' M' := by
  obtain ⟨h1, ⟨h2, h3, h4, h5⟩, h6, h7⟩ := h
  have e27 := fr1 hM 27 (chk_1 c3 (by decide))
  refine ⟨CX0_f h1 hL hK hM h8 (chk_s c1 rfl) (chk_s c2 rfl) (chk_s c3 rfl) (chk_s c4 rfl), ⟨?_, ?_, ?_, ?_⟩, ?_, ?_⟩
  · rw [fr1 hK 225 (chk_1 c1 (by decide)), e27]; exact h2
  · rw [e27]; exact h3
  · rw [e27]; exact h4
  · rw [e27]; exact CSn_f h5 hK hM (chk_s c2 rfl) (chk_s c3 rfl) (chk_s c4 rfl) (by rw [fr1 hM 99 (chk_1 c3 (by decide))]; omega)
  · rw [e27]; exact hb
  · rw [e27]; exact CAn_f h7 hM (chk_s c3 rfl) (chk_s c4 rfl)
theorem pop_s (h : CB K M) (hd : 1 ≤ M.1 119) : CB (mO K [(227, M.1 119 - 1)] []) (mO M [(119, M.1 119 - 1)] []) := by
  have fK : fr [227] [] K (mO K [(227, M.1 119 - 1)] []) := fr_m fr_0 rfl rfl
  have fM : fr [119] [] M (mO M [(119, M.1 119 - 1)] []) := fr_m fr_0 rfl rfl
  refine CB_b h h.1.1.1 fK fM (Int.le_refl _) ?_ rfl rfl rfl rfl
  obtain ⟨-, -, ⟨⟨d1, d2, d3⟩, d4⟩, -⟩ := h
  refine ⟨⟨rfl, by show 0 ≤ M.1 119 - 1; omega, by show M.1 119 - 1 ≤ 8; omega⟩, fun j j0 j1 => ?_⟩
  have j1 : j < M.1 119 - 1 := j1
  exact d4 j j0 (by omega)
theorem closeBlock_s (h : CB K M) (hd : 1 ≤ M.1 119) (hw : M.1 7 = 125) : RR (kf_rd_closeBlock K) (rf_closeBlock M) (GV (fun _ K2 _ M2 => CB K2 M2 ∧ M.1 8 + 1 ≤ M2.1 8)) := by
  have hL := h.1.1.1
  have hf := hL.2.2.2.2
  unfold kf_rd_closeBlock rf_closeBlock
  rw [need_is (by omega) hw, bnd_a]
  refine RR_sq (G := fun _ K1 _ M1 => LR K1 M1 ∧ fr kF_tx_advance kA_tx_advance K K1 ∧ fr rF_next rA_next M M1 ∧ M.1 8 + 1 ≤ M1.1 8) (A := fun _ => True) (B := fun _ => True) (adv_s hL (by omega)) (RP_T _) (RP_T _) (fun z hz => RP_w (u_rfl_closeBlock_6 z.2) (fun w hw => hw.2 hz)) (fun _ K1 _ M1 hG _ _ => ?_)
  obtain ⟨g1, g2, g3, g4⟩ := hG
  have h1 : CB K1 M1 := CB_f h g1 g2 g3 (by omega) rfl rfl rfl rfl
  have m119 : M1.1 119 = M.1 119 := fr1 g3 119 rfl
  show RR _ (rfl_closeBlock_6 M1) _
  obtain ⟨⟨d1, d2, d3⟩, d4⟩ := h1.2.2.1
  obtain ⟨e1, e2, e3⟩ := d4 (M1.1 119 - 1) (by omega) (by omega)
  rw [show M1.1 119 - 1 + 1 = M1.1 119 by omega] at e1 e2
  have hX1 := g1.2.1
  unfold rfl_closeBlock_6 kfl_rd_closeBlock_33
  dsimp only
  rw [if_pos (show M1.1 10 ≤ 0 by have := g1.2.2.2.2; omega), cut_i (z := M1.1 119 - 1) (by omega) (by omega), d1, cut_i (z := M1.1 119 - 1) (by omega) (by omega), e2, hX1.1]
  have pop := pop_s h1 (by omega)
  by_cases z0 : M1.1 119 - 1 = 0
  · rw [if_pos z0]
    have q : M1.2 118 (M1.1 119 - 1) = -1 := by
      rcases e3 with e3 | e3
      · exact e3.2.2
      · omega
    rw [if_neg (by omega)]
    exact RR_some (Or.inl ⟨rfl, pop, by show M.1 8 + 1 ≤ M1.1 8; omega⟩)
  · rw [if_neg z0]
    refine RR_ii Iff.rfl (fun q1 _ => ?_) (fun _ _ => RR_some (Or.inl ⟨rfl, pop, by show M.1 8 + 1 ≤ M1.1 8; omega⟩))
    refine RR_ii (wm_big hX1.2.1 (by omega)) (fun _ w2 => ?_) (fun _ _ => RR_some (Or.inl ⟨rfl, pop, by show M.1 8 + 1 ≤ M1.1 8; omega⟩))
    have en : ∃ d, d = M1.1 119 - 1 := ⟨_, rfl⟩
    obtain ⟨d, en⟩ := en
    rw [← en]
    rw [← en] at e1 e2 e3 q1 z0
    have fN : fr [119] [] M1 (mO M1 [(119, d)] []) := fr_m fr_0 rfl rfl
    have hLN : LR K1 (mO M1 [(119, d)] []) := g1
    refine RR_sq (G := fun _ K2 _ M2 => LR K2 M2 ∧ fr kF_tx_advance kA_tx_advance K1 K2 ∧ fr rF_next rA_next (mO M1 [(119, d)] []) M2 ∧ M1.1 8 + 1 ≤ M2.1 8) (A := fun _ => True) (B := fun _ => True) (adv_s hLN (by show M1.1 7 ≠ 0; omega)) (RP_T _) (RP_T _) (fun z hz => RP_w (u_rfl_closeBlock_69 _ z.2) (fun w hw => hw.2 hz)) (fun _ K2 _ M2 hG _ _ => ?_)
    obtain ⟨f1, f2, f3, f4⟩ := hG
    have fM2 : fr [7, 8, 9, 10, 11, 12, 119] [] M1 M2 := fr_s f3 (fr_s fN fr_0 rfl rfl) rfl rfl
    have n119 : M2.1 119 = d := fr1 f3 119 rfl
    have n117 : M2.2 117 = M1.2 117 := fr2 fM2 117 rfl
    have n118 : M2.2 118 = M1.2 118 := fr2 fM2 118 rfl
    unfold rfl_closeBlock_69 rf_openBlock
    dsimp only
    rw [if_pos f1.2.2.2.2, if_neg (show ¬ M2.1 119 = 8 by omega)]
    have go : RR (bnd (kf_tx_expect 123 K2) fun y9 => if y9.1 = 0 then some ((0 : Int), (0 : Int), (mO y9.2.2 [] [(67, upI (y9.2.2.2 67) (y9.2.2.1 227) 0)])) else some (y9.1, 0, y9.2.2)) (bnd (rfl_openBlock_34 (M1.2 117 d) 0 M2) fun y1 => some ((0 : Int), y1.2)) (GV (fun _ K2 _ M2 => CB K2 M2 ∧ M.1 8 + 1 ≤ M2.1 8)) := by
      unfold rfl_openBlock_34
      rw [bnd_a]
      refine RR_sq (G := fun _ K3 _ M3 => LR K3 M3 ∧ fr kF_tx_expect kA_tx_expect K2 K3 ∧ fr rF_need rA_need M2 M3 ∧ M2.1 8 + 1 ≤ M3.1 8) (A := fun _ => True) (B := fun _ => True) (exp_s f1 (c := 123) (by omega)) (RP_T _) (RP_T _) (fun z hz => RP_bnd (u_rfl_openBlock_40 (M1.2 117 d) 0 z.2) (fun w hw => RP_some (P := fun w : Int × mR => 0 < w.2.1 10) (hw.2 hz))) (fun _ K3 _ M3 hG _ _ => ?_)
      obtain ⟨c1, c2, c3, c4⟩ := hG
      unfold rfl_openBlock_40
      dsimp only
      have p119 : M3.1 119 = d := (fr1 c3 119 rfl).trans n119
      have k227 : K3.1 227 = d + 1 := by
        rw [fr1 c2 227 rfl, fr1 f2 227 rfl, d1]; omega
      rw [if_pos (show M3.1 10 ≤ 0 by have := c1.2.2.2.2; omega), bnd_some, p119, cut_i (z := d + 1) (by omega) (by omega), k227]
      have fL : fr [] [67] K3 (mO K3 [] [(67, upI (K3.2 67) (d + 1) 0)]) := fr_m fr_0 rfl rfl
      have fQ : fr [119] [117, 118] M3 (mO M3 [(119, d + 1)] [(117, upI (M3.2 117) d (M1.2 117 d)), (118, upI (M3.2 118) d 0)]) := fr_m fr_0 rfl rfl
      have hLQ : LR (mO K3 [] [(67, upI (K3.2 67) (d + 1) 0)]) (mO M3 [(119, d + 1)] [(117, upI (M3.2 117) d (M1.2 117 d)), (118, upI (M3.2 118) d 0)]) := LR_g c1 fL fQ rfl rfl rfl rfl ((fr1 fL 213 rfl).trans c1.2.2.2.1) ((fr1 fQ 10 rfl).trans c1.2.2.2.2)
      have gK : fr [205, 206, 207, 208, 209, 210, 211, 212] [67] K1 (mO K3 [] [(67, upI (K3.2 67) (d + 1) 0)]) := fr_s fL (fr_s c2 (fr_s f2 fr_0 rfl rfl) rfl rfl) rfl rfl
      have gM : fr [7, 8, 9, 10, 11, 12, 119] [117, 118] M1 (mO M3 [(119, d + 1)] [(117, upI (M3.2 117) d (M1.2 117 d)), (118, upI (M3.2 118) d 0)]) := fr_s fQ (fr_s c3 (fr_s fM2 fr_0 rfl rfl) rfl rfl) rfl rfl
      have k66 : K3.2 66 = K1.2 66 := (fr2 c2 66 rfl).trans (fr2 f2 66 rfl)
      have k67 : K3.2 67 = K1.2 67 := (fr2 c2 67 rfl).trans (fr2 f2 67 rfl)
      have m117 : M3.2 117 = M1.2 117 := (fr2 c3 117 rfl).trans n117
      have m118 : M3.2 118 = M1.2 118 := (fr2 c3 118 rfl).trans n118
      refine RR_some (Or.inl ⟨rfl, CB_b h1 hLQ gK gM (by show M1.1 8 ≤ M3.1 8; omega) ?_ rfl rfl rfl rfl, by show M.1 8 + 1 ≤ M3.1 8; omega⟩)
      refine ⟨⟨?_, by show 0 ≤ d + 1; omega, by show d + 1 ≤ 8; omega⟩, fun j j0 j1 => ?_⟩
      · show K3.1 227 = d + 1
        exact k227
      · have j1 : j < d + 1 := j1
        show K3.2 66 (j + 1) = upI (M3.2 117) d (M1.2 117 d) j ∧ upI (K3.2 67) (d + 1) 0 (j + 1) = upI (M3.2 118) d 0 j ∧ ((j = 0 ∧ upI (M3.2 117) d (M1.2 117 d) j = -1 ∧ upI (M3.2 118) d 0 j = -1) ∨ (1 ≤ j ∧ 0 ≤ upI (M3.2 117) d (M1.2 117 d) j ∧ upI (M3.2 117) d (M1.2 117 d) j < M1.1 27 ∧ (upI (M3.2 118) d 0 j = 0 ∨ upI (M3.2 118) d 0 j = 1)))
        by_cases e : j = d
        · subst e
          rw [upI_s, upI_s, upI_s, k66, show j + 1 = M1.1 119 by omega, e1]
          refine ⟨rfl, rfl, Or.inr ?_⟩
          rcases e3 with e3 | e3
          · omega
          · exact ⟨e3.1, e3.2.1, e3.2.2.1, Or.inl rfl⟩
        · rw [upI_n (show j + 1 ≠ d + 1 by omega), upI_n e, upI_n e, k66, k67, m117, m118]
          exact d4 j j0 (by omega)
    by_cases w9 : M2.1 7 = 123
    · rw [if_pos w9]; exact go
    · rw [if_neg w9]; exact go
theorem IG_w {x : Int} {X : Option (Int × Int × mR)} {Y : Option (Sum mR (Sum mR mR))} (h : RR X Y (IG x)) : RR (bnd X fun y => if y.1 = 0 then some ((0 : Int), (0 : Int), y.2.2) else some (y.1, 0, y.2.2)) Y (IG x) := by
  intro u v hu hv
  cases hX : X with
  | none => rw [hX] at hu; cases hu
  | some y =>
    rw [hX, bnd_some] at hu
    rcases h y v hX hv with ⟨q1, q2⟩ | ⟨q1, q2⟩
    · rw [if_pos q1] at hu
      cases hu
      exact Or.inl ⟨rfl, q2⟩
    · rw [if_neg q1] at hu
      cases hu
      exact Or.inr ⟨q1, q2⟩
theorem isSt_r : RP (rf_isStatement M) (fun b => (b = 1 ∧ isSt (M.1 7)) ∨ (b = 0 ∧ ¬ isSt (M.1 7))) := by
  unfold rf_isStatement rfl_isStatement_58 rfl_isStatement_63 isSt
  refine RP_ite (fun g => RP_some (Or.inl ⟨rfl, by omega⟩)) (fun g1 => RP_ite (fun g => RP_some (Or.inl ⟨rfl, by omega⟩)) (fun g2 => RP_ite (fun g => RP_some (Or.inl ⟨rfl, by omega⟩)) (fun g3 => RP_ite (fun g => RP_some (Or.inl ⟨rfl, by omega⟩)) (fun g4 => RP_ite (fun g => RP_some (Or.inl ⟨rfl, by omega⟩)) (fun g5 => RP_ite (fun g => RP_some (Or.inl ⟨rfl, by omega⟩)) (fun g6 => RP_some (Or.inr ⟨rfl, by omega⟩)))))))
theorem isSt_k (h : LR K M) : RP (kf_rd_isStatement K) (fun b => (b = 1 ∧ isSt (M.1 7)) ∨ (b = 0 ∧ ¬ isSt (M.1 7))) := by
  intro a ha
  cases hb : rf_isStatement M with
  | none =>
    exfalso
    unfold rf_isStatement rfl_isStatement_58 rfl_isStatement_63 at hb
    revert hb
    repeat' split
    all_goals (intro hb; cases hb)
  | some b =>
    rcases isSt_s h a b ha hb with ⟨q1, q2, q3⟩ | ⟨q1, q2, q3⟩
    · exact Or.inl ⟨q1, q3⟩
    · exact Or.inr ⟨q1, q3⟩
end CT4
