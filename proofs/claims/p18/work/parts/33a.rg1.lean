/-! ===== statements ===== -/
def PLS (n20 n21 : Int) (F I : Int → Int) (a b : Int) : Prop := (2 ≤ b ∧ b < n21 ∧ b < 16 ∧ a = 204 + b) ∨ (16 ≤ b ∧ (b - 16) / 16 < n20 ∧ (b - 16) % 16 < F (I ((b - 16) / 16)) ∧ a = 17 * ((b - 16) / 16) + 1 + (b - 16) % 16)
def EXR (a r f t : Int) : Prop := a = f ∧ 0 ≤ r ∧ r + 1 = t
def DE1 (n20 n21 n22 : Int) (F I : Int → Int) (k45 k46 k47 k48 k49 k50 k51 t101 t102 t103 t104 t105 t106 t107 t108 : Int) : Prop := (t101 = 1 ∧ k45 = 61 ∧ PLS n20 n21 F I k46 t102 ∧ k47 = -1 ∧ k49 = -1 ∧ EXR k50 k51 t107 t108) ∨ (t101 = 327 ∧ k45 = 327 ∧ PLS n20 n21 F I k46 t102 ∧ (k47 = t103 ∧ 0 ≤ t103 ∧ t103 < n22) ∧ EXR k48 k49 t105 t106 ∧ k51 = -1) ∨ (t101 = 328 ∧ k45 = 328 ∧ k46 = -1 ∧ (k47 = t103 ∧ 0 ≤ t103 ∧ t103 < n22) ∧ EXR k48 k49 t105 t106 ∧ EXR k50 k51 t107 t108) ∨ ((t101 = 324 ∨ t101 = 325) ∧ k45 = t101 ∧ (0 ≤ t104 ∧ t104 < n20 ∧ k46 = 17 * t104) ∧ k47 = -1 ∧ k49 = -1 ∧ k51 = -1) ∨ (t101 = 326 ∧ k45 = 326 ∧ k46 = 220 ∧ k47 = -1 ∧ k49 = -1 ∧ k51 = -1)
def DEx (k224 : Int) (K45 : Int → Int) (K46 : Int → Int) (K47 : Int → Int) (K48 : Int → Int) (K49 : Int → Int) (K50 : Int → Int) (K51 : Int → Int) (m20 : Int) (m21 : Int) (m22 : Int) (m99 : Int) (M29 : Int → Int) (M34 : Int → Int) (M101 : Int → Int) (M102 : Int → Int) (M103 : Int → Int) (M104 : Int → Int) (M105 : Int → Int) (M106 : Int → Int) (M107 : Int → Int) (M108 : Int → Int) : Prop := (k224 = m99 ∧ 0 ≤ m99) ∧ ∀ k, 0 ≤ k → k < m99 → DE1 m20 m21 m22 M29 M34 (K45 k) (K46 k) (K47 k) (K48 k) (K49 k) (K50 k) (K51 k) (M101 k) (M102 k) (M103 k) (M104 k) (M105 k) (M106 k) (M107 k) (M108 k)
def DE (K M : mR) : Prop := DEx (K.1 224) (K.2 45) (K.2 46) (K.2 47) (K.2 48) (K.2 49) (K.2 50) (K.2 51) (M.1 20) (M.1 21) (M.1 22) (M.1 99) (M.2 29) (M.2 34) (M.2 101) (M.2 102) (M.2 103) (M.2 104) (M.2 105) (M.2 106) (M.2 107) (M.2 108)
theorem DE_f {F A G B : List Nat} {K M K' M' : mR} (hK : fr F A K K') (hM : fr G B M M') (c1 : chk [224] F = true) (c2 : chk [45, 46, 47, 48, 49, 50, 51] A = true) (c3 : chk [20, 21, 22, 99] G = true) (c4 : chk [29, 34, 101, 102, 103, 104, 105, 106, 107, 108] B = true) (h : DE K M) : DE K' M' := by
  unfold DE
  rw [fr1 hK 224 (chk_1 c1 (by decide)), fr2 hK 45 (chk_1 c2 (by decide)), fr2 hK 46 (chk_1 c2 (by decide)), fr2 hK 47 (chk_1 c2 (by decide)), fr2 hK 48 (chk_1 c2 (by decide)), fr2 hK 49 (chk_1 c2 (by decide)), fr2 hK 50 (chk_1 c2 (by decide)), fr2 hK 51 (chk_1 c2 (by decide)), fr1 hM 20 (chk_1 c3 (by decide)), fr1 hM 21 (chk_1 c3 (by decide)), fr1 hM 22 (chk_1 c3 (by decide)), fr1 hM 99 (chk_1 c3 (by decide)), fr2 hM 29 (chk_1 c4 (by decide)), fr2 hM 34 (chk_1 c4 (by decide)), fr2 hM 101 (chk_1 c4 (by decide)), fr2 hM 102 (chk_1 c4 (by decide)), fr2 hM 103 (chk_1 c4 (by decide)), fr2 hM 104 (chk_1 c4 (by decide)), fr2 hM 105 (chk_1 c4 (by decide)), fr2 hM 106 (chk_1 c4 (by decide)), fr2 hM 107 (chk_1 c4 (by decide)), fr2 hM 108 (chk_1 c4 (by decide))]
  exact h
def XP (K M : mR) : Prop := LR K M ∧ BP K M ∧ AR K M ∧ NDR K M ∧ -1 ≤ M.1 64 ∧ M.1 64 < M.1 25
theorem XP_f {F A G C : List Nat} {K M K' M' : mR} (h : XP K M) (hL : LR K' M') (hK : fr F A K K') (hM : fr G C M M') (c1 : chk [214, 215, 216, 217, 219, 220, 221, 222, 223] F = true) (c2 : chk [10, 11, 12, 13, 14, 15, 16, 18, 19, 39, 40, 41, 42] A = true) (c3 : chk [6, 13, 19, 20, 21, 22, 23, 24, 25, 26, 28, 64] G = true) (c4 : chk [4, 16, 17, 29, 30, 31, 32, 33, 34, 35, 36, 46, 47, 48, 49, 65, 67, 93] C = true) : XP K' M' := by
  obtain ⟨h1, h2, h3, h4, h5, h6⟩ := h
  refine ⟨hL, BP_f hK hM (chk_s c1 rfl) (chk_s c2 rfl) (chk_s c3 rfl) (chk_s c4 rfl) h2, AR_f hK hM (chk_s c1 rfl) (chk_s c2 rfl) (chk_s c3 rfl) (chk_s c4 rfl) h3, NDR_f hK hM (chk_s c1 rfl) (chk_s c2 rfl) (chk_s c3 rfl) (chk_s c4 rfl) h4, ?_, ?_⟩
  · rw [fr1 hM 64 (chk_1 c3 (by decide))]; exact h5
  · rw [fr1 hM 64 (chk_1 c3 (by decide)), fr1 hM 25 (chk_1 c3 (by decide))]; exact h6
/-- behind an EXPR -/
theorem XP_x {F A G C : List Nat} {K M K' M' : mR} (h : XP K M) (hL : LR K' M') (hP : BP K' M') (hN : NDR K' M') (hK : fr F A K K') (hM : fr G C M M') (c2 : chk [15, 16] A = true) (c3 : chk [22, 25, 64] G = true) (c4 : chk [36, 93] C = true) : XP K' M' := by
  obtain ⟨h1, h2, h3, h4, h5, h6⟩ := h
  refine ⟨hL, hP, AR_f hK hM rfl c2 (chk_s c3 rfl) c4 h3, hN, ?_, ?_⟩
  · rw [fr1 hM 64 (chk_1 c3 (by decide))]; exact h5
  · rw [fr1 hM 64 (chk_1 c3 (by decide)), fr1 hM 25 (chk_1 c3 (by decide))]; exact h6
def PW (M : mR) (b : Int) : Int := if b < 16 then M.2 35 b else M.2 33 (16 * M.2 34 ((b - 16) / 16) + (b - 16) % 16)
section PLA
variable {K M : mR}
theorem slotP_k (hP : BP K M) {a b : Int} (h : PLS (M.1 20) (M.1 21) (M.2 29) (M.2 34) a b) : RP (kf_pr_slotWidth a K) (fun w => w = PW M b ∧ 1 ≤ w ∧ w ≤ 64) := by
  unfold PW
  rcases h with ⟨b0, b1, b2, rfl⟩ | ⟨b0, b1, b2, rfl⟩
  · rw [if_pos b2]
    exact slotM_k hP (by omega) b1
  · rw [if_neg (by omega)]
    exact slotF_k hP (by omega) b1 (by omega) b2
theorem PW_c {M' : mR} {G C : List Nat} (hM : fr G C M M') (c4 : chk [33, 34, 35] C = true) (b : Int) : PW M' b = PW M b := by
  unfold PW
  rw [fr2 hM 33 (chk_1 c4 (by decide)), fr2 hM 34 (chk_1 c4 (by decide)), fr2 hM 35 (chk_1 c4 (by decide))]
/-- a place that is written -/
def PG (K M : mR) (a : Int) (K2 : mR) (b : Int) (M2 : mR) : Prop := PLS (M.1 20) (M.1 21) (M.2 29) (M.2 34) a b ∧ M2.1 100 = PW M b ∧ LR K2 M2 ∧ fr kF_tx_advance kA_tx_advance K K2 ∧ fr [7, 8, 9, 10, 11, 12, 100] [] M M2 ∧ M.1 8 + 1 ≤ M2.1 8
theorem place_s (h : LR K M) (hP : BP K M) : RR (kf_rd_writtenSlot K) (rf_takePlace M) (GV (PG K M)) := by
  have hX := h.2.1
  have hf := h.2.2.2.2
  have h1 : LR K (mO M [(100, 1)] []) := h
  have hP1 : BP K (mO M [(100, 1)] []) := hP
  have f0 : fr [7, 8, 9, 10, 11, 12, 100] [] M (mO M [(100, 1)] []) := fr_m fr_0 rfl rfl
  have h20 := hP.1.2.2.1
  have h21 := hP.1.2.2.2.1
  have bad : ∀ (X : Option (Int × Int × mR)) (Y : Option (Int × mR)), RP X (fun y => y.1 ≠ 0) → RP Y (fun z => 0 < z.2.1 10) → RR X Y (GV (PG K M)) := fun X Y h1 h2 => RR_w (RR_pr h1 h2) (fun _ _ q => Or.inr q)
  have s82 : ∀ v1 v2 (z : Int × mR), 0 < z.2.1 10 → RP (rfl_takePlace_82 v1 v2 z.2) (fun w => 0 < w.2.1 10) := fun v1 v2 z hz => RP_w (u_rfl_takePlace_82 v1 v2 z.2) (fun w hw => hw.2 hz)
  have r72 : ∀ v1 v2, RP (rfl_takePlace_72 v1 v2 (mO M [(100, 1)] [])) (fun z => 0 < z.2.1 10) := by
    intro v1 v2
    unfold rfl_takePlace_72
    exact RP_bnd (wrong_1 (by decide)) (s82 _ _)
  unfold kf_rd_writtenSlot rf_takePlace
  rw [if_pos (show M.1 10 ≤ 0 by omega), hX.1]
  refine RR_ii (wm_256 hX.2.1) (fun g1 w1 => ?_) (fun g1 w1 => ?_)
  · intro y z hy hz
    cases hs : rf_sortHere (mO M [(100, 1)] []) with
    | none => rw [hs] at hz; cases hz
    | some t =>
      rw [hs, bnd_some] at hz
      unfold kfl_rd_writtenSlot_20 at hy
      cases h3 : kf_tx_indexOf 302 K with
      | none => rw [h3] at hy; cases hy
      | some i3 =>
        rw [h3, bnd_some] at hy
        have thr40 : RP (kfl_rd_writtenSlot_40 K) (fun y => y.1 ≠ 0) := by
          unfold kfl_rd_writtenSlot_40
          exact thr_l (A := fun y4 => kfl_rd_writtenSlot_56 y4.2.2) (fail_1 _ _ _)
        rcases idx3 h1 hP1 w1 h3 hs with ⟨t1, t2, t3, t4⟩ | ⟨t1, t2⟩
        · have t3 : i3 < M.1 21 := t3
          rw [if_pos t1] at hz
          unfold rfl_takePlace_43 at hz
          cases hv : rf_whichHere (mO M [(100, 1)] []) with
          | none => rw [hv] at hz; cases hz
          | some v =>
            rw [hv, bnd_some] at hz
            have ev := t4 v hv
            subst ev
            unfold rfl_takePlace_51 rfl_takePlace_62 at hz
            rw [if_pos t1, if_pos t1] at hz
            by_cases v2 : (2 : Int) ≤ v
            · rw [if_pos v2] at hz
              rw [if_neg (by omega), if_neg (by omega)] at hy
              unfold kfl_rd_writtenSlot_56 kf_fm_placeSlot at hy
              rw [h3, bnd_some, if_neg (by omega)] at hy
              unfold rfl_takePlace_82 at hz
              cases hk : kf_tx_advance K with
              | none => rw [hk] at hy; cases hy
              | some x =>
                cases hm : rf_next (mO M [(100, 1)] []) with
                | none => rw [hm] at hz; cases hz
                | some w =>
                  rw [hk, bnd_some] at hy
                  rw [hm, bnd_some] at hz
                  rcases adv_s h1 (show M.1 7 ≠ 0 by omega) x w hk hm with ⟨a1, a2, a3, a4, a5⟩ | ⟨a1, a2⟩
                  · rw [if_pos a1, bnd_some, if_pos rfl] at hy
                    unfold rfl_takePlace_86 at hz
                    rw [if_pos (show w.2.1 10 ≤ 0 by have := a2.2.2.2.2; omega), if_pos t1] at hz
                    cases hy
                    cases hz
                    have fw : fr [7, 8, 9, 10, 11, 12, 100] [] M w.2 := fr_s a4 f0 rfl rfl
                    refine Or.inl ⟨rfl, Or.inl ⟨v2, t3, by omega, ?_⟩, ?_, a2, a3, fr_m fw rfl rfl, a5⟩
                    · show cut (204 + v) = 204 + v
                      exact cut_i (by omega) (by omega)
                    · show w.2.2 35 v = PW M v
                      unfold PW
                      rw [if_pos (by omega), fr2 fw 35 rfl]
                  · rw [if_neg a1, bnd_some, if_neg a1] at hy
                    cases hy
                    exact Or.inr ⟨a1, (u_rfl_takePlace_86 t v w.2 z hz).2 a2⟩
            · rw [if_neg v2] at hz
              refine bad _ _ ?_ (r72 _ _) y z hy hz
              exact RP_ite (fun _ => thr40) (fun _ => RP_ite (fun _ => thr40) (fun _ => by omega))
        · rw [if_neg t1] at hz
          rw [if_neg (by omega), if_neg (by omega)] at hy
          unfold kfl_rd_writtenSlot_56 kf_fm_placeSlot at hy
          rw [h3, bnd_some, if_pos t2] at hy
          cases h2 : kf_tx_indexOf 301 K with
          | none => rw [h2] at hy; cases hy
          | some i2 =>
            rw [h2, bnd_some] at hy
            rcases idx2 h1 hP1 w1 h2 hs with ⟨u1, u2, u3, u4⟩ | ⟨u1, u2⟩
            · have u3 : i2 < M.1 20 := u3
              rw [if_pos u1] at hz
              rw [if_neg (by omega)] at hy
              unfold rfl_takePlace_43 at hz
              cases hv : rf_whichHere (mO M [(100, 1)] []) with
              | none => rw [hv] at hz; cases hz
              | some v =>
                rw [hv, bnd_some] at hz
                have ev := u4 v hv
                subst ev
                unfold rfl_takePlace_51 rfl_takePlace_62 rfl_takePlace_82 at hz
                rw [if_neg t1, if_pos u1, if_neg t1] at hz
                have e : (bnd (rf_next (mO M [(100, 1)] [])) fun y12 => rfl_takePlace_86 t v y12.2) = bnd (bnd (rf_next (mO M [(100, 1)] [])) fun y => bnd (rf_need 46 y.2) fun y2 => rf_takeField v y2.2) (fun y4 => rfl_takePlace_123 y4.1 y4.2) ∨ ∃ q, rf_next (mO M [(100, 1)] []) = some q ∧ 0 < q.2.1 10 := by
                  cases hm : rf_next (mO M [(100, 1)] []) with
                  | none => exact Or.inl rfl
                  | some q =>
                    by_cases qf : q.2.1 10 ≤ 0
                    · left
                      rw [bnd_some, bnd_some, bnd_a]
                      unfold rfl_takePlace_86
                      rw [if_pos qf, if_neg t1]
                      rfl
                    · exact Or.inr ⟨q, rfl, by omega⟩
                rcases e with e | ⟨q, e1, e2⟩
                · rw [e] at hz
                  cases hk : kfl_fm_placeSlot_61 v K with
                  | none => rw [hk] at hy; cases hy
                  | some x =>
                    rw [hk, bnd_some] at hy
                    cases hm : (bnd (rf_next (mO M [(100, 1)] [])) fun y => bnd (rf_need 46 y.2) fun y2 => rf_takeField v y2.2) with
                    | none => rw [hm] at hz; cases hz
                    | some w =>
                      rw [hm, bnd_some] at hz
                      rcases plc_s h1 hP1 u2 u3 (show M.1 7 ≠ 0 by omega) x w hk hm with ⟨a1, ⟨f, f0', f1, f2, f3⟩, a2, a3, a4, a5⟩ | ⟨a1, a2⟩
                      · rw [if_pos a1] at hy
                        have fw : fr [7, 8, 9, 10, 11, 12, 100] [] M w.2 := fr_s a4 f0 rfl rfl
                        have f1 : f < M.2 29 (M.2 34 v) := f1
                        have f16 : f < 16 := by
                          obtain ⟨n1, n2, n3⟩ := hP.2.2.2.2.1 v u2 u3
                          have := (hP.2.2.1.1 (M.2 34 v) n2 n3).2.1
                          omega
                        have hPw : BP x.2.2 w.2 := BP_f a3 fw rfl rfl rfl rfl hP
                        have f1' : f < w.2.2 29 (w.2.2 34 v) := by
                          rw [fr2 fw 29 rfl, fr2 fw 34 rfl]
                          exact f1
                        unfold rfl_takePlace_123 at hz
                        rw [if_pos (show w.2.1 10 ≤ 0 by have := a2.2.2.2.2; omega), f3, bitsF_r hPw u2 (by rw [fr1 fw 20 rfl]; exact u3) f0' f1', bnd_some, cut_i (by omega) (by omega)] at hz
                        rw [f2] at hy
                        cases hy
                        cases hz
                        have q1 : (16 + (16 * v + f) - 16) / 16 = v := by omega
                        have q2 : (16 + (16 * v + f) - 16) % 16 = f := by omega
                        refine Or.inl ⟨rfl, Or.inr ⟨by show 16 ≤ 16 + (16 * v + f); omega, by show (16 + (16 * v + f) - 16) / 16 < M.1 20; omega, ?_, by show 17 * v + 1 + f = 17 * ((16 + (16 * v + f) - 16) / 16) + 1 + (16 + (16 * v + f) - 16) % 16; omega⟩, ?_, a2, a3, fr_m fw rfl rfl, a5⟩
                        · show (16 + (16 * v + f) - 16) % 16 < M.2 29 (M.2 34 ((16 + (16 * v + f) - 16) / 16))
                          rw [q1, q2]
                          exact f1
                        · show w.2.2 33 (16 * w.2.2 34 v + f) = PW M _
                          unfold PW
                          rw [if_neg (by omega), q1, q2, fr2 fw 33 rfl, fr2 fw 34 rfl]
                      · rw [if_neg a1] at hy
                        cases hy
                        exact Or.inr ⟨a1, (u_rfl_takePlace_123 w.1 w.2 z hz).2 a2⟩
                · rw [e1, bnd_some] at hz
                  refine Or.inr ⟨?_, (u_rfl_takePlace_86 t v q.2 z hz).2 e2⟩
                  unfold kfl_fm_placeSlot_61 at hy
                  cases hk : kf_tx_advance K with
                  | none => rw [hk] at hy; cases hy
                  | some x =>
                    rcases adv_s h1 (show M.1 7 ≠ 0 by omega) x q hk e1 with ⟨-, a2, -⟩ | ⟨a1, -⟩
                    · have := a2.2.2.2.2
                      omega
                    · rw [hk, bnd_some, if_neg a1, bnd_some, if_neg a1] at hy
                      cases hy
                      exact a1
            · rw [if_neg u1] at hz
              rw [if_pos u2] at hy
              unfold rfl_takePlace_51 at hz
              rw [if_neg t1, if_neg u1] at hz
              refine bad (bnd (bnd (kf_tx_fail 6 (K.1 207) K) fun y33 => if y33.1 = 0 then kfl_fm_placeSlot_61 i2 y33.2.2 else some (y33.1, 0, y33.2.2)) fun y1 => if y1.1 = 0 then some (0, y1.2.1, y1.2.2) else some (y1.1, 0, y1.2.2)) _ ?_ (r72 _ _) y z hy hz
              exact thr_l (A := fun y1 => some (0, y1.2.1, y1.2.2)) (thr_l (A := fun y33 => kfl_fm_placeSlot_61 i2 y33.2.2) (fail_1 _ _ _))
  · exact bad _ _ (thr_l (A := fun y13 => kfl_rd_writtenSlot_20 y13.2.2) (refuse_1 _)) (RP_bnd (bad_1 _) (fun z hz => RP_some hz))
end PLA
