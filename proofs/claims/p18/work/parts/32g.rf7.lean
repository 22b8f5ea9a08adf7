/-! ===== state ===== -/
theorem php : ∀ (m n : Nat) (f : Nat → Nat), (∀ a, a < n → f a < m) → (∀ a b, a < n → b < n → f a = f b → a = b) → n ≤ m := by
  intro m
  induction m with
  | zero =>
    intro n f h1 h2
    cases n with
    | zero => omega
    | succ n =>
      have := h1 0 (by omega)
      omega
  | succ m ih =>
    intro n f h1 h2
    cases n with
    | zero => omega
    | succ k =>
      have r := ih k (fun a => if f a = m then f k else f a) (fun a ha => ?_) (fun a b ha hb e => ?_)
      · omega
      · show (if f a = m then f k else f a) < m
        by_cases e : f a = m
        · rw [if_pos e]
          have q := h1 k (by omega)
          by_cases ek : f k = m
          · have := h2 a k (by omega) (by omega) (by omega)
            omega
          · omega
        · rw [if_neg e]
          have := h1 a (by omega)
          omega
      · have e : (if f a = m then f k else f a) = (if f b = m then f k else f b) := e
        by_cases ea : f a = m
        · rw [if_pos ea] at e
          by_cases eb : f b = m
          · exact h2 a b (by omega) (by omega) (by omega)
          · rw [if_neg eb] at e
            have := h2 k b (by omega) (by omega) e
            omega
        · rw [if_neg ea] at e
          by_cases eb : f b = m
          · rw [if_pos eb] at e
            have := h2 a k (by omega) (by omega) e
            omega
          · rw [if_neg eb] at e
            exact h2 a b (by omega) (by omega) e
section ST7
variable {K M : mR}
def PS (K M : mR) : Prop := LR K M ∧ BP K M ∧ NDR K M ∧ SO K M ∧ SGd (M.1 23) (M.1 24) K M ∧ M.1 64 = -1
theorem PS_f {F A G C : List Nat} {K' M' : mR} (h : PS K M) (hL : LR K' M') (hK : fr F A K K') (hM : fr G C M M') (c1 : chk [214, 215, 216, 217, 219, 220, 221, 222, 223] F = true) (c2 : chk [10, 11, 12, 13, 14, 18, 19, 26, 30, 33, 34, 35, 36, 37, 39, 40, 41, 42] A = true) (c3 : chk [6, 13, 19, 20, 21, 22, 23, 24, 25, 26, 28, 64] G = true) (c4 : chk [4, 16, 17, 29, 30, 31, 32, 33, 34, 35, 37, 38, 39, 41, 42, 44, 45, 46, 47, 48, 49, 65, 67] C = true) : PS K' M' := by
  obtain ⟨h1, h2, h3, h4, h5, h6⟩ := h
  refine ⟨hL, BP_f hK hM (chk_s c1 rfl) (chk_s c2 rfl) (chk_s c3 rfl) (chk_s c4 rfl) h2, NDR_f hK hM (chk_s c1 rfl) (chk_s c2 rfl) (chk_s c3 rfl) (chk_s c4 rfl) h3, SO_f hK hM (chk_s c1 rfl) (chk_s c2 rfl) (chk_s c3 rfl) (chk_s c4 rfl) h4, ?_, (fr1 hM 64 (chk_1 c3 (by decide))).trans h6⟩
  unfold SGd
  rw [fr2 hK 26 (chk_1 c2 (by decide)), fr2 hK 30 (chk_1 c2 (by decide)), fr2 hK 33 (chk_1 c2 (by decide)), fr2 hK 34 (chk_1 c2 (by decide)), fr1 hM 23 (chk_1 c3 (by decide)), fr1 hM 24 (chk_1 c3 (by decide)), fr2 hM 39 (chk_1 c4 (by decide)), fr2 hM 41 (chk_1 c4 (by decide)), fr2 hM 42 (chk_1 c4 (by decide)), fr2 hM 44 (chk_1 c4 (by decide)), fr2 hM 45 (chk_1 c4 (by decide))]
  exact h5
theorem mkn_x {n : Int} (hx : K.1 206 ≠ 256 ∨ 16 ≤ n ∨ ∃ f, kf_tx_find K = some f ∧ f ≠ -1) : RP (kf_tx_makeNew 304 n 16 K) (fun y => y.1 ≠ 0) := by
  unfold kf_tx_makeNew
  refine RP_ite (fun g1 => ?_) (fun g1 => thr_l (A := fun y19 => kfl_tx_makeNew_14 304 n 16 y19.2.2) (refuse_1 _))
  unfold kfl_tx_makeNew_14
  refine RP_ite (fun g2 => ?_) (fun g2 => thr_l (A := fun y15 => kfl_tx_makeNew_28 304 n y15.2.2) (fail_1 _ _ _))
  rcases hx with hx | hx | ⟨f, h1, h2⟩
  · exact absurd g1 hx
  · omega
  · unfold kfl_tx_makeNew_28
    rw [h1, bnd_some, if_neg h2]
    exact thr_l (A := fun y11 => kfl_tx_makeNew_45 304 n y11.2.2) (fail_1 _ _ _)
theorem st76_x {p : Int} (hx : K.1 206 ≠ 256 ∨ 16 ≤ K.1 221 ∨ ∃ f, kf_tx_find K = some f ∧ f ≠ -1) : RP (kfl_rd_state_76 p K) (fun y => y.1 ≠ 0) := by
  unfold kfl_rd_state_76
  exact thr_l (A := fun y35 => bnd (kf_ss_add p y35.2.2) fun y38 => kfl_rd_state_104 p y38.1 y38.2) (mkn_x hx)
theorem state_s (h : PS K M) (hw : M.1 7 = 304) : RR (kf_rd_state K) (rf_takeState M) (GV (fun _ K2 _ M2 => PS K2 M2 ∧ M.1 8 + 1 ≤ M2.1 8)) := by
  have bad : ∀ (X : Option (Int × Int × mR)) (Y : Option (Int × mR)), RP X (fun y => y.1 ≠ 0) → RP Y (fun z => 0 < z.2.1 10) → RR X Y (GV (fun _ K2 _ M2 => PS K2 M2 ∧ M.1 8 + 1 ≤ M2.1 8)) := fun X Y h1 h2 => RR_w (RR_pr h1 h2) (fun _ _ q => Or.inr q)
  have fin : ∀ {s d : Int} {X : Option (Int × Int × mR)} {Y : Option (Int × mR)}, RR X Y (GV (fun _ K2 _ M2 => SL s d (M.1 8 + 1) K2 M2)) → RR X Y (GV (fun _ K2 _ M2 => PS K2 M2 ∧ M.1 8 + 1 ≤ M2.1 8)) := by
    intro s d X Y hXY
    refine RR_w hXY (fun y z q => ?_)
    rcases q with ⟨q0, q1⟩ | q
    · obtain ⟨e1, e2, e3, e4, e5, e6, e7⟩ := SL_e q1
      exact Or.inl ⟨q0, ⟨e1, e2, e3, e4, e5, e6⟩, e7⟩
    · exact Or.inr q
  unfold kf_rd_state rf_takeState
  refine RR_sq (G := fun _ K1 _ M1 => LR K1 M1 ∧ fr kF_tx_advance kA_tx_advance K K1 ∧ fr rF_next rA_next M M1 ∧ M.1 8 + 1 ≤ M1.1 8) (A := fun _ => True) (B := fun _ => True) (adv_s h.1 (by omega)) (RP_T _) (RP_T _) (fun z hz => RP_w (u_rfl_takeState_4 z.2) (fun w hw => hw.2 hz)) (fun a K1 b M1 hG _ _ => ?_)
  obtain ⟨g1, g2, g3, g4⟩ := hG
  have hP1 : PS K1 M1 := PS_f h g1 g2 g3 rfl rfl rfl rfl
  clear h hw g2 g3
  obtain ⟨p1, p2, p3, p4, p5, p6⟩ := hP1
  have hX := p1.2.1
  have hf := p1.2.2.2.2
  obtain ⟨⟨c1, c2, c3, c4, c5, c6, c7, c8⟩, r1, r2, r3, r4, r5, r6, r7, r8, hsum⟩ := id p2.1
  have pl : K1.1 207 = M1.1 8 := hX.2.2.1
  have pl0 : 0 ≤ M1.1 8 := hX.2.2.2.1
  dsimp only
  unfold rfl_takeState_4
  rw [if_pos (show M1.1 10 ≤ 0 by omega), hX.1]
  refine RR_ii (wm_256 hX.2.1) (fun g1' w1 => ?_) (fun g1' w1 => ?_)
  · intro y z hy hz
    cases hss : rf_sortHere M1 with
    | none => rw [hss] at hz; cases hz
    | some t =>
      rw [hss, bnd_some] at hz
      cases hii : kf_tx_indexOf 304 K1 with
      | none => rw [hii] at hy; cases hy
      | some i =>
        rw [hii, bnd_some] at hy
        -- what the class finds
        have hfd : ∃ f, kf_tx_find K1 = some f := by
          cases hfd : kf_tx_find K1 with
          | none =>
            unfold kf_tx_indexOf at hii
            rw [hfd] at hii
            cases hii
          | some f => exact ⟨f, rfl⟩
        obtain ⟨f, hfd⟩ := hfd
        obtain ⟨g, k, q1, q2⟩ := rr_sort p1 w1 f t hfd hss
        have q := sort_of p1 q1
        rw [← q2] at q
        have there : t ≠ -1 → f ≠ -1 := by
          intro ht
          rcases q with q | q
          · omega
          · omega
        have r140 : ∀ v1 v2 (w : Int × mR), 0 < w.2.1 10 → RP (rfl_takeState_140 v1 v2 w.2) (fun z => 0 < z.2.1 10) := fun v1 v2 w hw => RP_w (u_rfl_takeState_140 v1 v2 w.2) (fun v hv => hv.2 hw)
        have r58 : ∀ v1 v2, RP (rfl_takeState_58 v1 v2 M1) (fun z => 0 < z.2.1 10) := by
          intro v1 v2
          unfold rfl_takeState_58 rfl_takeState_76 rfl_takeState_77
          exact RP_ite (fun _ => RP_bnd (wrong_1 (by decide)) (r140 _ _)) (fun _ => RP_ite (fun _ => RP_bnd (wrong_1 (by decide)) (r140 _ _)) (fun _ => RP_bnd (wrong_1 (by decide)) (r140 _ _)))
        by_cases t5 : t = 5
        · rw [if_pos t5] at hz
          cases hv : rf_whichHere M1 with
          | none => rw [hv] at hz; cases hz
          | some v =>
            rw [hv, bnd_some] at hz
            rcases idx5 p1 p2.2.1 w1 hii hss hv t5 with ⟨v0, v1, rfl⟩ | ⟨v0, rfl⟩
            · rw [if_neg (by omega)] at hz
              unfold kfl_rd_state_42 at hy
              rw [if_neg (by omega), if_neg (by omega)] at hy
              rcases p4.1 i v0 v1 with ⟨s1, s2, s3, s4, -⟩ | ⟨s1, s2, s3, s4⟩
              · -- it is named and does not stand yet
                have room : M1.1 24 + 1 ≤ M1.1 23 := by
                  have r := php (M1.1 23).toNat ((M1.1 24).toNat + 1) (fun a => if a = (M1.1 24).toNat then i.toNat else (M1.2 39 a).toNat) (fun a ha => ?_) (fun a b ha hb e => ?_)
                  · omega
                  · show (if a = (M1.1 24).toNat then i.toNat else (M1.2 39 a).toNat) < _
                    by_cases ea : a = (M1.1 24).toNat
                    · rw [if_pos ea]
                      omega
                    · rw [if_neg ea]
                      have := p4.2 a (by omega) (by omega)
                      omega
                  · have e : (if a = (M1.1 24).toNat then i.toNat else (M1.2 39 a).toNat) = (if b = (M1.1 24).toNat then i.toNat else (M1.2 39 b).toNat) := e
                    by_cases ea : a = (M1.1 24).toNat
                    · by_cases eb : b = (M1.1 24).toNat
                      · omega
                      · rw [if_pos ea, if_neg eb] at e
                        obtain ⟨b1, b2, b3, b4⟩ := p4.2 b (by omega) (by omega)
                        rw [show M1.2 39 b = i by omega] at b3
                        omega
                    · by_cases eb : b = (M1.1 24).toNat
                      · rw [if_neg ea, if_pos eb] at e
                        obtain ⟨b1, b2, b3, b4⟩ := p4.2 a (by omega) (by omega)
                        rw [show M1.2 39 a = i by omega] at b3
                        omega
                      · rw [if_neg ea, if_neg eb] at e
                        obtain ⟨a1, a2, a3, a4⟩ := p4.2 a (by omega) (by omega)
                        obtain ⟨b1, b2, b3, b4⟩ := p4.2 b (by omega) (by omega)
                        rw [show M1.2 39 b = M1.2 39 a by omega, a3] at b3
                        omega
                rw [if_pos s1] at hy
                rw [if_pos s2] at hz
                unfold rfl_takeState_140 at hz
                rw [if_pos (show M1.1 10 ≤ 0 by omega), if_neg (by omega)] at hz
                unfold rfl_takeState_179 at hz
                rw [cut_i (z := M1.1 24 + 1) (by omega) (by omega)] at hz
                have fo : fr [24] [38, 39, 40, 41, 42, 43] M1 (mO M1 [(24, M1.1 24 + 1)] [(38, upI (M1.2 38) i (M1.1 24)), (39, upI (M1.2 39) (M1.1 24) i), (40, upI (M1.2 40) (M1.1 24) (M1.1 8)), (41, upI (M1.2 41) (M1.1 24) 0), (42, upI (M1.2 42) (M1.1 24) 0), (43, upI (M1.2 43) (M1.1 24) 0)]) := fr_m fr_0 rfl rfl
                have hLo : LR K1 (mO M1 [(24, M1.1 24 + 1)] [(38, upI (M1.2 38) i (M1.1 24)), (39, upI (M1.2 39) (M1.1 24) i), (40, upI (M1.2 40) (M1.1 24) (M1.1 8)), (41, upI (M1.2 41) (M1.1 24) 0), (42, upI (M1.2 42) (M1.1 24) 0), (43, upI (M1.2 43) (M1.1 24) 0)]) := p1
                refine fin (s := i) (d := M1.1 24) (RR_sq (G' := fun _ K2 _ M2 => SL i (M1.1 24) (M.1 8 + 1) K2 M2) (G := fun _ K2 _ M2 => LR K2 M2 ∧ fr kF_tx_advance kA_tx_advance K1 K2 ∧ fr rF_next rA_next (mO M1 [(24, M1.1 24 + 1)] [(38, upI (M1.2 38) i (M1.1 24)), (39, upI (M1.2 39) (M1.1 24) i), (40, upI (M1.2 40) (M1.1 24) (M1.1 8)), (41, upI (M1.2 41) (M1.1 24) 0), (42, upI (M1.2 42) (M1.1 24) 0), (43, upI (M1.2 43) (M1.1 24) 0)]) M2 ∧ M1.1 8 + 1 ≤ M2.1 8) (A := fun _ => True) (B := fun _ => True) (adv_s hLo (show M1.1 7 ≠ 0 by omega)) (RP_T _) (RP_T _) (fun z hz => RP_w (u_rfl_takeState_243 _ z.2) (fun w hw => hw.2 hz)) (fun a2 K2 b2 M2 hG _ _ => ?_)) y z hy hz
                obtain ⟨e1, e2, e3, e4⟩ := hG
                dsimp only
                unfold kfl_rd_state_104 kf_ss_stand
                rw [bnd_some]
                have k222 : K2.1 222 = M1.1 24 := (fr1 e2 222 rfl).trans c7
                dsimp only
                rw [k222, cut_i (by omega) (by omega)]
                have fK3 : fr [205, 206, 207, 208, 209, 210, 211, 212, 222] [36, 37] K1 (mO K2 [(222, M1.1 24 + 1)] [(36, upI (K2.2 36) i (K1.1 207)), (37, upI (K2.2 37) (M1.1 24) i)]) := fr_m (fr_s e2 fr_0 rfl rfl) rfl rfl
                have fM2 : fr [7, 8, 9, 10, 11, 12, 24] [38, 39, 40, 41, 42, 43] M1 M2 := fr_s e3 (fr_s fo fr_0 rfl rfl) rfl rfl
                have m24 : M2.1 24 = M1.1 24 + 1 := fr1 e3 24 rfl
                have m38 : M2.2 38 = upI (M1.2 38) i (M1.1 24) := fr2 e3 38 rfl
                have m41 : M2.2 41 = upI (M1.2 41) (M1.1 24) 0 := fr2 e3 41 rfl
                have m42 : M2.2 42 = upI (M1.2 42) (M1.1 24) 0 := fr2 e3 42 rfl
                have k36 : (mO K2 [(222, M1.1 24 + 1)] [(36, upI (K2.2 36) i (K1.1 207)), (37, upI (K2.2 37) (M1.1 24) i)]).2 36 = upI (K1.2 36) i (K1.1 207) := by
                  show upI (K2.2 36) i (K1.1 207) = _
                  rw [fr2 e2 36 rfl]
                have k37 : (mO K2 [(222, M1.1 24 + 1)] [(36, upI (K2.2 36) i (K1.1 207)), (37, upI (K2.2 37) (M1.1 24) i)]).2 37 = upI (K1.2 37) (M1.1 24) i := by
                  show upI (K2.2 37) (M1.1 24) i = _
                  rw [fr2 e2 37 rfl]
                have hB : SB i (M1.1 24) (mO K2 [(222, M1.1 24 + 1)] [(36, upI (K2.2 36) i (K1.1 207)), (37, upI (K2.2 37) (M1.1 24) i)]) M2 := by
                  refine SB_n p4 p5 e1 ⟨?_, NC_f fK3 fM2 rfl rfl rfl rfl p2.2.1, HD_f fK3 fM2 rfl rfl rfl rfl p2.2.2.1, HU_f fK3 fM2 rfl rfl rfl rfl p2.2.2.2.1, IN_f fK3 fM2 rfl rfl rfl rfl p2.2.2.2.2.1, ME_f fK3 fM2 rfl rfl rfl rfl p2.2.2.2.2.2.1, PA_f fK3 fM2 rfl rfl rfl rfl p2.2.2.2.2.2.2⟩ (NDR_f fK3 fM2 rfl rfl rfl rfl p3) ((fr1 fM2 64 rfl).trans p6) rfl (by omega) v0 (by rw [fr1 fM2 23 rfl]; exact v1) (by rw [fr1 fM2 23 rfl]; omega) (fun x hx _ => by rw [fr1 fM2 23 rfl] at hx; exact hx) (fun _ => s2) (fun x _ => by rw [fr2 fK3 35 rfl]) (fun x hx => by rw [k36, upI_n hx]) (by rw [k36, upI_s]; omega) k37 (fun x _ => by rw [fr2 fK3 26 rfl]) (by rw [fr2 fK3 26 rfl]; exact s3) (fun x _ => by rw [fr2 fK3 30 rfl]) (by rw [fr2 fK3 30 rfl]; exact s4) (fr2 fK3 33 rfl) (fr2 fK3 34 rfl) m24 (fun x _ => by rw [fr2 fM2 37 rfl]) (fun x hx => by rw [m38, upI_n hx]) (by rw [m38, upI_s]) (fr2 e3 39 rfl) (fun e he => by rw [m41, upI_n he]) (by rw [m41, upI_s]) (fun e he => by rw [m42, upI_n he]) (by rw [m42, upI_s]) (fr2 fM2 44 rfl) (fr2 fM2 45 rfl)
                  unfold CNq CNx
                  rw [fr1 fK3 214 rfl, fr1 fK3 215 rfl, fr1 fK3 216 rfl, fr1 fK3 217 rfl, fr1 fK3 219 rfl, fr1 fK3 221 rfl, fr1 fK3 223 rfl, fr1 fM2 13 rfl, fr1 fM2 19 rfl, fr1 fM2 20 rfl, fr1 fM2 21 rfl, fr1 fM2 22 rfl, fr1 fM2 23 rfl, m24, fr1 fM2 25 rfl, fr1 fM2 26 rfl]
                  refine ⟨⟨c1, c2, c3, c4, c5, c6, rfl, c8⟩, r1, r2, r3, r4, r5, ⟨by omega, room⟩, r7, r8, hsum⟩
                exact sttail_s hB (by rw [m41, upI_s]) (by rw [m42, upI_s]) (by omega)
              · rw [if_neg (by omega)] at hy
                rw [if_neg (by omega)] at hz
                exact bad _ _ (st76_x (Or.inr (Or.inr ⟨f, hfd, there (by omega)⟩))) (r58 _ _) y z hy hz
            · rw [if_pos (by omega)] at hz
              unfold kfl_rd_state_42 at hy
              rw [if_neg (by omega), if_pos (by omega)] at hy
              exact bad _ _ (st76_x (Or.inr (Or.inr ⟨f, hfd, there (by omega)⟩))) (r58 _ _) y z hy hz
        · rw [if_neg t5] at hz
          have i1 : i = -1 := by
            rcases rr_idx p1 w1 (s := 5) (by omega) i t hii hss with ⟨t1, -⟩ | ⟨-, t2⟩
            · exact absurd t1 t5
            · exact t2
          unfold kfl_rd_state_42 at hy
          rw [if_pos (by omega)] at hy
          by_cases t1 : t = -1
          · rw [if_pos t1] at hz
            have f1 : f = -1 := by
              rcases q with q | q
              · exact q.1
              · omega
            subst f1
            by_cases hb : M1.1 23 = 16
            · rw [if_pos hb] at hz
              exact bad _ _ (st76_x (Or.inr (Or.inl (by omega)))) (RP_bnd (wrong_1 (by decide)) (r140 _ _)) y z hy hz
            · rw [if_neg hb] at hz
              unfold rfl_takeState_113 rfl_takeState_140 rf_enter at hz
              rw [if_pos t1, if_pos (show M1.1 10 ≤ 0 by omega), if_pos t1, bnd_some] at hz
              unfold rfl_takeState_169 rfl_takeState_179 at hz
              have hz : bnd (rf_next (mO (mO (mO (mO M1 [] [(37, upI (M1.2 37) (M1.1 23) (M1.1 8))]) [(13, cut (M1.1 13 + 1))] [(14, upI (M1.2 14) (M1.1 13) (M1.1 8)), (15, upI (M1.2 15) (M1.1 13) (M1.1 9)), (16, upI (M1.2 16) (M1.1 13) 5), (17, upI (M1.2 17) (M1.1 13) (M1.1 23))]) [(23, cut (M1.1 23 + 1))] []) [(24, cut (M1.1 24 + 1))] [(38, upI (M1.2 38) (M1.1 23) (M1.1 24)), (39, upI (M1.2 39) (M1.1 24) (M1.1 23)), (40, upI (M1.2 40) (M1.1 24) (M1.1 8)), (41, upI (M1.2 41) (M1.1 24) 0), (42, upI (M1.2 42) (M1.1 24) 0), (43, upI (M1.2 43) (M1.1 24) 0)])) (fun y35 => rfl_takeState_243 (M1.1 24) y35.2) = some z := hz
              rw [cut_i (z := M1.1 13 + 1) (by omega) (by omega), cut_i (z := M1.1 23 + 1) (by omega) (by omega), cut_i (z := M1.1 24 + 1) (by omega) (by omega)] at hz
              have em : ∃ N, N = (mO (mO (mO (mO M1 [] [(37, upI (M1.2 37) (M1.1 23) (M1.1 8))]) [(13, M1.1 13 + 1)] [(14, upI (M1.2 14) (M1.1 13) (M1.1 8)), (15, upI (M1.2 15) (M1.1 13) (M1.1 9)), (16, upI (M1.2 16) (M1.1 13) 5), (17, upI (M1.2 17) (M1.1 13) (M1.1 23))]) [(23, M1.1 23 + 1)] []) [(24, M1.1 24 + 1)] [(38, upI (M1.2 38) (M1.1 23) (M1.1 24)), (39, upI (M1.2 39) (M1.1 24) (M1.1 23)), (40, upI (M1.2 40) (M1.1 24) (M1.1 8)), (41, upI (M1.2 41) (M1.1 24) 0), (42, upI (M1.2 42) (M1.1 24) 0), (43, upI (M1.2 43) (M1.1 24) 0)]) := ⟨_, rfl⟩
              obtain ⟨N, em⟩ := em
              rw [← em] at hz
              have fo : fr [13, 23, 24] [14, 15, 16, 17, 37, 38, 39, 40, 41, 42, 43] M1 N := by
                rw [em]
                exact fr_m (fr_m (fr_m (fr_m fr_0 rfl rfl) rfl rfl) rfl rfl) rfl rfl
              have n13 : N.1 13 = M1.1 13 + 1 := by rw [em]; rfl
              have n23 : N.1 23 = M1.1 23 + 1 := by rw [em]; rfl
              have n24 : N.1 24 = M1.1 24 + 1 := by rw [em]; rfl
              have n14 : N.2 14 = upI (M1.2 14) (M1.1 13) (M1.1 8) := by rw [em]; rfl
              have n15 : N.2 15 = upI (M1.2 15) (M1.1 13) (M1.1 9) := by rw [em]; rfl
              have n16 : N.2 16 = upI (M1.2 16) (M1.1 13) 5 := by rw [em]; rfl
              have n17 : N.2 17 = upI (M1.2 17) (M1.1 13) (M1.1 23) := by rw [em]; rfl
              have n38 : N.2 38 = upI (M1.2 38) (M1.1 23) (M1.1 24) := by rw [em]; rfl
              have n37 : N.2 37 = upI (M1.2 37) (M1.1 23) (M1.1 8) := by rw [em]; rfl
              have n39 : N.2 39 = upI (M1.2 39) (M1.1 24) (M1.1 23) := by rw [em]; rfl
              have n41 : N.2 41 = upI (M1.2 41) (M1.1 24) 0 := by rw [em]; rfl
              have n42 : N.2 42 = upI (M1.2 42) (M1.1 24) 0 := by rw [em]; rfl
              clear em
              unfold kfl_rd_state_76 at hy
              rw [c6] at hy
              have main : RR (bnd (kf_tx_makeNew 304 (M1.1 23) 16 K1) fun y35 => if y35.1 = 0 then bnd (kf_ss_add (K1.1 207) y35.2.2) fun y38 => kfl_rd_state_104 (K1.1 207) y38.1 y38.2 else some (y35.1, 0, y35.2.2)) (bnd (rf_next N) fun y35 => rfl_takeState_243 (M1.1 24) y35.2) (GV (fun _ K2 _ M2 => SL (M1.1 23) (M1.1 24) (M.1 8 + 1) K2 M2)) := by
                refine RR_sq (G := fun _ K2 _ M2 => LR K2 M2 ∧ fr kF_tx_makeNew kA_tx_makeNew K1 K2 ∧ fr rF_next rA_next N M2 ∧ M1.1 8 + 1 ≤ M2.1 8) (A := fun _ => True) (B := fun _ => True) (newst_s (s := 5) p1 w1 hfd (by omega) (by omega) (by omega) (by omega) fo rfl rfl n13 n14 n15 n16 n17) (RP_T _) (RP_T _) (fun z hz => RP_w (u_rfl_takeState_243 _ z.2) (fun w hw => hw.2 hz)) (fun a2 K2 b2 M2 hG _ _ => ?_)
                obtain ⟨e1, e2, e3, e4⟩ := hG
                dsimp only
                unfold kf_ss_add kfl_rd_state_104 kf_ss_stand
                have k221 : K2.1 221 = M1.1 23 := (fr1 e2 221 rfl).trans c6
                have k222 : K2.1 222 = M1.1 24 := (fr1 e2 222 rfl).trans c7
                rw [bnd_some, bnd_some]
                show RR (bnd (kf_tx_expect 123 (mO (mO K2 [(221, cut (K2.1 221 + 1))] [(26, upI (K2.2 26) (K2.1 221) 0), (29, upI (K2.2 29) (K2.1 221) (-1)), (30, upI (K2.2 30) (K2.1 221) 0), (35, upI (K2.2 35) (K2.1 221) (K1.1 207)), (36, upI (K2.2 36) (K2.1 221) (-1))]) [(222, cut (K2.1 222 + 1))] [(36, upI (upI (K2.2 36) (K2.1 221) (-1)) (K2.1 221) (K1.1 207)), (37, upI (K2.2 37) (K2.1 222) (K2.1 221))])) fun y27 => if y27.1 = 0 then bnd (whl (kfb_rd_state_124 (K2.1 221)) (0, y27.2.2)) (sel (fun e30 : mR => kfl_rd_state_155 (K2.1 221) e30) (fun e33 : Int × mR => some (e33.1, 0, e33.2))) else some (y27.1, 0, y27.2.2)) _ _
                rw [k221, k222, cut_i (by omega) (by omega), cut_i (by omega) (by omega)]
                have ek : ∃ L, L = (mO (mO K2 [(221, M1.1 23 + 1)] [(26, upI (K2.2 26) (M1.1 23) 0), (29, upI (K2.2 29) (M1.1 23) (-1)), (30, upI (K2.2 30) (M1.1 23) 0), (35, upI (K2.2 35) (M1.1 23) (K1.1 207)), (36, upI (K2.2 36) (M1.1 23) (-1))]) [(222, M1.1 24 + 1)] [(36, upI (upI (K2.2 36) (M1.1 23) (-1)) (M1.1 23) (K1.1 207)), (37, upI (K2.2 37) (M1.1 24) (M1.1 23))]) := ⟨_, rfl⟩
                obtain ⟨L, ek⟩ := ek
                rw [← ek]
                have f2 : fr [221, 222] [26, 29, 30, 35, 36, 37] K2 L := by
                  rw [ek]
                  exact fr_m (fr_m fr_0 rfl rfl) rfl rfl
                have l221 : L.1 221 = M1.1 23 + 1 := by rw [ek]; rfl
                have l222 : L.1 222 = M1.1 24 + 1 := by rw [ek]; rfl
                have l26 : L.2 26 = upI (K1.2 26) (M1.1 23) 0 := by
                  rw [ek]
                  show upI (K2.2 26) _ _ = _
                  rw [fr2 e2 26 rfl]
                have l30 : L.2 30 = upI (K1.2 30) (M1.1 23) 0 := by
                  rw [ek]
                  show upI (K2.2 30) _ _ = _
                  rw [fr2 e2 30 rfl]
                have l35 : L.2 35 = upI (K1.2 35) (M1.1 23) (K1.1 207) := by
                  rw [ek]
                  show upI (K2.2 35) _ _ = _
                  rw [fr2 e2 35 rfl]
                have l36 : L.2 36 = upI (upI (K1.2 36) (M1.1 23) (-1)) (M1.1 23) (K1.1 207) := by
                  rw [ek]
                  show upI (upI (K2.2 36) _ _) _ _ = _
                  rw [fr2 e2 36 rfl]
                have l37 : L.2 37 = upI (K1.2 37) (M1.1 24) (M1.1 23) := by
                  rw [ek]
                  show upI (K2.2 37) _ _ = _
                  rw [fr2 e2 37 rfl]
                clear ek
                have fL : fr [203, 205, 206, 207, 208, 209, 210, 211, 212, 221, 222] [6, 7, 8, 9, 26, 29, 30, 35, 36, 37] K1 L := fr_s f2 (fr_s e2 fr_0 rfl rfl) rfl rfl
                have fM2 : fr [7, 8, 9, 10, 11, 12, 13, 23, 24] [14, 15, 16, 17, 37, 38, 39, 40, 41, 42, 43] M1 M2 := fr_s e3 (fr_s fo fr_0 rfl rfl) rfl rfl
                have m13 : M2.1 13 = M1.1 13 + 1 := (fr1 e3 13 rfl).trans n13
                have m23 : M2.1 23 = M1.1 23 + 1 := (fr1 e3 23 rfl).trans n23
                have m24 : M2.1 24 = M1.1 24 + 1 := (fr1 e3 24 rfl).trans n24
                have m16 : M2.2 16 = upI (M1.2 16) (M1.1 13) 5 := (fr2 e3 16 rfl).trans n16
                have m17 : M2.2 17 = upI (M1.2 17) (M1.1 13) (M1.1 23) := (fr2 e3 17 rfl).trans n17
                have m38 : M2.2 38 = upI (M1.2 38) (M1.1 23) (M1.1 24) := (fr2 e3 38 rfl).trans n38
                have m37 : M2.2 37 = upI (M1.2 37) (M1.1 23) (M1.1 8) := (fr2 e3 37 rfl).trans n37
                have m41 : M2.2 41 = upI (M1.2 41) (M1.1 24) 0 := (fr2 e3 41 rfl).trans n41
                have m42 : M2.2 42 = upI (M1.2 42) (M1.1 24) 0 := (fr2 e3 42 rfl).trans n42
                have hL3 : LR L M2 := LR_g e1 f2 (G := []) (B := []) fr_0 rfl rfl rfl rfl ((fr1 f2 213 rfl).trans e1.2.2.2.1) e1.2.2.2.2
                have hB : SB (M1.1 23) (M1.1 24) L M2 := by
                  refine SB_n p4 p5 hL3 ⟨?_, ?_, HD_f fL fM2 rfl rfl rfl rfl p2.2.2.1, HU_f fL fM2 rfl rfl rfl rfl p2.2.2.2.1, IN_f fL fM2 rfl rfl rfl rfl p2.2.2.2.2.1, ME_f fL fM2 rfl rfl rfl rfl p2.2.2.2.2.2.1, PA_f fL fM2 rfl rfl rfl rfl p2.2.2.2.2.2.2⟩ (NDR_f fL fM2 rfl rfl rfl rfl p3) ((fr1 fM2 64 rfl).trans p6) rfl (by omega) (by omega) (by omega) (by omega) (fun x hx hn => by omega) (fun q => by omega) (fun x hx => by rw [l35, upI_n hx]) (fun x hx => by rw [l36, upI_n hx, upI_n hx]) (by rw [l36, upI_s]; omega) l37 (fun x hx => by rw [l26, upI_n hx]) (by rw [l26, upI_s]) (fun x hx => by rw [l30, upI_n hx]) (by rw [l30, upI_s]) (fr2 fL 33 rfl) (fr2 fL 34 rfl) m24 (fun x hx => by rw [m37, upI_n hx]) (fun x hx => by rw [m38, upI_n hx]) (by rw [m38, upI_s]) ((fr2 e3 39 rfl).trans n39) (fun e he => by rw [m41, upI_n he]) (by rw [m41, upI_s]) (fun e he => by rw [m42, upI_n he]) (by rw [m42, upI_s]) (fr2 fM2 44 rfl) (fr2 fM2 45 rfl)
                  · unfold CNq CNx
                    rw [fr1 fL 214 rfl, fr1 fL 215 rfl, fr1 fL 216 rfl, fr1 fL 217 rfl, fr1 fL 219 rfl, l221, l222, fr1 fL 223 rfl, m13, fr1 fM2 19 rfl, fr1 fM2 20 rfl, fr1 fM2 21 rfl, fr1 fM2 22 rfl, m23, m24, fr1 fM2 25 rfl, fr1 fM2 26 rfl]
                    exact ⟨⟨c1, c2, c3, c4, c5, rfl, rfl, c8⟩, r1, r2, r3, r4, by omega, by omega, r7, r8, by omega⟩
                  · unfold NC
                    rw [m13, m16, m17, fr1 fM2 19 rfl, fr1 fM2 20 rfl, fr1 fM2 21 rfl, fr1 fM2 22 rfl, m23, fr1 fM2 25 rfl, fr1 fM2 26 rfl]
                    exact NCx_up p2.2.1 (by omega) (by omega) (by omega) (by omega) (by omega) (by omega) (by omega) (by omega)
                exact sttail_s hB (by rw [m41, upI_s]) (by rw [m42, upI_s]) (by omega)
              exact fin main y z hy hz
          · rw [if_neg t1] at hz
            refine bad _ _ (st76_x (Or.inr (Or.inr ⟨f, hfd, there t1⟩))) ?_ y z hy hz
            unfold rfl_takeState_113 rfl_takeState_133
            rw [if_neg t1]
            exact RP_ite (fun _ => RP_bnd (wrong_1 (by decide)) (r140 _ _)) (fun _ => RP_bnd (wrong_1 (by decide)) (r140 _ _))
  · unfold kfl_rd_state_42
    rw [if_pos (by decide)]
    exact bad _ _ (st76_x (Or.inl (by rw [hX.1]; exact g1'))) (RP_bnd (bad_1 M1) (fun z hz => RP_some hz))
end ST7
