/-! ===== tables: the default ===== -/
section DE6
variable {K M : mR} {t : Int}
def dlI (x : Int) (K0 M0 : mR) (s : Int × Int × Int × mR) (w : Int × Int × mR) : Prop := LR s.2.2.2 w.2.2 ∧ s.1 = w.1 ∧ s.2.2.1 = w.1 ∧ 0 ≤ w.1 ∧ w.1 ≤ w.2.2.1 8 ∧ s.2.1 = w.2.1 ∧ (w.2.1 = 0 ∨ w.2.1 = 1) ∧ fr kF_tx_expect [84] K0 s.2.2.2 ∧ fr rF_next [115] M0 w.2.2 ∧ x ≤ w.2.2.1 8
def dlE (x : Int) (K0 M0 : mR) (u : Sum (Int × mR) (Int × mR)) (w : Int × mR) : Prop := (∃ n K, u = Sum.inl (n, K) ∧ w.1 = n ∧ LR K w.2 ∧ fr kF_tx_expect [84] K0 K ∧ fr rF_next [115] M0 w.2 ∧ x ≤ w.2.1 8) ∨ ((∃ e : Int × mR, u = Sum.inr e ∧ e.1 ≠ 0) ∧ 0 < w.2.1 10)
theorem data_s {a x wd pl pl2 : Int} {K0 M0 : mR} (hP : PA K0 M0) (a0 : 0 ≤ a) (a1 : a < M0.1 25) (a16 : M0.1 25 ≤ 16) (t0 : 0 ≤ t) (t8 : t < 8) (hwd : wd = K0.2 39 a) {s : Int × Int × Int × mR} {w : Int × Int × mR} (hI : dlI x K0 M0 s w) : RR (whl (kfb_rd_defaultLine_69 t pl a wd) s) (whl (rfb_takeElse_51 t pl2 a) w) (dlE x K0 M0) := by
  refine RR_whl2 (I := dlI x K0 M0) (fun s w hI => ?_) hI
  obtain ⟨g, more, i, K⟩ := s
  obtain ⟨n, more', M⟩ := w
  obtain ⟨hL, hg, hi, n0, n8, hm, hm2, fK, fM, hx⟩ := hI
  have hL : LR K M := hL
  have hg : g = n := hg
  have hi : i = n := hi
  have n0 : 0 ≤ n := n0
  have n8 : n ≤ M.1 8 := n8
  have hm : more = more' := hm
  have hm2 : more' = 0 ∨ more' = 1 := hm2
  have fK : fr kF_tx_expect [84] K0 K := fK
  have fM : fr rF_next [115] M0 M := fM
  have hx : x ≤ M.1 8 := hx
  have hf := hL.2.2.2.2
  have b4 := hL.1.1.2.1
  have b6 := hL.2.1.2.2.2.2.1
  obtain ⟨p1, p2, p3, p4, p5⟩ := hP a a0 a1
  have deadw : ∀ (z : Int × Int × mR), 0 < z.2.2.1 10 → RP (whl (rfb_takeElse_51 t pl2 a) z) (fun w => 0 < w.2.1 10) := fun z hz => RP_w (uw_rfb_takeElse_51 t pl2 a z) (fun v hv => hv.2 hz)
  unfold kfb_rd_defaultLine_69 rfb_takeElse_51
  show RR (if (4000 : Int) < i then some (Sum.inr (Sum.inl (g, K))) else if more = 0 then some (Sum.inr (Sum.inl (g, K))) else if wd ≤ g then kfl_rd_defaultLine_94 t pl a wd g i 0 K else kfl_rd_defaultLine_94 t pl a wd g i 1 K) (if more' = 0 then some (Sum.inr (n, M)) else if M.1 10 = 0 then if M.2 46 a ≤ n then rfl_takeElse_91 t pl2 a n 64 M else rfl_takeElse_91 t pl2 a n (M.2 49 (cut (cut (4 * a) + n))) M else some (Sum.inr (n, M))) _
  rw [if_neg (show ¬ (4000 : Int) < i by omega), hm]
  rcases hm2 with m0 | m1
  · rw [if_pos m0, if_pos m0]
    exact RR_some (Or.inr (Or.inl ⟨_, _, rfl, rfl, Or.inl ⟨g, K, rfl, hg.symm, hL, fK, fM, hx⟩⟩))
  · rw [if_neg (show ¬ more' = 0 by omega), if_neg (show ¬ more' = 0 by omega), if_pos hf]
    subst hg
    have hi' : g = i := hi.symm
    subst hi'
    -- a number, then whether there is more
    have num : ∀ (u0 wd2 : Int) (v8 : Int), 1 ≤ wd2 → wd2 ≤ 64 → RR (kfl_rd_defaultLine_120 t pl a wd g g v8 wd2 K) (rfl_takeElse_91 t pl2 a g wd2 M) (fun u v => (∃ s' t', u = .inl s' ∧ v = .inl t' ∧ dlI x K0 M0 s' t') ∨ (∃ x' y, u = .inr x' ∧ v = .inr y ∧ dlE x K0 M0 x' y) ∨ (∃ x' t', u = .inr x' ∧ v = .inl t' ∧ RP (whl (rfb_takeElse_51 t pl2 a) t') (dlE x K0 M0 x')) ∨ (∃ s' y, u = .inl s' ∧ v = .inr y ∧ RP (whl (kfb_rd_defaultLine_69 t pl a wd) s') (fun x' => dlE x K0 M0 x' y))) := by
      intro u0 wd2 v8 hw0 hw1
      unfold kfl_rd_defaultLine_120 rfl_takeElse_91
      intro u v hu hv
      cases hk : kf_rd_fittingNumber wd2 K with
      | none => rw [hk] at hu; cases hu
      | some y =>
        cases hq : rf_caseNumber wd2 M with
        | none => rw [hq] at hv; cases hv
        | some z =>
          rw [hk, bnd_some] at hu
          rw [hq, bnd_some] at hv
          have f115 : ∀ m v4 u1 v, 0 < m.1 10 → rfl_takeElse_94 t pl2 a v4 u1 m = some v → ∃ q, v = Sum.inl q ∧ 0 < q.2.2.1 10 := by
            intro m v4 u1 v hm hv
            refine RP_e (P := fun v => ∃ q, v = Sum.inl q ∧ 0 < q.2.2.1 10) hv ?_
            unfold rfl_takeElse_94 rfl_takeElse_115 rfl_takeElse_138 rfl_takeElse_139 rfl_takeElse_150
            refine RP_ite (fun _ => ?_) (fun _ => ?_)
            · rw [if_neg (by omega), if_pos rfl]
              exact RP_some ⟨_, rfl, hm⟩
            · rw [if_neg (show ¬ (mO m [] [(115, upI (m.2 115) (cut ((cut (4 * t)) + v4)) u1)]).1 10 = 0 by show ¬ m.1 10 = 0; omega), if_pos rfl]
              exact RP_some ⟨_, rfl, hm⟩
          rcases fitn_s hL hw0 hw1 y z hk hq with ⟨q0, q1, q2, q3, q4, q5⟩ | ⟨q0, q1⟩
          · rw [if_pos q0] at hu
            have eL : ∃ L, (if v8 = 0 then kfl_rd_defaultLine_144 t pl a wd g g y.2.2 else kfl_rd_defaultLine_144 t pl a wd g g (mO y.2.2 [] [(84, upI (y.2.2.2 84) (65536 * t + g) y.2.1)])) = kfl_rd_defaultLine_144 t pl a wd g g L ∧ fr [] [84] y.2.2 L := by
              by_cases e : v8 = 0
              · rw [if_pos e]; exact ⟨_, rfl, fr_0⟩
              · rw [if_neg e]; exact ⟨_, rfl, fr_m fr_0 rfl rfl⟩
            obtain ⟨L, eL, fL⟩ := eL
            rw [eL] at hu
            have eN : ∃ N, rfl_takeElse_94 t pl2 a g z.1 z.2 = rfl_takeElse_115 t pl2 a g N ∧ fr [] [115] z.2 N := by
              unfold rfl_takeElse_94
              by_cases e : (4 : Int) ≤ g
              · rw [if_pos e]; exact ⟨_, rfl, fr_0⟩
              · rw [if_neg e]; exact ⟨_, rfl, fr_m fr_0 rfl rfl⟩
            obtain ⟨N, eN, fN⟩ := eN
            rw [eN] at hv
            have hLN : LR L N := LR_g q2 fL fN rfl rfl rfl rfl ((fr1 fL 213 rfl).trans q2.2.2.2.1) ((fr1 fN 10 rfl).trans q2.2.2.2.2)
            have gK : fr kF_tx_expect [84] K0 L := fr_s fL (fr_s q3 fK rfl rfl) rfl rfl
            have gM : fr rF_next [115] M0 N := fr_s fN (fr_s q4 fM rfl rfl) rfl rfl
            have n9 : N.1 8 = z.2.1 8 := fr1 fN 8 rfl
            have hX := hLN.2.1
            unfold kfl_rd_defaultLine_144 kf_rd_goesOnList at hu
            unfold rfl_takeElse_115 rfl_takeElse_138 rfl_takeElse_139 rfl_takeElse_150 at hv
            rw [hX.1, cut_i (z := g + 1) (by omega) (by omega)] at hu
            rw [if_pos hLN.2.2.2.2, cut_i (z := g + 1) (by omega) (by omega)] at hv
            by_cases w44 : N.1 7 = 44
            · rw [if_pos ((wm_big hX.2.1 (by omega)).mpr w44), bnd_a] at hu
              rw [if_pos w44, if_neg (by decide)] at hv
              cases hk2 : kf_tx_advance L with
              | none => rw [hk2] at hu; cases hu
              | some c =>
                cases hq2 : rf_next N with
                | none => rw [hq2] at hv; cases hv
                | some e =>
                  rw [hk2, bnd_some] at hu
                  rw [hq2, bnd_some] at hv
                  cases hv
                  rcases adv_s hLN (by omega) c e hk2 hq2 with ⟨b1, b2, b3, b4, b5⟩ | ⟨b1, b2⟩
                  · rw [if_pos b1, bnd_some, if_pos rfl] at hu
                    cases hu
                    exact Or.inl ⟨_, _, rfl, rfl, b2, rfl, rfl, by show 0 ≤ g + 1; omega, by show g + 1 ≤ e.2.1 8; omega, rfl, Or.inr rfl, fr_s b3 gK rfl rfl, fr_s b4 gM rfl rfl, by show x ≤ e.2.1 8; omega⟩
                  · rw [if_neg b1, bnd_some, if_neg b1] at hu
                    cases hu
                    exact Or.inr (Or.inr (Or.inl ⟨_, _, rfl, rfl, RP_w (deadw (g + 1, 1, e.2) b2) (fun w hw => Or.inr ⟨⟨_, rfl, b1⟩, hw⟩)⟩))
            · rw [if_neg (fun q => w44 ((wm_big hX.2.1 (by omega)).mp q)), bnd_some, if_pos rfl] at hu
              rw [if_neg w44, if_pos rfl] at hv
              cases hu
              cases hv
              exact Or.inl ⟨_, _, rfl, rfl, hLN, rfl, rfl, by show 0 ≤ g + 1; omega, by show g + 1 ≤ N.1 8; omega, rfl, Or.inl rfl, gK, gM, by show x ≤ N.1 8; omega⟩
          · rw [if_neg q0] at hu
            cases hu
            obtain ⟨c, rfl, hc⟩ := f115 z.2 g z.1 v q1 hv
            exact Or.inr (Or.inr (Or.inl ⟨_, _, rfl, rfl, RP_w (deadw c hc) (fun w hw => Or.inr ⟨⟨_, rfl, q0⟩, hw⟩)⟩))
    unfold kfl_rd_defaultLine_94
    have m46 : M.2 46 a = wd := by rw [fr2 fM 46 rfl, hwd]; exact p1.symm
    rw [m46]
    refine RR_ii Iff.rfl (fun h1 _ => ?_) (fun h1 _ => ?_)
    · rw [if_pos rfl]
      exact num 0 64 0 (by decide) (by decide)
    · have ec1 : cut (cut (a * 4) + g) = 4 * a + g := by rw [cut_i (z := a * 4) (by omega) (by omega), cut_i (z := a * 4 + g) (by omega) (by omega)]; omega
      have ec2 : cut (cut (4 * a) + g) = 4 * a + g := by rw [cut_i (z := 4 * a) (by omega) (by omega), cut_i (z := 4 * a + g) (by omega) (by omega)]
      rw [if_neg (by decide), ec1, ec2, fr2 fK 40 rfl, fr2 fM 49 rfl]
      obtain ⟨q1, q2, q3, -⟩ := p4 g n0 (by omega)
      rw [q1]
      exact num 0 _ 1 q2 q3
def TD (t : Int) (K M : mR) : Prop := TY t K M ∧ (K.2 74 t = M.2 57 t ∧ 0 ≤ M.2 57 t ∧ M.2 57 t < M.1 25)
theorem default_s {x : Int} (h : TY t K M) (hx : x ≤ M.1 8) : RR (kf_rd_defaultLine t K) (rfl_takeElse_7 t M) (GV (fun _ K2 _ M2 => TD t K2 M2 ∧ x ≤ M2.1 8)) := by
  have h0 := h
  obtain ⟨hXP, h64, ⟨t0, t1⟩, hTB, hTK, hTE, hTL⟩ := h
  have t8 := hXP.2.1.1.2.2.2.2.2.2.2.2.1
  have r7 := hXP.2.1.1.2.2.2.2.2.2.2.1
  have bad : ∀ (X : Option (Int × Int × mR)) (Y : Option (Int × mR)), RP X (fun y => y.1 ≠ 0) → RP Y (fun z => 0 < z.2.1 10) → RR X Y (GV (fun _ K2 _ M2 => TD t K2 M2 ∧ x ≤ M2.1 8)) := fun X Y h1 h2 => RR_w (RR_pr h1 h2) (fun _ _ q => Or.inr q)
  unfold kf_rd_defaultLine rfl_takeElse_7
  rw [show (309 : Int) = smp 6 from rfl]
  refine RR_sq (G := fun a K2 b M2 => (a = b ∧ ∃ k, 0 ≤ k ∧ k < M.1 13 ∧ M.2 16 k = 6 ∧ b = M.2 17 k) ∧ LR K2 M2 ∧ fr kF_tx_known kA_tx_known K K2 ∧ fr rF_oldName rA_oldName M M2 ∧ M.1 8 + 1 ≤ M2.1 8) (A := fun _ => True) (B := fun _ => True) (known_s hXP.1 (s := 6) (by omega) (by omega) (by omega)) (RP_T _) (RP_T _) (fun z hz => RP_w (u_rfl_takeElse_18 t _ z.1 z.2) (fun w hw => hw.2 hz)) (fun a K1 b M1 hG _ _ => ?_)
  obtain ⟨⟨ab, k, k0, k1, k2, k3⟩, g1, g2, g3, g4⟩ := hG
  subst ab
  have i0 := (hXP.1.2.2.1.2.2.1 k k0 k1).2.2.2.2.2.2.1
  have i1 := (hXP.2.1.2.1 k k0 k1).2.2.2.2.2.1 k2
  have hT1 : TY t K1 M1 := TY_f h0 g1 g2 g3 rfl rfl rfl rfl
  unfold rfl_takeElse_18
  dsimp only
  have hL1 : LR (mO K1 [] [(74, upI (K1.2 74) t a)]) M1 := g1
  refine RR_sq (G := fun _ K2 _ M2 => LR K2 M2 ∧ fr kF_tx_expect kA_tx_expect (mO K1 [] [(74, upI (K1.2 74) t a)]) K2 ∧ fr rF_need rA_need M1 M2 ∧ M1.1 8 + 1 ≤ M2.1 8) (A := fun _ => True) (B := fun _ => True) (exp_s hL1 (c := 40) (by omega)) (RP_T _) (RP_T _) (fun z hz => RP_w (u_rfl_takeElse_25 t _ _ z.2) (fun w hw => hw.2 hz)) (fun _ K2 _ M2 hG _ _ => ?_)
  obtain ⟨f1, f2, f3, f4⟩ := hG
  have hX2 := f1.2.1
  have fK2 : fr kF_tx_expect [74] K1 K2 := fr_s f2 (fr_m fr_0 rfl rfl) rfl rfl
  have hP2 : PA K2 M2 := PA_f fK2 f3 rfl rfl rfl rfl hT1.1.2.1.2.2.2.2.2.2
  unfold rfl_takeElse_25 rfl_takeElse_48
  dsimp only
  rw [if_pos f1.2.2.2.2, hX2.1]
  have m25 : M2.1 25 = M.1 25 := (fr1 f3 25 rfl).trans (fr1 g3 25 rfl)
  have go : ∀ more : Int, (more = 0 ∨ more = 1) → RR (kfl_rd_defaultLine_64 t (K.1 207) a (K2.2 39 a) 0 more K2) (rfl_takeElse_49 t (M.1 8) a 0 more M2) (GV (fun _ K2 _ M2 => TD t K2 M2 ∧ x ≤ M2.1 8)) := by
    intro more hm
    unfold kfl_rd_defaultLine_64 rfl_takeElse_49
    have m8 : 0 ≤ M2.1 8 := hX2.2.2.2.1
    refine RR_bnd (data_s (t := t) (x := x) (a := a) (K0 := K2) (M0 := M2) hP2 (by omega) (by omega) (by omega) t0 (by omega) rfl (s := (0, more, 0, K2)) (w := (0, more, M2)) ⟨f1, rfl, rfl, (show (0 : Int) ≤ 0 by decide), by show (0 : Int) ≤ M2.1 8; omega, rfl, hm, fr_0, fr_0, by show x ≤ M2.1 8; omega⟩) (fun u e hE => ?_)
    rcases hE with ⟨n, K4, rfl, e1, e2, e3, e4, e5⟩ | ⟨⟨c, rfl, hc⟩, e2⟩
    · show RR (kfl_rd_defaultLine_159 (K.1 207) (K2.2 39 a) n K4) (rfl_takeElse_153 t (M.1 8) a e.1 e.2) _
      unfold kfl_rd_defaultLine_159 rfl_takeElse_153
      have hX4 := e2.2.1
      rw [if_pos e2.2.2.2.2, hX4.1, e1]
      have m46 : e.2.2 46 a = K2.2 39 a := by
        rw [fr2 e4 46 rfl]
        exact (hP2 a (by omega) (by omega)).1.symm
      rw [m46]
      have fKe : fr kF_tx_expect [74, 84] K1 K4 := fr_s e3 (fr_s fK2 fr_0 rfl rfl) rfl rfl
      have fMe : fr rF_next [115] M1 e.2 := fr_s e4 (fr_s f3 fr_0 rfl rfl) rfl rfl
      have fin : RR (kfl_rd_defaultLine_188 K4) (rfl_takeElse_187 t a e.2) (GV (fun _ K2 _ M2 => TD t K2 M2 ∧ x ≤ M2.1 8)) := by
        unfold kfl_rd_defaultLine_188 rfl_takeElse_187
        refine RR_sq (G := fun _ K5 _ M5 => LR K5 M5 ∧ fr kF_tx_expect kA_tx_expect K4 K5 ∧ fr rF_need rA_need e.2 M5 ∧ e.2.1 8 + 1 ≤ M5.1 8) (A := fun _ => True) (B := fun _ => True) (exp_s e2 (c := 41) (by omega)) (RP_T _) (RP_T _) (fun z hz => RP_w (u_rfl_takeElse_193 t a z.2) (fun w hw => hw.2 hz)) (fun _ K5 _ M5 hG _ _ => ?_)
        obtain ⟨d1, d2, d3, d4⟩ := hG
        unfold rfl_takeElse_193
        dsimp only
        refine RR_sq (G := fun _ K6 _ M6 => LR K6 M6 ∧ fr kF_tx_expect kA_tx_expect K5 K6 ∧ fr rF_need rA_need M5 M6 ∧ M5.1 8 + 1 ≤ M6.1 8) (A := fun _ => True) (B := fun _ => True) (exp_s d1 (c := 59) (by omega)) (RP_T _) (RP_T _) (fun z hz => RP_w (u_rfl_takeElse_199 t a z.2) (fun w hw => hw.2 hz)) (fun _ K6 _ M6 hG _ _ => ?_)
        obtain ⟨l1, l2, l3, l4⟩ := hG
        unfold rfl_takeElse_199
        dsimp only
        have gK : fr kF_tx_expect [74, 84] K1 K6 := fr_s l2 (fr_s d2 (fr_s fKe fr_0 rfl rfl) rfl rfl) rfl rfl
        have gM : fr rF_next [57, 115] M1 (mO M6 [] [(57, upI (M6.2 57) t a)]) := fr_m (fr_s l3 (fr_s d3 (fr_s fMe fr_0 rfl rfl) rfl rfl) rfl rfl) rfl rfl
        have k74 : K6.2 74 = upI (K1.2 74) t a := (fr2 l2 74 rfl).trans ((fr2 d2 74 rfl).trans ((fr2 e3 74 rfl).trans (fr2 f2 74 rfl)))
        have m57 : M6.2 57 = M1.2 57 := (fr2 l3 57 rfl).trans ((fr2 d3 57 rfl).trans (fr2 fMe 57 rfl))
        have hL6 : LR K6 (mO M6 [] [(57, upI (M6.2 57) t a)]) := l1
        obtain ⟨u1, u2, u3, u4, u5, u6, u7⟩ := hT1
        refine RR_some (Or.inl ⟨rfl, ⟨⟨XP_f u1 hL6 gK gM rfl rfl rfl rfl, (fr1 gM 64 rfl).trans u2, by rw [fr1 gM 26 rfl]; exact u3, fun b b0 b1 => ?_, TK_f u5 gK gM rfl rfl, TE_f u6 gM rfl, ?_⟩, ?_, ?_, ?_⟩, by show x ≤ M6.1 8; omega⟩)
        · rw [fr1 gM 25 rfl]
          refine TB1_c (u4 b b0 b1) ⟨⟨?_, ?_, ?_, ?_, ?_, ?_⟩, fun j j0 j1 => ⟨?_, ?_, ?_, ?_, ?_⟩, ⟨?_, ?_, ?_, ?_, ?_, ?_, ?_, ?_⟩, fun j j0 j1 => ⟨?_, ?_, ?_, ?_⟩, fun j j0 j1 => ?_⟩
          · rw [fr2 gK 72 rfl]
          · rw [fr2 gK 73 rfl]
          · rw [k74, upI_n (by omega)]
          · rw [fr2 gK 75 rfl]
          · rw [fr2 gK 76 rfl]
          · rw [fr2 gK 77 rfl]
          · rw [fr2 gK 79 rfl]
          · rw [fr2 gK 80 rfl]
          · rw [fr2 gK 81 rfl]
          · rw [fr2 gK 82 rfl]
          · rw [fr2 gK 83 rfl]
          · rw [fr2 gM 51 rfl]
          · rw [fr2 gM 52 rfl]
          · rw [fr2 gM 53 rfl]
          · rw [fr2 gM 54 rfl]
          · rw [fr2 gM 55 rfl]
          · rw [fr2 gM 56 rfl]
          · show upI (M6.2 57) t a b = _
            rw [m57, upI_n (by omega)]
          · rw [fr2 gM 58 rfl]
          · rw [fr2 gM 110 rfl]
          · rw [fr2 gM 111 rfl]
          · rw [fr2 gM 112 rfl]
          · rw [fr2 gM 113 rfl]
          · rw [fr2 gM 114 rfl]
        · rw [fr1 gM 25 rfl]
          exact TL_f u7 gK gM rfl rfl
        · show K6.2 74 t = upI (M6.2 57) t a t
          rw [k74, upI_s, upI_s]
        · show 0 ≤ upI (M6.2 57) t a t
          rw [upI_s]; omega
        · show upI (M6.2 57) t a t < M6.1 25
          have q : M6.1 25 = M1.1 25 := fr1 gM 25 rfl
          rw [upI_s, q, fr1 g3 25 rfl]; omega
      refine RR_ii (wm_big hX4.2.1 (by omega)) (fun _ _ => ?_) (fun _ _ => fin)
      refine RR_ii Iff.rfl (fun _ _ => fin) (fun _ _ => ?_)
      exact bad _ _ (thr_l (A := fun y11 => kfl_rd_defaultLine_188 y11.2.2) (fail_1 _ _ _)) (RP_bnd (wrong_1 (by decide)) (fun z hz => RP_w (u_rfl_takeElse_187 t a z.2) (fun w hw => hw.2 hz)))
    · exact bad _ _ (RP_some hc) (RP_w (u_rfl_takeElse_153 t (M.1 8) a e.1 e.2) (fun w hw => hw.2 e2))
  exact RR_ii (wm_big hX2.2.1 (by omega)) (fun _ _ => go 0 (Or.inl rfl)) (fun _ _ => go 1 (Or.inr rfl))
end DE6
