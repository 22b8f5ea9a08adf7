/-! ===== states ===== -/
def GL (n a b : Int) : Prop := (0 ≤ b ∧ b < n ∧ a = b) ∨ ((b = -1 ∨ b = -2) ∧ a = 15 - b)
theorem GL_m {n n' a b : Int} (h : GL n a b) (hn : n ≤ n') : GL n' a b := by
  rcases h with ⟨h1, h2, h3⟩ | h
  · exact Or.inl ⟨h1, by omega, h3⟩
  · exact Or.inr h
def SOx (K26 : Int → Int) (K30 : Int → Int) (K35 : Int → Int) (K36 : Int → Int) (K37 : Int → Int) (m23 : Int) (m24 : Int) (M37 : Int → Int) (M38 : Int → Int) (M39 : Int → Int) : Prop := (∀ s, 0 ≤ s → s < m23 → (K36 s = -1 ∧ M38 s < 0 ∧ K26 s = 0 ∧ K30 s = 0 ∧ 0 ≤ K35 s ∧ 0 ≤ M37 s) ∨ (0 ≤ K36 s ∧ 0 ≤ M38 s ∧ M38 s < m24 ∧ M39 (M38 s) = s)) ∧ ∀ d, 0 ≤ d → d < m24 → 0 ≤ M39 d ∧ M39 d < m23 ∧ M38 (M39 d) = d ∧ K37 d = M39 d
def SO (K M : mR) : Prop := SOx (K.2 26) (K.2 30) (K.2 35) (K.2 36) (K.2 37) (M.1 23) (M.1 24) (M.2 37) (M.2 38) (M.2 39)
theorem SO_f {F A G B : List Nat} {K M K' M' : mR} (hK : fr F A K K') (hM : fr G B M M') (c1 : chk [] F = true) (c2 : chk [26, 30, 35, 36, 37] A = true) (c3 : chk [23, 24] G = true) (c4 : chk [37, 38, 39] B = true) (h : SO K M) : SO K' M' := by
  unfold SO
  rw [fr2 hK 26 (chk_1 c2 (by decide)), fr2 hK 30 (chk_1 c2 (by decide)), fr2 hK 35 (chk_1 c2 (by decide)), fr2 hK 36 (chk_1 c2 (by decide)), fr2 hK 37 (chk_1 c2 (by decide)), fr1 hM 23 (chk_1 c3 (by decide)), fr1 hM 24 (chk_1 c3 (by decide)), fr2 hM 37 (chk_1 c4 (by decide)), fr2 hM 38 (chk_1 c4 (by decide)), fr2 hM 39 (chk_1 c4 (by decide))]
  exact h
def SGd (n d : Int) (K M : mR) : Prop := ∀ e, 0 ≤ e → e < d → 0 ≤ M.2 39 e ∧ M.2 39 e < n ∧ K.2 26 (M.2 39 e) = M.2 41 e ∧ (0 ≤ M.2 41 e ∧ M.2 41 e ≤ 6) ∧ GL n (K.2 34 (M.2 39 e)) (M.2 44 e) ∧ K.2 30 (M.2 39 e) = M.2 42 e ∧ (0 ≤ M.2 42 e ∧ M.2 42 e ≤ 8) ∧ ∀ i, 0 ≤ i → i < M.2 42 e → GL n (K.2 33 (8 * M.2 39 e + i)) (M.2 45 (8 * e + i))
section STA
variable {K M : mR}
/-- a name that isn't there is entered by both; then the next word -/
theorem newst_s {M2 : mR} {G C : List Nat} {s n : Int} (h : LR K M) (h1 : M.1 7 = 1) (hf1 : kf_tx_find K = some (-1)) (hs : 1 ≤ s ∧ s ≤ 7) (n0 : 0 ≤ n) (n1 : n < 16) (hr : M.1 13 < 85) (fM : fr G C M M2) (c3 : chk [6, 7, 8, 9, 10, 12] G = true) (c4 : chk [0, 4, 18] C = true) (e13 : M2.1 13 = M.1 13 + 1) (e14 : M2.2 14 = upI (M.2 14) (M.1 13) (M.1 8)) (e15 : M2.2 15 = upI (M.2 15) (M.1 13) (M.1 9)) (e16 : M2.2 16 = upI (M.2 16) (M.1 13) s) (e17 : M2.2 17 = upI (M.2 17) (M.1 13) n) : RR (kf_tx_makeNew (smp s) n 16 K) (rf_next M2) (fun y z => (y.1 = 0 ∧ (LR y.2.2 z.2 ∧ fr kF_tx_makeNew kA_tx_makeNew K y.2.2 ∧ fr rF_next rA_next M2 z.2 ∧ M.1 8 + 1 ≤ z.2.1 8)) ∨ (y.1 ≠ 0 ∧ 0 < z.2.1 10)) := by
  have hX := h.2.1
  have hc : K.1 203 = M.1 13 + 5 := h.2.2.1.2.1
  have m0 := h.2.2.1.1.1
  have hno : ∀ i, 0 ≤ i → i < K.1 203 → ¬ (K.2 6 i = K.1 209 ∧ K.2 7 i = K.1 210) := by
    rcases find_k (K := K) (by omega) (by omega) (-1) hf1 with q | q
    · omega
    · exact q.2
  have hN := NMR_new (n := n) h h1 hs (by omega) hr hno
  have e7 : M2.1 7 = M.1 7 := fr1 fM 7 (chk_1 c3 (by decide))
  have e8 : M2.1 8 = M.1 8 := fr1 fM 8 (chk_1 c3 (by decide))
  have hL : LR (mO K [(203, K.1 203 + 1)] [(6, upI (K.2 6) (K.1 203) (K.1 209)), (7, upI (K.2 7) (K.1 203) (K.1 210)), (8, upI (K.2 8) (K.1 203) (smp s)), (9, upI (K.2 9) (K.1 203) n)]) M2 := by
    refine ⟨LT_c h.1 rfl rfl rfl (fr1 fM 6 (chk_1 c3 (by decide))) (fr2 fM 4 (chk_1 c4 (by decide))) (fr2 fM 0 (chk_1 c4 (by decide))), ?_, NMR_c hN rfl rfl rfl rfl rfl e13 (fr1 fM 6 (chk_1 c3 (by decide))) (fr2 fM 4 (chk_1 c4 (by decide))) e14 e15 e16 e17 (fr2 fM 18 (chk_1 c4 (by decide))), h.2.2.2.1, (fr1 fM 10 (chk_1 c3 (by decide))).trans h.2.2.2.2⟩
    unfold LX
    rw [fr1 fM 6 (chk_1 c3 (by decide)), e7, e8, fr1 fM 9 (chk_1 c3 (by decide)), fr1 fM 12 (chk_1 c3 (by decide)), fr2 fM 4 (chk_1 c4 (by decide))]
    exact hX
  unfold kf_tx_makeNew kfl_tx_makeNew_14 kfl_tx_makeNew_28 kfl_tx_makeNew_45 kf_tx_makeName
  rw [hX.1, if_pos ((wm_256 hX.2.1).mpr h1), if_pos n1, hf1, bnd_some, if_pos rfl, if_neg (show ¬ (90 : Int) ≤ K.1 203 by omega), bnd_some, cut_i (by omega) (by omega)]
  intro y z hy hz
  cases hk : kf_tx_advance (mO K [(203, K.1 203 + 1)] [(6, upI (K.2 6) (K.1 203) (K.1 209)), (7, upI (K.2 7) (K.1 203) (K.1 210)), (8, upI (K.2 8) (K.1 203) (smp s)), (9, upI (K.2 9) (K.1 203) n)]) with
  | none => rw [hk] at hy; cases hy
  | some x =>
    rw [hk, bnd_some] at hy
    rcases adv_s hL (by omega) x z hk hz with ⟨a1, a2, a3, a4, a5⟩ | ⟨a1, a2⟩
    · rw [if_pos a1] at hy
      cases hy
      exact Or.inl ⟨rfl, a2, fr_s a3 (fr_m fr_0 rfl rfl) rfl rfl, a4, by omega⟩
    · rw [if_neg a1] at hy
      cases hy
      exact Or.inr ⟨a1, a2⟩
/-- the state that the word at hand names -/
theorem idx5 (h : LR K M) (hN : NC K M) (h1 : M.1 7 = 1) {i t v : Int} (hi : kf_tx_indexOf 304 K = some i) (ht : rf_sortHere M = some t) (hv : rf_whichHere M = some v) (t5 : t = 5) : GL (M.1 23) i v := by
  have n0 := h.2.2.1.1.1
  have n1 := h.2.2.1.1.2.1
  have hc : K.1 203 = M.1 13 + 5 := h.2.2.1.2.1
  unfold kf_tx_indexOf kfl_tx_indexOf_30 at hi
  cases hf : kf_tx_find K with
  | none => rw [hf] at hi; cases hi
  | some f =>
    rw [hf, bnd_some] at hi
    have a := find_k (K := K) (by omega) (by omega) f hf
    obtain ⟨g, k, b1, b2, b3⟩ := sort_r h.1.1 h.2.2.1.1 h.2.2.1.2.2.2.2.2 (LR_8 h h1) t ht
    have q := sort_of h (fnd h h1 a b1 b2)
    rw [← b3] at q
    rcases q with ⟨q1, q2⟩ | ⟨q1, q2, q3, q4, q5⟩
    · omega
    · rw [if_neg (by omega), q2, if_pos (by rw [t5]; rfl)] at hi
      cases hi
      obtain ⟨g', k', d1, d2, d3⟩ := which_r h.1.1 h.2.2.1.1 h.2.2.1.2.2.2.2.2 (LR_8 h h1) v hv
      have eg := isGH_u d1 b1
      subst eg
      rcases q5 with ⟨c1, c2, c3, c4, c5, c6⟩ | ⟨c1, c2, c3, c4, c5⟩ | ⟨c1, c2, c3, c4, c5⟩
      · have ek := isFH_u (d2 (by omega)) (b2 (by omega))
        subst ek
        have hr := (h.2.2.1.2.2.1 k' c2 c3).2.2.2.2.2.2.1
        have hb := (hN k' c2 c3).2.2.2.2.1 (by omega)
        exact Or.inl ⟨by omega, by omega, by omega⟩
      · omega
      · have : whichV (M.2 17) g' k' = 2 - g' := by
          unfold whichV
          rw [if_pos (by omega), if_neg (by omega)]
          split <;> omega
        exact Or.inr ⟨by omega, by omega⟩
/-- what a state's name comes to -/
def GG (K M : mR) (a : Int) (K2 : mR) (b : Int) (M2 : mR) : Prop := LR K2 M2 ∧ BP K2 M2 ∧ SO K2 M2 ∧ GL (M2.1 23) a b ∧ M.1 23 ≤ M2.1 23 ∧ (∀ s, s < M.1 23 → K2.2 26 s = K.2 26 s ∧ K2.2 30 s = K.2 30 s) ∧ fr kF_rd_goal kA_rd_goal K K2 ∧ fr rF_stateHere rA_stateHere M M2 ∧ M.1 8 + 1 ≤ M2.1 8
theorem goal_s (h : LR K M) (hP : BP K M) (hO : SO K M) : RR (kf_rd_goal K) (rf_stateHere M) (GV (GG K M)) := by
  have hX := h.2.1
  have hf := h.2.2.2.2
  obtain ⟨⟨c1, c2, c3, c4, c5, c6, c7, c8⟩, r1, r2, r3, r4, r5, r6, r7, r8, hsum⟩ := id hP.1
  have bad : ∀ (X : Option (Int × Int × mR)) (Y : Option (Int × mR)), RP X (fun y => y.1 ≠ 0) → RP Y (fun z => 0 < z.2.1 10) → RR X Y (GV (GG K M)) := fun X Y h1 h2 => RR_w (RR_pr h1 h2) (fun _ _ q => Or.inr q)
  unfold kf_rd_goal rf_stateHere
  rw [if_pos (show M.1 10 ≤ 0 by omega), hX.1]
  refine RR_ii (wm_256 hX.2.1) (fun g1 w1 => ?_) (fun g1 w1 => ?_)
  · intro y z hy hz
    cases hfd : kf_tx_find K with
    | none => rw [hfd] at hy; cases hy
    | some f =>
      cases hss : rf_sortHere M with
      | none => rw [hss] at hz; cases hz
      | some t =>
        rw [hfd, bnd_some] at hy
        rw [hss, bnd_some] at hz
        obtain ⟨g, k, p1, p2⟩ := rr_sort h w1 f t hfd hss
        have q := sort_of h p1
        rw [← p2] at q
        rcases q with ⟨q1, q2⟩ | ⟨q1, q2, q3, q4, q5⟩
        · subst q1
          rw [if_pos rfl] at hy
          rw [if_neg (by omega), if_pos q2] at hz
          rw [c6] at hy
          by_cases hb : M.1 23 = 16
          · rw [if_pos hb] at hz
            rw [hb] at hy
            refine bad _ _ ?_ ?_ y z hy hz
            · refine thr_l (A := fun y9 => bnd (kf_ss_add (K.1 207) y9.2.2) fun y12 => some (0, y12.1, y12.2)) ?_
              unfold kf_tx_makeNew kfl_tx_makeNew_14
              rw [hX.1, if_pos ((wm_256 hX.2.1).mpr w1), if_neg (by decide)]
              exact thr_l (A := fun y15 => kfl_tx_makeNew_28 304 16 y15.2.2) (fail_1 _ _ _)
            · exact RP_bnd (wrong_1 (by decide)) (fun w hw => RP_w (u_rfl_stateHere_80 w.2) (fun v hv => hv.2 hw))
          · rw [if_neg hb] at hz
            unfold rfl_stateHere_80 rf_enter at hz
            rw [if_pos (show M.1 10 ≤ 0 by omega), bnd_some] at hz
            unfold rfl_stateHere_121 at hz
            have hz : bnd (rf_next (mO (mO (mO M [] [(37, upI (M.2 37) (M.1 23) (M.1 8)), (38, upI (M.2 38) (M.1 23) (-1))]) [(13, cut (M.1 13 + 1))] [(14, upI (M.2 14) (M.1 13) (M.1 8)), (15, upI (M.2 15) (M.1 13) (M.1 9)), (16, upI (M.2 16) (M.1 13) 5), (17, upI (M.2 17) (M.1 13) (M.1 23))]) [(23, cut (M.1 23 + 1))] [])) (fun y1 => rfl_stateHere_135 y1.2) = some z := hz
            rw [cut_i (z := M.1 13 + 1) (by omega) (by omega), cut_i (z := M.1 23 + 1) (by omega) (by omega)] at hz
            have fM : fr [13, 23] [14, 15, 16, 17, 37, 38] M (mO (mO (mO M [] [(37, upI (M.2 37) (M.1 23) (M.1 8)), (38, upI (M.2 38) (M.1 23) (-1))]) [(13, M.1 13 + 1)] [(14, upI (M.2 14) (M.1 13) (M.1 8)), (15, upI (M.2 15) (M.1 13) (M.1 9)), (16, upI (M.2 16) (M.1 13) 5), (17, upI (M.2 17) (M.1 13) (M.1 23))]) [(23, M.1 23 + 1)] []) := fr_m (fr_m (fr_m fr_0 rfl rfl) rfl rfl) rfl rfl
            cases hk : kf_tx_makeNew 304 (M.1 23) 16 K with
            | none => rw [hk] at hy; cases hy
            | some x =>
              cases hm : rf_next (mO (mO (mO M [] [(37, upI (M.2 37) (M.1 23) (M.1 8)), (38, upI (M.2 38) (M.1 23) (-1))]) [(13, M.1 13 + 1)] [(14, upI (M.2 14) (M.1 13) (M.1 8)), (15, upI (M.2 15) (M.1 13) (M.1 9)), (16, upI (M.2 16) (M.1 13) 5), (17, upI (M.2 17) (M.1 13) (M.1 23))]) [(23, M.1 23 + 1)] []) with
              | none => rw [hm] at hz; cases hz
              | some w =>
                rw [hk, bnd_some] at hy
                rw [hm, bnd_some] at hz
                unfold rfl_stateHere_135 at hz
                rcases newst_s (s := 5) h w1 hfd (by omega) (by omega) (by omega) (by omega) fM rfl rfl rfl rfl rfl rfl rfl x w hk hm with ⟨x1, x2, x3, x4, x5⟩ | ⟨x1, x2⟩
                · rw [if_pos x1] at hy
                  unfold kf_ss_add at hy
                  rw [bnd_some] at hy
                  have e221 : x.2.2.1 221 = M.1 23 := (fr1 x3 221 rfl).trans c6
                  have w23 : w.2.1 23 = M.1 23 + 1 := fr1 x4 23 rfl
                  rw [w23, cut_i (by omega) (by omega)] at hz
                  have hy : some (0, x.2.2.1 221, mO x.2.2 [(221, cut (x.2.2.1 221 + 1))] [(26, upI (x.2.2.2 26) (x.2.2.1 221) 0), (29, upI (x.2.2.2 29) (x.2.2.1 221) (-1)), (30, upI (x.2.2.2 30) (x.2.2.1 221) 0), (35, upI (x.2.2.2 35) (x.2.2.1 221) (K.1 207)), (36, upI (x.2.2.2 36) (x.2.2.1 221) (-1))]) = some y := hy
                  rw [e221, cut_i (by omega) (by omega)] at hy
                  cases hy
                  cases hz
                  have f9 : fr [221] [26, 29, 30, 35, 36] x.2.2 (mO x.2.2 [(221, M.1 23 + 1)] [(26, upI (x.2.2.2 26) (M.1 23) 0), (29, upI (x.2.2.2 29) (M.1 23) (-1)), (30, upI (x.2.2.2 30) (M.1 23) 0), (35, upI (x.2.2.2 35) (M.1 23) (K.1 207)), (36, upI (x.2.2.2 36) (M.1 23) (-1))]) := fr_m fr_0 rfl rfl
                  have fK2 : fr kF_rd_goal kA_rd_goal K (mO x.2.2 [(221, M.1 23 + 1)] [(26, upI (x.2.2.2 26) (M.1 23) 0), (29, upI (x.2.2.2 29) (M.1 23) (-1)), (30, upI (x.2.2.2 30) (M.1 23) 0), (35, upI (x.2.2.2 35) (M.1 23) (K.1 207)), (36, upI (x.2.2.2 36) (M.1 23) (-1))]) := fr_m (fr_s x3 fr_0 rfl rfl) rfl rfl
                  have fM2 : fr rF_stateHere rA_stateHere M w.2 := fr_s x4 (fr_s fM fr_0 rfl rfl) rfl rfl
                  have w13 : w.2.1 13 = M.1 13 + 1 := fr1 x4 13 rfl
                  have w16 : w.2.2 16 = upI (M.2 16) (M.1 13) 5 := fr2 x4 16 rfl
                  have w17 : w.2.2 17 = upI (M.2 17) (M.1 13) (M.1 23) := fr2 x4 17 rfl
                  have w38 : w.2.2 38 = upI (M.2 38) (M.1 23) (-1) := fr2 x4 38 rfl
                  have w37 : w.2.2 37 = upI (M.2 37) (M.1 23) (M.1 8) := fr2 x4 37 rfl
                  have k36 : (mO x.2.2 [(221, M.1 23 + 1)] [(26, upI (x.2.2.2 26) (M.1 23) 0), (29, upI (x.2.2.2 29) (M.1 23) (-1)), (30, upI (x.2.2.2 30) (M.1 23) 0), (35, upI (x.2.2.2 35) (M.1 23) (K.1 207)), (36, upI (x.2.2.2 36) (M.1 23) (-1))]).2 36 = upI (K.2 36) (M.1 23) (-1) := by
                    show upI (x.2.2.2 36) _ _ = _
                    rw [fr2 x3 36 rfl]
                  have k26 : (mO x.2.2 [(221, M.1 23 + 1)] [(26, upI (x.2.2.2 26) (M.1 23) 0), (29, upI (x.2.2.2 29) (M.1 23) (-1)), (30, upI (x.2.2.2 30) (M.1 23) 0), (35, upI (x.2.2.2 35) (M.1 23) (K.1 207)), (36, upI (x.2.2.2 36) (M.1 23) (-1))]).2 26 = upI (K.2 26) (M.1 23) 0 := by
                    show upI (x.2.2.2 26) _ _ = _
                    rw [fr2 x3 26 rfl]
                  have k30 : (mO x.2.2 [(221, M.1 23 + 1)] [(26, upI (x.2.2.2 26) (M.1 23) 0), (29, upI (x.2.2.2 29) (M.1 23) (-1)), (30, upI (x.2.2.2 30) (M.1 23) 0), (35, upI (x.2.2.2 35) (M.1 23) (K.1 207)), (36, upI (x.2.2.2 36) (M.1 23) (-1))]).2 30 = upI (K.2 30) (M.1 23) 0 := by
                    show upI (x.2.2.2 30) _ _ = _
                    rw [fr2 x3 30 rfl]
                  have k35 : (mO x.2.2 [(221, M.1 23 + 1)] [(26, upI (x.2.2.2 26) (M.1 23) 0), (29, upI (x.2.2.2 29) (M.1 23) (-1)), (30, upI (x.2.2.2 30) (M.1 23) 0), (35, upI (x.2.2.2 35) (M.1 23) (K.1 207)), (36, upI (x.2.2.2 36) (M.1 23) (-1))]).2 35 = upI (K.2 35) (M.1 23) (K.1 207) := by
                    show upI (x.2.2.2 35) _ _ = _
                    rw [fr2 x3 35 rfl]
                  refine Or.inl ⟨rfl, LR_g x2 f9 (G := []) (B := []) fr_0 rfl rfl rfl rfl x2.2.2.2.1 x2.2.2.2.2, ⟨?_, ?_, HD_f fK2 fM2 rfl rfl rfl rfl hP.2.2.1, HU_f fK2 fM2 rfl rfl rfl rfl hP.2.2.2.1, IN_f fK2 fM2 rfl rfl rfl rfl hP.2.2.2.2.1, ME_f fK2 fM2 rfl rfl rfl rfl hP.2.2.2.2.2.1, PA_f fK2 fM2 rfl rfl rfl rfl hP.2.2.2.2.2.2⟩, ?_, ?_, by show M.1 23 ≤ w.2.1 23; omega, fun s hs => ⟨?_, ?_⟩, fK2, fM2, x5⟩
                  · unfold CNq CNx
                    rw [fr1 fK2 214 rfl, fr1 fK2 215 rfl, fr1 fK2 216 rfl, fr1 fK2 217 rfl, fr1 fK2 219 rfl, fr1 fK2 222 rfl, fr1 fK2 223 rfl, w13, fr1 fM2 19 rfl, fr1 fM2 20 rfl, fr1 fM2 21 rfl, fr1 fM2 22 rfl, w23, fr1 fM2 24 rfl, fr1 fM2 25 rfl, fr1 fM2 26 rfl]
                    exact ⟨⟨c1, c2, c3, c4, c5, rfl, c7, c8⟩, r1, r2, r3, r4, by omega, by omega, r7, r8, by omega⟩
                  · unfold NC
                    rw [w13, w16, w17, fr1 fM2 19 rfl, fr1 fM2 20 rfl, fr1 fM2 21 rfl, fr1 fM2 22 rfl, w23, fr1 fM2 25 rfl, fr1 fM2 26 rfl]
                    exact NCx_up hP.2.1 (by omega) (by omega) (by omega) (by omega) (by omega) (by omega) (by omega) (by omega)
                  · unfold SO
                    rw [k26, k30, k35, k36, fr2 fK2 37 rfl, w23, fr1 fM2 24 rfl, w37, w38, fr2 fM2 39 rfl]
                    refine ⟨fun s s0 s1 => ?_, fun d d0 d1 => ?_⟩
                    · by_cases e : s = M.1 23
                      · rw [e, upI_s, upI_s, upI_s, upI_s, upI_s, upI_s]
                        exact Or.inl ⟨rfl, by decide, rfl, rfl, by rw [hX.2.2.1]; exact hX.2.2.2.1, hX.2.2.2.1⟩
                      · rw [upI_n e, upI_n e, upI_n e, upI_n e, upI_n e, upI_n e]
                        exact hO.1 s s0 (by omega)
                    · obtain ⟨d2, d3, d4, d5⟩ := hO.2 d d0 d1
                      rw [upI_n (by omega)]
                      exact ⟨d2, by omega, d4, d5⟩
                  · exact Or.inl ⟨by show 0 ≤ M.1 23 + 1 - 1; omega, by show M.1 23 + 1 - 1 < w.2.1 23; omega, by show M.1 23 = M.1 23 + 1 - 1; omega⟩
                  · show upI (x.2.2.2 26) (M.1 23) 0 s = _
                    rw [upI_n (by omega), fr2 x3 26 rfl]
                  · show upI (x.2.2.2 30) (M.1 23) 0 s = _
                    rw [upI_n (by omega), fr2 x3 30 rfl]
                · rw [if_neg x1] at hy
                  cases hy
                  cases hz
                  exact Or.inr ⟨x1, x2⟩
        · rw [if_neg (by omega)] at hy
          unfold kfl_rd_goal_24 kf_tx_known kfl_tx_known_14 at hy
          rw [hX.1, if_pos ((wm_256 hX.2.1).mpr w1), bnd_a] at hy
          cases hi : kf_tx_indexOf 304 K with
          | none => rw [hi] at hy; cases hy
          | some i =>
            rw [hi, bnd_some] at hy
            rcases rr_idx h w1 (s := 5) (by omega) i t hi hss with ⟨t1, t2, t3, t4⟩ | ⟨t1, t2⟩
            · rw [if_neg (by omega)] at hy
              rw [if_pos t1] at hz
              unfold kfl_tx_known_35 at hy
              cases hv : rf_whichHere M with
              | none => rw [hv] at hz; cases hz
              | some v =>
                rw [hv, bnd_some] at hz
                cases hk : kf_tx_advance K with
                | none => rw [hk] at hy; cases hy
                | some x =>
                  cases hm : rf_next M with
                  | none => rw [hm] at hz; cases hz
                  | some w =>
                    rw [hk, bnd_some] at hy
                    rw [hm, bnd_some] at hz
                    cases hz
                    rcases adv_s h (by omega) x w hk hm with ⟨a1, a2, a3, a4, a5⟩ | ⟨a1, a2⟩
                    · rw [if_pos a1, bnd_some, if_pos rfl] at hy
                      cases hy
                      have e23 : w.2.1 23 = M.1 23 := fr1 a4 23 rfl
                      refine Or.inl ⟨rfl, a2, BP_f a3 a4 rfl rfl rfl rfl hP, SO_f a3 a4 rfl rfl rfl rfl hO, ?_, by show M.1 23 ≤ w.2.1 23; omega, fun s _ => ⟨by rw [fr2 a3 26 rfl], by rw [fr2 a3 30 rfl]⟩, fr_s a3 fr_0 rfl rfl, fr_s a4 fr_0 rfl rfl, a5⟩
                      show GL (w.2.1 23) i v
                      rw [e23]
                      exact idx5 h hP.2.1 w1 hi hss hv t1
                    · rw [if_neg a1, bnd_some, if_neg a1] at hy
                      cases hy
                      exact Or.inr ⟨a1, a2⟩
            · rw [if_pos t2] at hy
              rw [if_neg t1, if_neg (by omega)] at hz
              refine bad (bnd (bnd (kf_tx_fail 6 (K.1 207) K) fun y9 => if y9.1 = 0 then kfl_tx_known_35 i y9.2.2 else some (y9.1, 0, y9.2.2)) fun y1 => if y1.1 = 0 then some (0, y1.2.1, y1.2.2) else some (y1.1, 0, y1.2.2)) _ (thr_l (A := fun y1 => some (0, y1.2.1, y1.2.2)) (thr_l (A := fun y9 => kfl_tx_known_35 i y9.2.2) (fail_1 _ _ _))) ?_ y z hy hz
              exact RP_bnd (wrong_1 (by decide)) (fun w hw => RP_w (u_rfl_stateHere_80 w.2) (fun v hv => hv.2 hw))
  · unfold kfl_rd_goal_24 kf_tx_known
    rw [hX.1, if_neg g1]
    exact bad _ _ (thr_l (A := fun y1 => some (0, y1.2.1, y1.2.2)) (thr_l (A := fun y13 => kfl_tx_known_14 304 y13.2.2) (refuse_1 _))) (RP_bnd (bad_1 M) (fun z hz => RP_some hz))
end STA
