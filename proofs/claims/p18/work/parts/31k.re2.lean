/-! ===== EXPRs: a sign of two operands is closed ===== -/
section PAR
variable {K M : mR}
theorem WTS_dn {k n1 p1 B1 : Int} {n p B : Int} : ∀ (i j : Nat), WTS K M k n1 p1 B1 (j + i) n p B → (∀ x : Nat, j ≤ x → x < j + i → M.2 80 (9 * k + x) < 0) → WTS K M k n1 p1 B1 j n p B := by
  intro i
  induction i with
  | zero => intro j h _; exact h
  | succ i ih =>
    intro j h hx
    have h : WTS K M k n1 p1 B1 ((j + i) + 1) n p B := h
    rcases h with ⟨-, h⟩ | ⟨n0, p0, B0, o, -, -, -, -, e, -⟩
    · exact ih j h (fun x x0 x1 => hx x x0 (by omega))
    · have := hx (j + i) (by omega) (by omega)
      omega
/-- a CHOICE is on top -/
theorem STK_3 {t k n p B d : Int} (hs : STK K M t (k + 1) n p B d) (ht : 3 ≤ t) (hk : M.2 76 k = 0) : t = 3 ∧ ∃ t0 n0 p0 B0 d0 n1 p1 B1, d = d0 + 1 ∧ STK K M t0 k n0 p0 B0 d0 ∧ t0 < 3 ∧ STG K M k n0 p0 B0 n1 p1 B1 ∧ WTS K M k n1 p1 B1 9 n p B := by
  rcases STK_i hs with ⟨e, -⟩ | ⟨t0, h0, n0, d0, e1, e2, -, -, -, -, e3, -⟩ | ⟨t0, h0, n0, e1, -⟩ | ⟨t0, h0, n0, p0, B0, d0, o1, o2, e1, -⟩ | ⟨t0, h0, n0, p0, B0, d0, n1, p1, B1, e1, e2, e3, s, a, b, c, e⟩
  · omega
  · have : h0 = k := by omega
    subst this
    omega
  · omega
  · omega
  · have : h0 = k := by omega
    subst this
    exact ⟨e1, t0, n0, p0, B0, d0, n1, p1, B1, e3, s, a, c, e⟩
def gP (K M : mR) (k : Int) (j : Nat) (y : Int × Int × mR) (M' : mR) : Prop := gG K M y M' ∧ M'.1 73 = M.1 73 ∧ M'.2 76 k = 0 ∧ (∀ x : Nat, j ≤ x → x < 9 → M'.2 80 (9 * k + x) < 0) ∧ (∀ x : Nat, x < j → M'.2 80 (9 * k + x) = M.2 80 (9 * k + x))
theorem pair_s {k : Int} {j : Nat} (hE : EB K M) (hU : EU K M 2) (hh : M.1 73 = k + 1) (hk : M.2 76 k = 0) (hj : j < 9) (hx : ∀ x : Nat, j < x → x < 9 → M.2 80 (9 * k + x) < 0) (hw : 0 ≤ M.2 80 (9 * k + j)) : RR (kf_fm_closePair K) (rf_join (9 * k + j) M) (PB (gP K M k j) bAt) := by
  obtain ⟨t, n, p, B, hS, ht, hn, hp, hu, hu2, hop, hm⟩ := hU
  have sb0 := STK_b hS
  rw [hh] at hS
  obtain ⟨-, t0, n9, p9, B9, d0, n1, p1, B1, ed, s, s3, hg, hW⟩ := STK_3 hS ht hk
  have hW := WTS_dn (K := K) (M := M) (9 - (j + 1)) (j + 1) (by rw [show j + 1 + (9 - (j + 1)) = 9 by omega]; exact hW) (fun x x0 x1 => hx x (by omega) (by omega))
  rcases hW with ⟨h, -⟩ | ⟨n0, p0, B0, o, rfl, rfl, rfl, hW, ⟨-, w1⟩, w2, w3, w4, w5, w6⟩
  · omega
  have sb := STK_b s
  have gb := STG_b hg
  have wb := WTS_b hW
  have hd2 := hE.2.2.2.2.1
  have hf := hE.1.2.2.2.2
  obtain ⟨⟨m1, m2, m3⟩, -⟩ := hE.2.1
  have e1 : cut (K.1 228 - 1) = n0 := by rw [hn, cut_i (by omega) (by omega)]; omega
  have e2 : cut (K.1 229 - 2) = p0 := by rw [hp, cut_i (by omega) (by omega)]; omega
  have e3 : cut (K.1 229 - 1) = p0 + 1 := by rw [hp, cut_i (by omega) (by omega)]; omega
  have ew : ∃ w, w = M.2 80 (9 * k + j) := ⟨_, rfl⟩
  obtain ⟨w, ew⟩ := ew
  have eu : ∃ u, u = K.2 70 (p0 + 1) := ⟨_, rfl⟩
  obtain ⟨u, eu⟩ := eu
  rw [← ew] at w1 w2 w3 hw
  rw [← eu] at hu hu2 hop
  obtain ⟨v1, v2, v3, v4, v5, v6, v7, v8, v9, v10, v11, v12, v13, v14⟩ := wm_lv w1 (by omega)
  obtain ⟨a0, a1, a2, a3⟩ := OP_r w6
  obtain ⟨b0, b1, b2, b3⟩ := OP_r hop
  unfold kf_fm_closePair rf_join
  rw [e1, e2, e3, w3, ← w4, ← eu, ← ew, lvl_k w1, level_r, bnd_some, bnd_some]
  have bad : ∀ (X : Option (Int × Int × mR)) (Y : Option (Int × mR)), RP X (fun y => y.1 ≠ 0) → RP Y (fun z => 0 < z.2.1 10) → RR X Y (PB (gP K M k j) bAt) := fun X Y h1 h2 => RR_xx (RP_w h1 (fun y hy => Or.inl hy)) h2
  -- behind the look at the widths
  have last : ∀ (K1 : mR) (wd at' bh : Int), fr [] [22] K K1 → (∀ i, i ≠ o → i ≠ u → K1.2 22 i = K.2 22 i) → 1 ≤ wd → wd ≤ 64 → RR (kfl_fm_closePair_144 (wm w) o u wd K1) (rfl_join_261 (9 * k + j) wd at' w bh M) (PB (gP K M k j) bAt) := by
    intro K1 wd at' bh fK ek w0 w9
    unfold kfl_fm_closePair_144 rfl_join_261 rfl_join_278
    rw [fr1 fK 228 rfl, fr1 fK 229 rfl, e1, e2]
    have fK' : fr [228, 229] [22] K (mO K1 [(228, n0), (229, p0)] []) := fr_m (fr_s fK fr_0 rfl rfl) rfl rfl
    have fM' : fr [] [80] M (mO M [] [(80, upI (M.2 80) (9 * k + j) (-1))]) := fr_m fr_0 rfl rfl
    have hA : AG n0 p0 B0 (k + 1) (9 * k + j) K M (mO K1 [(228, n0), (229, p0)] []) (mO M [] [(80, upI (M.2 80) (9 * k + j) (-1))]) := by
      refine ⟨fun i _ => ?_, fun i _ => ?_, fun i hi => ⟨?_, ?_, ?_⟩, fun i _ => ⟨rfl, rfl, rfl, rfl, rfl, rfl, rfl, rfl, rfl⟩, fun i hi => ⟨?_, rfl, rfl, rfl⟩⟩
      · rw [fr2 fK' 68 rfl]
      · rw [fr2 fK' 70 rfl]
      · rw [fr2 fK' 18 rfl]
      · exact ek i (by omega) (by omega)
      · rw [fr2 fK' 24 rfl]
      · exact upI_n (by omega)
    have hE' : EB (mO K1 [(228, n0), (229, p0)] []) (mO M [] [(80, upI (M.2 80) (9 * k + j) (-1))]) := by
      refine EB_a hE (LR_g hE.1 fK' fM' rfl rfl rfl rfl ?_ hf) fK' fM' rfl rfl rfl rfl
      exact (fr1 fK 213 rfl).trans hE.1.2.2.2.1
    have emp : ∀ x : Nat, j ≤ x → x < 9 → (mO M [] [(80, upI (M.2 80) (9 * k + j) (-1))]).2 80 (9 * k + x) < 0 := by
      intro x x0 x1
      show upI (M.2 80) (9 * k + j) (-1) (9 * k + x) < 0
      by_cases e : x = j
      · rw [e, upI_s]
        decide
      · rw [upI_n (by omega)]
        exact hx x (by omega) x1
    have hS' : STK (mO K1 [(228, n0), (229, p0)] []) (mO M [] [(80, upI (M.2 80) (9 * k + j) (-1))]) 3 (k + 1) n0 p0 B0 (d0 + 1) := by
      refine STK_ch (STK_c s (AG_m hA (by omega) (by omega) (by omega) (by omega) (Int.le_refl _)) (by omega)) s3 hk (STG_c hg (AG_m hA (by omega) (by omega) (by omega) (Int.le_refl _) (Int.le_refl _)) (by omega)) ?_
      have := WTS_n (WTS_c hW hA (Int.le_refl _)) (9 - j) (fun x x0 x1 => emp x x0 (by omega))
      rw [show j + (9 - j) = 9 by omega] at this
      exact this
    intro y z hy hz
    cases hk9 : kf_fm_add (wm w) o u wd (K1.2 23 o) (mO K1 [(228, n0), (229, p0)] []) with
    | none => rw [hk9] at hy; cases hy
    | some x =>
      rw [hk9, bnd_some] at hy
      cases hy
      have eh : (mO M [] [(80, upI (M.2 80) (9 * k + j) (-1))]).1 73 = k + 1 := hh
      have ed2 : (mO M [] [(80, upI (M.2 80) (9 * k + j) (-1))]).1 74 = d0 + 1 := ed
      rcases cls_s (q := at') hE' (by rw [eh, ed2]; exact hS') (by decide) rfl rfl (show B0 ≤ M.1 28 by omega) hm v5 v4 ⟨v6, v7, v8⟩ w0 w9 x z hk9 hz with ⟨q1, q2, q3, q4, q5, q6, q7, q8, q9⟩ | ⟨q1, q2⟩
      · have q80 : z.2.2 80 = upI (M.2 80) (9 * k + j) (-1) := fr2 q7 80 rfl
        refine Or.inl ⟨⟨rfl, q2, q3, fr1 q7 8 rfl, fr1 q7 7 rfl, ?_⟩, fr1 q7 73 rfl, ?_, fun x x0 x1 => ?_, fun x x0 => ?_⟩
        · show x.2.1 228 = _
          rw [fr1 q4 228 rfl]
          show n0 = K.1 228 - 1
          omega
        · rw [fr2 q7 76 rfl]
          exact hk
        · rw [q80]
          exact emp x x0 x1
        · rw [q80, upI_n (by omega)]
      · exact Or.inr ⟨q1, Or.inr ⟨rfl, q2⟩⟩
  have hj8 : lvl w = 0 ∨ lvl w = 1 ∨ lvl w = 6 ∨ lvl w = 8 ∨ (lvl w = 2 ∨ lvl w = 3 ∨ lvl w = 4 ∨ lvl w = 5 ∨ lvl w = 7) := by omega
  -- && and ||
  have bits : RR (kfl_fm_closePair_67 (wm w) o u K) (rfl_join_88 (9 * k + j) (M.2 81 (9 * k + j)) (M.2 82 (9 * k + j)) w (M.1 69) M) (PB (gP K M k j) bAt) := by
    unfold kfl_fm_closePair_67 rfl_join_88
    refine RR_l (agree1_k w6) (fun y hy => ?_)
    refine RR_r (wantBit_r a0) (fun z hz => ?_)
    rcases hy with ⟨y1, y2, y3, y4, y5⟩ | ⟨y1, y2⟩
    · rw [if_pos y1]
      rcases hz with ⟨-, z2⟩ | ⟨z1, -⟩
      · rw [z2]
        unfold rfl_join_106
        have hop' : OP y.2.2 u (M.1 69) (M.1 71) (M.1 72) := OP_c hop (by rw [fr2 y4 18 rfl]) (y5 u (by omega)) (by rw [fr2 y4 24 rfl])
        refine RR_l (agree1_k hop') (fun x hx9 => ?_)
        refine RR_r (wantBit_r b0) (fun q hq => ?_)
        rcases hx9 with ⟨x1, x2, x3, x4, x5⟩ | ⟨x1, x2⟩
        · rw [if_pos x1]
          rcases hq with ⟨-, q2⟩ | ⟨q1, -⟩
          · rw [q2]
            unfold rfl_join_126
            exact last x.2.2 1 _ _ (fr_s x4 y4 rfl rfl) (fun i i1 i2 => (x5 i i2).trans (y5 i i1)) (by decide) (by decide)
          · exact absurd x2 q1
        · rw [if_neg x1]
          rcases hq with ⟨q1, -⟩ | ⟨-, q2⟩
          · exact absurd q1 x2
          · exact bad _ _ (RP_some x1) (RP_w (u_rfl_join_126 _ _ _ _ q.2) (fun v hv => hv.2 q2))
      · exact absurd y2 z1
    · rw [if_neg y1]
      rcases hz with ⟨z1, -⟩ | ⟨-, z2⟩
      · exact absurd z1 y2
      · exact bad _ _ (RP_some y1) (RP_w (u_rfl_join_106 _ _ _ _ z.2) (fun v hv => hv.2 z2))
  rcases hj8 with hl | hl | hl | hl | hl
  · rw [if_neg (fun q => by have := v9.mp q; omega), if_pos (v10.mpr hl), if_pos hl]
    exact bits
  · rw [if_pos (v9.mpr hl), if_neg (by omega), if_pos hl]
    exact bits
  · rw [if_neg (fun q => by have := v9.mp q; omega), if_neg (fun q => by have := v10.mp q; omega), if_neg (fun q => by have := v11.mp q; omega), if_neg (show ¬ lvl w = 0 by omega), if_neg (show ¬ lvl w = 1 by omega), if_pos hl]
    have d : RR (kfl_fm_closePair_144 (wm w) o u (K.2 22 o) K) (rfl_join_261 (9 * k + j) (M.2 81 (9 * k + j)) (M.2 82 (9 * k + j)) w (M.1 69) M) (PB (gP K M k j) bAt) := by
      rw [a3]
      exact last K _ _ _ fr_0 (fun _ _ _ => rfl) a1 a2
    refine RR_il (fun _ => d) (fun g1 => RR_il (fun _ => d) (fun g2 => ?_))
    rcases v12.mpr hl with q | q
    · exact absurd q g1
    · exact absurd q g2
  · rw [if_neg (fun q => by have := v9.mp q; omega), if_neg (fun q => by have := v10.mp q; omega), if_pos (v11.mpr hl), if_neg (by omega), if_neg (by omega), if_neg (by omega), if_pos hl]
    refine RR_l (joined_k w6 hop) (fun y hy => ?_)
    have w1r : ∀ (a at' : Int) (X : mR → Option (Int × mR)) (P : Prop), (a ≠ 0 ↔ P) → (∀ m, 0 < m.1 10 → RP (X m) (fun z => 0 < z.2.1 10)) → (P → RR (if y.1 = 0 then kfl_fm_closePair_144 (wm w) o u y.2.1 y.2.2 else some (y.1, 0, y.2.2)) (X M) (PB (gP K M k j) bAt)) → (¬ P → y.1 ≠ 0) → RR (if y.1 = 0 then kfl_fm_closePair_144 (wm w) o u y.2.1 y.2.2 else some (y.1, 0, y.2.2)) (bnd (rf_want a at' M) fun q => X q.2) (PB (gP K M k j) bAt) := by
      intro a at' X P hP hX h1 h2
      refine RR_r want_r (fun z hz => ?_)
      rcases hz with ⟨z1, z2⟩ | ⟨z1, z2⟩
      · rw [z2]
        exact h1 (hP.mp z1)
      · have y1 := h2 (fun q => hP.mpr q z1)
        rw [if_neg y1]
        exact bad _ _ (RP_some y1) (hX _ z2)
    have hy' : y.1 ≠ 0 ∨ (y.1 = 0 ∧ (M.2 83 (9 * k + j) = 0 ∧ M.1 71 = 0 ∧ M.2 81 (9 * k + j) + M.1 69 ≤ 64) ∧ y.2.1 = M.2 81 (9 * k + j) + M.1 69 ∧ y.2.2 = K) := by
      rcases hy with hy | hy
      · exact Or.inr hy
      · exact Or.inl hy.1
    have hn9 : ¬ (M.2 83 (9 * k + j) = 0 ∧ M.1 71 = 0 ∧ M.2 81 (9 * k + j) + M.1 69 ≤ 64) → y.1 ≠ 0 := by
      intro q
      rcases hy with hy | hy
      · exact absurd hy.2.1 q
      · exact hy.1
    -- the three looks
    have third : (M.2 83 (9 * k + j) = 0 ∧ M.1 71 = 0) → RR (if y.1 = 0 then kfl_fm_closePair_144 (wm w) o u y.2.1 y.2.2 else some (y.1, 0, y.2.2)) (rfl_join_173 (9 * k + j) (M.2 81 (9 * k + j)) (M.2 82 (9 * k + j)) w (M.1 69) M) (PB (gP K M k j) bAt) := by
      intro h2
      unfold rfl_join_173 rfl_join_190
      have fin : M.2 81 (9 * k + j) + M.1 69 ≤ 64 → RR (if y.1 = 0 then kfl_fm_closePair_144 (wm w) o u y.2.1 y.2.2 else some (y.1, 0, y.2.2)) (rfl_join_197 (9 * k + j) (M.2 81 (9 * k + j)) (M.2 82 (9 * k + j)) w (M.1 69) M) (PB (gP K M k j) bAt) := by
        intro h3
        rcases hy with ⟨y1, y2, y3, y4⟩ | ⟨y1, y2⟩
        · rw [if_pos y1, y3, y4]
          unfold rfl_join_197
          rw [cut_i (by omega) (by omega)]
          exact last K _ _ _ fr_0 (fun _ _ _ => rfl) (by omega) h3
        · exact absurd ⟨h2.1, h2.2, h3⟩ y2
      rw [cut_i (by omega) (by omega)]
      by_cases h3 : (64 : Int) < M.2 81 (9 * k + j) + M.1 69
      · rw [if_pos h3]
        exact w1r 0 _ (fun m => rfl_join_197 _ _ _ _ _ m) False ⟨fun q => q rfl, fun q => q.elim⟩ (fun m hm => RP_w (u_rfl_join_197 _ _ _ _ _ m) (fun v hv => hv.2 hm)) (fun q => q.elim) (fun _ => hn9 (fun q => by omega))
      · rw [if_neg h3]
        exact w1r 1 _ (fun m => rfl_join_197 _ _ _ _ _ m) True ⟨fun _ => trivial, fun _ => by decide⟩ (fun m hm => RP_w (u_rfl_join_197 _ _ _ _ _ m) (fun v hv => hv.2 hm)) (fun _ => fin (by omega)) (fun q => absurd trivial q)
    have second : M.2 83 (9 * k + j) = 0 → RR (if y.1 = 0 then kfl_fm_closePair_144 (wm w) o u y.2.1 y.2.2 else some (y.1, 0, y.2.2)) (rfl_join_153 (9 * k + j) (M.2 81 (9 * k + j)) (M.2 82 (9 * k + j)) w (M.1 69) M) (PB (gP K M k j) bAt) := by
      intro h2
      unfold rfl_join_153 rfl_join_166
      by_cases h3 : M.1 71 = 0
      · rw [if_pos h3]
        exact w1r 1 _ (fun m => rfl_join_173 _ _ _ _ _ m) True ⟨fun _ => trivial, fun _ => by decide⟩ (fun m hm => RP_w (u_rfl_join_173 _ _ _ _ _ m) (fun v hv => hv.2 hm)) (fun _ => third ⟨h2, h3⟩) (fun q => absurd trivial q)
      · rw [if_neg h3]
        exact w1r 0 _ (fun m => rfl_join_173 _ _ _ _ _ m) False ⟨fun q => q rfl, fun q => q.elim⟩ (fun m hm => RP_w (u_rfl_join_173 _ _ _ _ _ m) (fun v hv => hv.2 hm)) (fun q => q.elim) (fun _ => hn9 (fun q => h3 q.2.1))
    unfold rfl_join_149
    by_cases h3 : M.2 83 (9 * k + j) = 0
    · rw [if_pos h3]
      exact w1r 1 _ (fun m => rfl_join_153 _ _ _ _ _ m) True ⟨fun _ => trivial, fun _ => by decide⟩ (fun m hm => RP_w (u_rfl_join_153 _ _ _ _ _ m) (fun v hv => hv.2 hm)) (fun _ => second h3) (fun q => absurd trivial q)
    · rw [if_neg h3]
      exact w1r 0 _ (fun m => rfl_join_153 _ _ _ _ _ m) False ⟨fun q => q rfl, fun q => q.elim⟩ (fun m hm => RP_w (u_rfl_join_153 _ _ _ _ _ m) (fun v hv => hv.2 hm)) (fun q => q.elim) (fun _ => hn9 (fun q => h3 q.1))
  · rw [if_neg (fun q => by have := v9.mp q; omega), if_neg (fun q => by have := v10.mp q; omega), if_neg (fun q => by have := v11.mp q; omega), if_neg (fun q => by have := v12.mp (Or.inl q); omega), if_neg (fun q => by have := v12.mp (Or.inr q); omega), if_neg (by omega), if_neg (by omega), if_neg (by omega), if_neg (by omega)]
    have main : RR (bnd (kf_fm_agree o u K) fun y18 => if y18.1 = 0 then if lvl w + 1 = 3 then kfl_fm_closePair_142 (wm w) o u 1 y18.2.2 else kfl_fm_closePair_142 (wm w) o u (y18.2.2.2 22 o) y18.2.2 else some (y18.1, 0, y18.2.2)) (rfl_join_207 (9 * k + j) (M.2 81 (9 * k + j)) (M.2 82 (9 * k + j)) w (M.1 69) M) (PB (gP K M k j) bAt) := by
      unfold rfl_join_207
      refine RR_l (agree2_k w6 hop (by omega) (by omega)) (fun y hy => ?_)
      refine RR_r (common_r a2 b2) (fun z hz => ?_)
      rcases hy with ⟨y1, y2, y3, y4, y5⟩ | ⟨y1, y2⟩
      · rw [if_pos y1]
        rcases hz with ⟨-, z2, z3⟩ | ⟨z1, -⟩
        · rw [z2, z3, y3]
          unfold rfl_join_241 rfl_join_260 kfl_fm_closePair_142
          rw [← ew, level_r, bnd_some]
          have cwr : 1 ≤ CWD (M.2 81 (9 * k + j)) (M.2 83 (9 * k + j)) (M.1 69) (M.1 71) ∧ CWD (M.2 81 (9 * k + j)) (M.2 83 (9 * k + j)) (M.1 69) (M.1 71) ≤ 64 := by
            unfold CWD
            by_cases c1 : M.2 83 (9 * k + j) = 0
            · rw [if_pos c1]; exact ⟨a1, a2⟩
            · rw [if_neg c1]
              by_cases c2 : M.1 71 = 0
              · rw [if_pos c2]; exact ⟨b1, b2⟩
              · rw [if_neg c2]; exact ⟨by decide, by decide⟩
          by_cases l2 : lvl w = 2
          · rw [if_pos (by omega), if_pos l2]
            exact last y.2.2 1 _ _ y4 y5 (by decide) (by decide)
          · rw [if_neg (by omega), if_neg l2]
            exact last y.2.2 _ _ _ y4 y5 cwr.1 cwr.2
        · exact absurd y2 z1
      · rw [if_neg y1]
        rcases hz with ⟨z1, -⟩ | ⟨-, z2⟩
        · exact absurd z1 y2
        · exact bad _ _ (RP_some y1) (RP_w (u_rfl_join_241 _ _ _ _ _ z.2) (fun v hv => hv.2 z2))
    rcases hl with hl | hl | hl | hl | hl
    · rw [if_pos hl]; exact main
    · rw [if_neg (by omega), if_pos hl]; exact main
    · rw [if_neg (by omega), if_neg (by omega), if_pos hl]; exact main
    · rw [if_neg (by omega), if_neg (by omega), if_neg (by omega), if_pos hl]; exact main
    · rw [if_neg (by omega), if_neg (by omega), if_neg (by omega), if_neg (by omega), if_pos hl]; exact main
end PAR
