/-! ===== what statements and actions read and write, side by side ===== -/
section GDE
variable {K M K0 M0 : mR} {s : Int}
theorem d140_0 {a : Int} : kfl_sp_gatherDeed_140 s a 0 K = kfl_sp_gatherDeed_172 s a 0 K := by
  unfold kfl_sp_gatherDeed_140
  have e : kfb_sp_gatherDeed_145 s a 0 (1, K) = some (.inr K) := by
    unfold kfb_sp_gatherDeed_145
    rw [if_pos (show (0 : Int) < 1 by decide)]
  rw [whl_eq, e]
  rfl
theorem gadd_k {i : Int} (s0 : 0 ≤ s) (s1 : s < 48) (i0 : 0 ≤ i) (i1 : i < 12) : RP (whl (kfb_sp_gatherDeed_145 s (17 * i) 16) (1, K)) (fun e => fr [] [61] K e ∧ (∀ y, 0 ≤ y → (xb (e.2 61) s y ↔ xb (K.2 61) s y ∨ (17 * i + 1 ≤ y ∧ y ≤ 17 * i + 16))) ∧ ∀ r, (r < 4 * s ∨ 4 * s + 4 ≤ r) → e.2 61 r = K.2 61 r) := by
  refine RP_whl (I := fun p : Int × mR => 1 ≤ p.1 ∧ p.1 ≤ 17 ∧ fr [] [61] K p.2 ∧ (∀ y, 0 ≤ y → (xb (p.2.2 61) s y ↔ xb (K.2 61) s y ∨ (17 * i + 1 ≤ y ∧ y < 17 * i + p.1))) ∧ ∀ r, (r < 4 * s ∨ 4 * s + 4 ≤ r) → p.2.2 61 r = K.2 61 r) (fun p hp => ?_) ⟨Int.le_refl 1, (show (1 : Int) ≤ 17 by decide), fr_0, fun y y0 => ⟨Or.inl, fun q => q.elim id (fun w => by have w2 : y < 17 * i + 1 := w.2; omega)⟩, fun r _ => rfl⟩
  obtain ⟨j, m⟩ := p
  obtain ⟨b1, b2, b3, b4, b5⟩ := hp
  have b1 : 1 ≤ j := b1
  have b2 : j ≤ 17 := b2
  have b4 : ∀ y, 0 ≤ y → (xb (m.2 61) s y ↔ xb (K.2 61) s y ∨ (17 * i + 1 ≤ y ∧ y < 17 * i + j)) := b4
  unfold kfb_sp_gatherDeed_145
  dsimp only
  refine RP_ite (fun g => RP_some ⟨b3, fun y y0 => ?_, b5⟩) (fun g => ?_)
  · rw [b4 y y0]
    constructor
    · intro q
      rcases q with q | q
      · exact Or.inl q
      · exact Or.inr (by omega)
    · intro q
      rcases q with q | q
      · exact Or.inl q
      · exact Or.inr (by omega)
  · rw [cut_i (show -2147483648 ≤ 17 * i + j by omega) (by omega), mark61 s0 s1 (by omega) (by omega), bnd_some, cut_i (by omega) (by omega)]
    refine RP_some ⟨(by show 1 ≤ j + 1; omega), (by show j + 1 ≤ 17; omega), fr_m b3 rfl rfl, fun y y0 => ?_, fun r hr => ?_⟩
    · show xb (MK (m.2 61) s (17 * i + j)) s y ↔ _
      rw [xb_MK (by omega) y0, b4 y y0]
      show _ ↔ _ ∨ (17 * i + 1 ≤ y ∧ y < 17 * i + (j + 1))
      constructor
      · intro q
        rcases q with (q | q) | q
        · exact Or.inl q
        · exact Or.inr (by omega)
        · exact Or.inr (by omega)
      · intro q
        rcases q with q | q
        · exact Or.inl (Or.inl q)
        · by_cases e : y = 17 * i + j
          · exact Or.inr e
          · exact Or.inl (Or.inr (by omega))
    · show MK (m.2 61) s (17 * i + j) r = _
      rw [MK_o (by omega) (by omega) hr]
      exact b5 r hr
theorem gadd_r {i : Int} (s0 : 0 ≤ s) (s1 : s < 48) (i0 : 0 ≤ i) (i1 : i < 12) (n0 : 0 ≤ M.2 29 (M.2 34 i)) (n1 : M.2 29 (M.2 34 i) ≤ 16) : RP (whl (rfb_touches_209 (221 * s) i) (0, M)) (fun e => fr [] [136] M e ∧ ∀ y, e.2 136 y = if 221 * s + 16 * i ≤ y ∧ y < 221 * s + 16 * i + M.2 29 (M.2 34 i) then 1 else M.2 136 y) := by
  refine RP_whl (I := fun p : Int × mR => 0 ≤ p.1 ∧ p.1 ≤ M.2 29 (M.2 34 i) ∧ fr [] [136] M p.2 ∧ ∀ y, p.2.2 136 y = if 221 * s + 16 * i ≤ y ∧ y < 221 * s + 16 * i + p.1 then 1 else M.2 136 y) (fun p hp => ?_) ⟨Int.le_refl 0, n0, fr_0, fun y => by rw [if_neg (by show ¬ (_ ∧ y < 221 * s + 16 * i + 0); omega)]⟩
  obtain ⟨j, m⟩ := p
  obtain ⟨b1, b2, b3, b4⟩ := hp
  have b1 : 0 ≤ j := b1
  have b2 : j ≤ M.2 29 (M.2 34 i) := b2
  have b4 : ∀ y, m.2 136 y = if 221 * s + 16 * i ≤ y ∧ y < 221 * s + 16 * i + j then 1 else M.2 136 y := b4
  unfold rfb_touches_209
  dsimp only
  rw [fr2 b3 29 rfl, fr2 b3 34 rfl]
  refine RP_ite (fun g => RP_some ⟨b3, fun y => ?_⟩) (fun g => ?_)
  · rw [b4 y, show j = M.2 29 (M.2 34 i) by omega]
  · rw [show cut (cut (221 * s + cut (16 * i)) + j) = 221 * s + 16 * i + j by rw [cut_i (show -2147483648 ≤ 16 * i by omega) (by omega), cut_i (show -2147483648 ≤ 221 * s + 16 * i by omega) (by omega), cut_i (by omega) (by omega)], cut_i (show -2147483648 ≤ j + 1 by omega) (by omega), n1_1]
    refine RP_some ⟨(by show 0 ≤ j + 1; omega), (by show j + 1 ≤ _; omega), fr_m b3 rfl rfl, fun y => ?_⟩
    show upI (m.2 136) (221 * s + 16 * i + j) 1 y = if 221 * s + 16 * i ≤ y ∧ y < 221 * s + 16 * i + (j + 1) then 1 else M.2 136 y
    by_cases e : y = 221 * s + 16 * i + j
    · rw [e, upI_s, if_pos (by omega)]
    · rw [upI_n e, b4 y]
      by_cases c : 221 * s + 16 * i ≤ y ∧ y < 221 * s + 16 * i + j
      · rw [if_pos c, if_pos (by omega)]
      · rw [if_neg c, if_neg (by omega)]
/-- where the codes of statements, keys, steps end; how far actions go -/
def RGE (M : mR) : Prop := (∀ k, 0 ≤ k → k < M.1 99 → ((M.2 101 k = 1 ∨ M.2 101 k = 328) → M.2 108 k ≤ M.1 28 ∧ 0 ≤ M.2 107 k) ∧ ((M.2 101 k = 327 ∨ M.2 101 k = 328) → M.2 106 k ≤ M.1 28 ∧ 0 ≤ M.2 105 k)) ∧ (∀ t, 0 ≤ t → t < M.1 26 → ∀ i, 0 ≤ i → i < M.2 51 t → M.2 111 (4 * t + i) ≤ M.1 28 ∧ 0 ≤ M.2 110 (4 * t + i)) ∧ (∀ p, 0 ≤ p → p < M.1 27 → M.2 60 p = 1 → M.2 122 p ≤ M.1 28 ∧ 0 ≤ M.2 121 p) ∧ (∀ a, 0 ≤ a → a < M.1 25 → M.2 109 a + M.2 50 a ≤ M.1 99) ∧ (∀ h, 0 ≤ M.2 29 h ∧ M.2 29 h ≤ 16)
def GP (K0 M0 : mR) : Prop := NDR K0 M0 ∧ M0.1 20 ≤ 12 ∧ M0.1 22 ≤ 8 ∧ M0.1 99 ≤ 4000 ∧ DE K0 M0 ∧ RGE M0
theorem deed_s (s0 : 0 ≤ s) (s1 : s < 48) (hP : GP K0 M0) (h : GS s K0 M0 K M) {k : Int} (k0 : 0 ≤ k) (k1 : k < M0.1 99) : RR (kf_sp_gatherDeed s k K) (rf_touches s k M) (fun y z => GS s K0 M0 y.2 z.2) := by
  obtain ⟨hN, h20, h22, -, hD, hR, -, -, -, hF⟩ := hP
  have hk := hD.2 k k0 k1
  obtain ⟨rg1, rg2⟩ := hR k k0 k1
  have c221 : cut (221 * s) = 221 * s := cut_i (by omega) (by omega)
  unfold kf_sp_gatherDeed rf_touches
  rw [fr2 h.1 48 rfl, fr2 h.1 49 rfl, fr2 h.2.1 101 rfl, c221]
  -- the end of it, for those with a place
  have fin : ∀ {K1 M1 : mR} {a : Int}, GS s K0 M0 K1 M1 → K0.2 46 k = a → PLS (M0.1 20) (M0.1 21) (M0.2 29) (M0.2 34) a (M0.2 102 k) → K0.2 45 k ≠ 324 → K0.2 45 k ≠ 325 → M0.2 101 k ≠ 326 → M0.2 101 k ≠ 324 → M0.2 101 k ≠ 325 → RR (kfl_sp_gatherDeed_81 s k K1) (rfl_touches_125 s k (221 * s) M1) (fun y z => GS s K0 M0 y.2 z.2) := by
    intro K1 M1 a hG ea hp e1 e2 e3 e4 e5
    obtain ⟨p0, p1, p2, m, q1, q2⟩ := place_w s0 s1 h20 hG hp
    have fm : fr [] [135, 136, 137] M0 m := fr_s (u_rf_writesPlace s _ M1 _ q1).1 hG.2.1 rfl rfl
    unfold kfl_sp_gatherDeed_81 rfl_touches_125
    rw [fr2 hG.1 46 rfl, ea, if_neg (by omega), mark61 s0 s1 p0 (by omega), bnd_some, fr2 hG.2.1 102 rfl, q1, bnd_some]
    dsimp only
    have e45 : (mO K1 [] [(61, MK (K1.2 61) s a)]).2 45 k = K0.2 45 k := by
      show K1.2 45 k = _
      rw [fr2 hG.1 45 rfl]
    rw [e45, if_neg e1, if_neg e2, d140_0]
    unfold rfl_touches_136 rfl_touches_159
    rw [fr2 fm 101 rfl, if_neg e3, if_neg e4, if_neg e5]
    exact fun y z hy hz => by cases hz; exact q2 y hy
  rcases hk with ⟨t1, t2, t3, t4, t5, t6⟩ | ⟨t1, t2, t3, t4, t5, t6⟩ | ⟨t1, t2, t3, t4, t5, t6⟩ | ⟨t1, t2, t3, t4, t5, t6⟩ | ⟨t1, t2, t3, t4, t5, t6⟩
  · -- PLACE = EXPR
    obtain ⟨u1, u2, u3⟩ := t6
    rw [t5, gexpr_0, bnd_some, if_neg (by omega), if_neg (by omega)]
    unfold rfl_touches_64 rfl_touches_86
    rw [fr2 h.1 50 rfl, fr2 h.1 51 rfl, fr2 h.2.1 101 rfl, if_pos t1, fr2 h.2.1 107 rfl, fr2 h.2.1 108 rfl, u1]
    refine RR_bnd (gexpr_s s0 s1 hN h20 h (rg1 (Or.inl t1)).2 u2 u3 (rg1 (Or.inl t1)).1) (fun y z hyz => ?_)
    rw [fr2 hyz.1 47 rfl, if_pos t4]
    unfold rfl_touches_103
    rw [fr2 hyz.2.1 101 rfl, if_pos t1]
    exact fin hyz rfl t3 (by omega) (by omega) (by omega) (by omega) (by omega)
  · -- load
    obtain ⟨u1, u2, u3⟩ := t5
    obtain ⟨v1, v2, v3⟩ := t4
    rw [if_pos t1]
    unfold rfl_touches_30
    rw [fr2 h.2.1 105 rfl, fr2 h.2.1 106 rfl, u1]
    refine RR_bnd (gexpr_s s0 s1 hN h20 h (rg2 (Or.inl t1)).2 u2 u3 (rg2 (Or.inl t1)).1) (fun y z hyz => ?_)
    rw [fr2 hyz.1 50 rfl, fr2 hyz.1 51 rfl, t6, gexpr_0, bnd_some]
    dsimp only
    rw [fr2 hyz.1 47 rfl, if_neg (by omega), v1]
    unfold rfl_touches_47 rfl_touches_64
    rw [fr2 hyz.2.1 103 rfl, show cut (cut (8 * s) + M0.2 103 k) = 8 * s + M0.2 103 k by rw [cut_i (show -2147483648 ≤ 8 * s by omega) (by omega), cut_i (by omega) (by omega)], n1_1]
    have eM : ∃ M2, M2 = mO z.2 [] [(137, upI (z.2.2 137) (8 * s + M0.2 103 k) 1)] := ⟨_, rfl⟩
    obtain ⟨M2, eM⟩ := eM
    have eK : ∃ K2, K2 = mO y.2 [] [(62, upI (y.2.2 62) s (or32 (y.2.2 62 s) (shl32 1 (M0.2 103 k))))] := ⟨_, rfl⟩
    obtain ⟨K2, eK⟩ := eK
    have hG : GS s K0 M0 K2 M2 := by
      rw [eM, eK]
      exact ⟨fr_m hyz.1 rfl rfl, fr_m hyz.2.1 rfl rfl, hyz.2.2.1, hyz.2.2.2.1, SET_y hyz.2.2.2.2 v2 (by omega)⟩
    rw [← eM, ← eK]
    clear eM eK
    rw [fr2 hG.2.1 101 rfl, if_neg (by omega), if_neg (by omega)]
    unfold rfl_touches_103
    rw [fr2 hG.2.1 101 rfl, if_neg (by omega), if_pos t1]
    exact fin hG rfl t3 (by omega) (by omega) (by omega) (by omega) (by omega)
  · -- store
    obtain ⟨u1, u2, u3⟩ := t5
    obtain ⟨v1, v2, v3⟩ := t4
    obtain ⟨w1, w2, w3⟩ := t6
    rw [if_neg (by omega), if_pos t1]
    unfold rfl_touches_30
    rw [fr2 h.2.1 105 rfl, fr2 h.2.1 106 rfl, u1]
    refine RR_bnd (gexpr_s s0 s1 hN h20 h (rg2 (Or.inr t1)).2 u2 u3 (rg2 (Or.inr t1)).1) (fun y z hyz => ?_)
    rw [fr2 hyz.1 50 rfl, fr2 hyz.1 51 rfl]
    unfold rfl_touches_47 rfl_touches_64
    rw [fr2 hyz.2.1 103 rfl, show cut (cut (8 * s) + M0.2 103 k) = 8 * s + M0.2 103 k by rw [cut_i (show -2147483648 ≤ 8 * s by omega) (by omega), cut_i (by omega) (by omega)], n1_1]
    have eM : ∃ M2, M2 = mO z.2 [] [(137, upI (z.2.2 137) (8 * s + M0.2 103 k) 1)] := ⟨_, rfl⟩
    obtain ⟨M2, eM⟩ := eM
    have fM2 : fr [] [135, 136, 137] M0 M2 := by rw [eM]; exact fr_m hyz.2.1 rfl rfl
    rw [← eM]
    have m135 : M2.2 135 = z.2.2 135 := by rw [eM]; rfl
    have m136 : M2.2 136 = z.2.2 136 := by rw [eM]; rfl
    have m137 : M2.2 137 = upI (z.2.2 137) (8 * s + M0.2 103 k) 1 := by rw [eM]; rfl
    clear eM
    rw [fr2 fM2 101 rfl, if_neg (by omega), if_pos t1]
    unfold rfl_touches_86
    rw [fr2 fM2 107 rfl, fr2 fM2 108 rfl, w1]
    intro a b ha hb
    cases h1 : kf_sp_gatherExpr s (M0.2 107 k) (K0.2 51 k) y.2 with
    | none => rw [h1] at ha; cases ha
    | some y1 =>
      rw [h1, bnd_some] at ha
      cases h2 : rf_readsCode s (M0.2 107 k) (M0.2 108 k) M2 with
      | none => rw [h2] at hb; cases hb
      | some z1 =>
        rw [h2, bnd_some] at hb
        have g1 := u_kf_sp_gatherExpr s _ _ y.2 y1 h1
        have g2 := (u_rf_readsCode s _ _ M2 z1 h2).1
        have fK1 : fr [] [60, 61, 62] K0 y1.2 := fr_s g1 hyz.1 rfl rfl
        have fM1 : fr [] [135, 136, 137] M0 z1.2 := fr_s g2 fM2 rfl rfl
        have hr := gexpr_r s0 s1 hN h20 hyz.1 fM2 (by rw [m135]; exact hyz.2.2.1) (rg1 (Or.inr t1)).2 w2 w3 (rg1 (Or.inr t1)).1 y1 z1 h1 h2
        rw [fr2 fK1 47 rfl, if_neg (by omega), v1] at ha
        unfold kfl_sp_gatherDeed_81 at ha
        unfold rfl_touches_103 rfl_touches_136 rfl_touches_159 at hb
        have e46 : (mO y1.2 [] [(62, upI (y1.2.2 62) s (or32 (y1.2.2 62 s) (shl32 1 (M0.2 103 k))))]).2 46 k = -1 := by
          show y1.2.2 46 k = -1
          rw [fr2 fK1 46 rfl]
          exact t3
        rw [if_pos e46] at ha
        rw [fr2 fM1 101 rfl, if_neg (by omega), if_neg (by omega), if_neg (by omega), if_neg (by omega), if_neg (by omega)] at hb
        cases ha
        cases hb
        refine ⟨fr_m fK1 rfl rfl, fM1, hr, ?_, ?_⟩
        · show SW1 s K0 M0 (y1.2.2 61) (z1.2.2 136)
          rw [fr2 g1 61 rfl, fr2 g2 136 rfl, m136]
          exact hyz.2.2.2.1
        · show SA1 s K0 (upI (y1.2.2 62) s (or32 (y1.2.2 62 s) (shl32 1 (M0.2 103 k)))) (z1.2.2 137)
          rw [fr2 g1 62 rfl, fr2 g2 137 rfl, m137]
          exact SET_y hyz.2.2.2.2 v2 (by omega)
  · -- add and take
    obtain ⟨i0, i1, i2⟩ := t3
    have hi : M0.2 104 k < 12 := by omega
    rw [t5, gexpr_0, bnd_some]
    dsimp only
    rw [fr2 h.1 50 rfl, fr2 h.1 51 rfl, t6, gexpr_0, bnd_some]
    dsimp only
    rw [fr2 h.1 47 rfl, if_pos t4, if_neg (by omega), if_neg (by omega)]
    unfold rfl_touches_64 rfl_touches_103 rfl_touches_136 rfl_touches_159
    rw [fr2 h.2.1 101 rfl, if_neg (by omega), if_neg (by omega), if_neg (by omega), if_neg (by omega), if_neg (by omega)]
    have eR : (if M0.2 101 k = 324 then rfl_touches_184 k (221 * s) M else if M0.2 101 k = 325 then rfl_touches_184 k (221 * s) M else some (0, M)) = rfl_touches_184 k (221 * s) M := by
      rcases t1 with q | q
      · rw [if_pos q]
      · rw [if_neg (by omega), if_pos q]
    rw [eR]
    unfold kfl_sp_gatherDeed_81 rfl_touches_184
    rw [fr2 h.1 46 rfl, if_neg (by omega), i2, mark61 s0 s1 (by omega) (by omega), bnd_some]
    dsimp only
    have eC : ∀ m : mR, (if K.2 45 k = 324 then kfl_sp_gatherDeed_134 s (17 * M0.2 104 k) m else if K.2 45 k = 325 then kfl_sp_gatherDeed_134 s (17 * M0.2 104 k) m else kfl_sp_gatherDeed_140 s (17 * M0.2 104 k) 0 m) = kfl_sp_gatherDeed_140 s (17 * M0.2 104 k) 16 m := by
      intro m
      rw [fr2 h.1 45 rfl, t2]
      rcases t1 with q | q
      · rw [if_pos q]; rfl
      · rw [if_neg (by omega), if_pos q]; rfl
    refine Eq.mpr (congrArg (fun X => RR X _ _) (eC (mO K [] [(61, MK (K.2 61) s (17 * M0.2 104 k))]))) ?_
    unfold kfl_sp_gatherDeed_140
    rw [fr2 h.2.1 104 rfl, show cut (cut (221 * s + 192) + M0.2 104 k) = 221 * s + 192 + M0.2 104 k by rw [cut_i (show -2147483648 ≤ 221 * s + 192 by omega) (by omega), cut_i (by omega) (by omega)], n1_1]
    refine RR_l (gadd_k s0 s1 i0 hi) (fun e he => ?_)
    have nF := hF (M0.2 34 (M0.2 104 k))
    refine RR_r (gadd_r (M := mO M [] [(136, upI (M.2 136) (221 * s + 192 + M0.2 104 k) 1)]) s0 s1 i0 hi (by show 0 ≤ M.2 29 (M.2 34 (M0.2 104 k)); rw [fr2 h.2.1 29 rfl, fr2 h.2.1 34 rfl]; omega) (by show M.2 29 (M.2 34 (M0.2 104 k)) ≤ 16; rw [fr2 h.2.1 29 rfl, fr2 h.2.1 34 rfl]; omega)) (fun g hg => ?_)
    obtain ⟨e1, e2, e3⟩ := he
    obtain ⟨g1, g2⟩ := hg
    unfold kfl_sp_gatherDeed_172
    rw [if_neg (by decide)]
    refine RR_some ⟨fr_s e1 (fr_m h.1 rfl rfl) rfl rfl, fr_s g1 (fr_m h.2.1 rfl rfl) rfl rfl, ?_, ?_, ?_⟩
    · rw [fr2 e1 60 rfl, fr2 g1 135 rfl]
      exact h.2.2.1
    · refine SET_a h.2.2.2.1 i0 hi rfl nF.1 nF.2 (fun y y0 => ?_) (fun r hr => ?_) (fun y => ?_)
      · rw [e2 y y0]
        show xb (MK (K.2 61) s (17 * M0.2 104 k)) s y ∨ _ ↔ _
        rw [xb_MK (by omega) y0]
        constructor
        · intro q
          rcases q with (q | q) | q
          · exact Or.inl q
          · exact Or.inr (by omega)
          · exact Or.inr (by omega)
        · intro q
          rcases q with q | q
          · exact Or.inl (Or.inl q)
          · by_cases e : y = 17 * M0.2 104 k
            · exact Or.inl (Or.inr e)
            · exact Or.inr (by omega)
      · rw [e3 r hr]
        exact MK_o (by omega) (by omega) hr
      · rw [g2 y]
        show (if 221 * s + 16 * M0.2 104 k ≤ y ∧ y < 221 * s + 16 * M0.2 104 k + M.2 29 (M.2 34 (M0.2 104 k)) then 1 else upI (M.2 136) (221 * s + 192 + M0.2 104 k) 1 y) = _
        rw [fr2 h.2.1 29 rfl, fr2 h.2.1 34 rfl]
        by_cases c : 221 * s + 16 * M0.2 104 k ≤ y ∧ y < 221 * s + 16 * M0.2 104 k + M0.2 29 (M0.2 34 (M0.2 104 k))
        · rw [if_pos c, if_pos (Or.inr c)]
        · rw [if_neg c]
          by_cases e : y = 221 * s + 192 + M0.2 104 k
          · rw [e, upI_s, if_pos (Or.inl rfl)]
          · rw [upI_n e, if_neg (fun q => q.elim e c)]
    · rw [fr2 e1 62 rfl, fr2 g1 137 rfl]
      exact h.2.2.2.2
  · -- drop
    rw [t5, gexpr_0, bnd_some]
    dsimp only
    rw [fr2 h.1 50 rfl, fr2 h.1 51 rfl, t6, gexpr_0, bnd_some]
    dsimp only
    rw [fr2 h.1 47 rfl, if_pos t4, if_neg (by omega), if_neg (by omega)]
    unfold rfl_touches_64 rfl_touches_103 rfl_touches_136 rfl_touches_159
    rw [fr2 h.2.1 101 rfl, if_neg (by omega), if_neg (by omega), if_neg (by omega), if_neg (by omega), if_pos t1]
    have e101 : (mO M [] [(136, upI (M.2 136) (cut (221 * s + 220)) (nar1 1))]).2 101 k = 326 := by
      show M.2 101 k = 326
      rw [fr2 h.2.1 101 rfl]
      exact t1
    rw [e101, if_neg (show ¬ (326 : Int) = 324 by decide), if_neg (show ¬ (326 : Int) = 325 by decide)]
    unfold kfl_sp_gatherDeed_81
    rw [fr2 h.1 46 rfl, t3, if_neg (by decide), mark61 s0 s1 (by omega) (by omega), bnd_some]
    dsimp only
    have e45 : (mO K [] [(61, MK (K.2 61) s 220)]).2 45 k = 326 := by
      show K.2 45 k = 326
      rw [fr2 h.1 45 rfl]
      exact t2
    rw [e45, if_neg (show ¬ (326 : Int) = 324 by decide), if_neg (show ¬ (326 : Int) = 325 by decide), d140_0]
    unfold kfl_sp_gatherDeed_172
    rw [if_pos rfl, if_pos (by decide), cut_i (show -2147483648 ≤ 221 * s + 220 by omega) (by omega), n1_1]
    have hA := SET_w h.2.2.2.1 (x := 220) (by decide) (by decide) (fun q => absurd q (by decide)) (fun q _ => absurd q (by decide))
    rw [th_m (by decide)] at hA
    exact RR_some ⟨fr_m h.1 rfl rfl, fr_m h.2.1 rfl rfl, h.2.2.1, hA, h.2.2.2.2⟩
theorem action_g (s0 : 0 ≤ s) (s1 : s < 48) (hP : GP K0 M0) (hA : ACw K0 M0) (h : GS s K0 M0 K M) {a : Int} (a0 : 0 ≤ a) (a1 : a < M0.1 25) : RR (kf_sp_gatherAction s a K) (rf_touchesAction s a M) (fun y z => GS s K0 M0 y.2 z.2) := by
  obtain ⟨c1, c2, c3, c4, c5⟩ := hA a a0 a1
  have c6 := hP.2.2.2.2.2.2.2.2.1 a a0 a1
  have c7 := hP.2.2.2.1
  unfold kf_sp_gatherAction rf_touchesAction
  rw [fr2 h.2.1 109 rfl]
  refine RR_bnd (P := fun p q => GS s K0 M0 p q) (RR_whl (I := fun (p q : Int × mR) => q.1 = M0.2 109 a + p.1 ∧ 0 ≤ p.1 ∧ GS s K0 M0 p.2 q.2) (fun p q hI => ?_) ⟨(Int.add_zero _).symm, Int.le_refl 0, h⟩) (fun p q hp => RR_some hp)
  obtain ⟨i, K1⟩ := p
  obtain ⟨j, M1⟩ := q
  obtain ⟨e, i0, hS⟩ := hI
  have e : j = M0.2 109 a + i := e
  subst e
  have i0 : 0 ≤ i := i0
  have hS : GS s K0 M0 K1 M1 := hS
  unfold kfb_sp_gatherAction_9 rfb_touchesAction_7
  dsimp only
  rw [fr2 hS.1 44 rfl, fr2 hS.1 43 rfl, fr2 hS.2.1 109 rfl, fr2 hS.2.1 50 rfl, c1, c3, cut_i (show -2147483648 ≤ M0.2 109 a + M0.2 50 a by omega) (by omega)]
  refine RR_ii (by omega) (fun _ _ => RR_some hS) (fun g1 g2 => ?_)
  rw [cut_i (show -2147483648 ≤ M0.2 109 a + i by omega) (by omega)]
  refine RR_bnd (deed_s s0 s1 hP hS (by omega) (by omega)) (fun y z hyz => ?_)
  unfold rfl_touchesAction_30
  rw [cut_i (show -2147483648 ≤ i + 1 by omega) (by omega), cut_i (by omega) (by omega)]
  exact RR_some ⟨(by show M0.2 109 a + i + 1 = M0.2 109 a + (i + 1); omega), (by show 0 ≤ i + 1; omega), hyz⟩
end GDE
