
section FBO
variable {K M K' M' : mR} {F A G C : List Nat}
def XO (M : mR) : Prop := ((M.1 24 = 0 → M.1 23 = 0) ∧ (0 < M.1 24 → M.2 39 0 = 0)) ∧ ∀ h, 0 ≤ h → h < M.1 19 → M.2 30 h % 8 = 0
def XBo (K M : mR) : Prop := XB K M ∧ XO M
theorem XO_f (h : XO M) (fM : fr G C M M') (c3 : chk [19, 23, 24] G = true) (c4 : chk [30, 39] C = true) : XO M' := by
  unfold XO
  rw [fr1 fM 19 (chk_1 c3 (by decide)), fr1 fM 23 (chk_1 c3 (by decide)), fr1 fM 24 (chk_1 c3 (by decide)), fr2 fM 30 (chk_1 c4 (by decide)), fr2 fM 39 (chk_1 c4 (by decide))]
  exact h
theorem FXo {X : Option (Int × Int × mR)} {Y : Option (Int × mR)} (h : RR X Y (GV (fun a K2 b M2 => FG_nx M a K2 b M2 ∧ XB K2 M2))) (g : ∀ y z, X = some y → Y = some z → y.1 = 0 → FB_nx y.2.2 z.2 → XO z.2) : RR X Y (GV (fun a K2 b M2 => FG_nx M a K2 b M2 ∧ XBo K2 M2)) := fun y z hy hz => by
  rcases h y z hy hz with ⟨q0, q1, q2⟩ | q
  · exact Or.inl ⟨q0, q1, q2, g y z hy hz q0 q1.1⟩
  · exact Or.inr q

theorem fo30_r {v : Int} : RP (rf_takeFieldOf v M) (fun z => ∀ j, j ≠ v → z.2.2 30 j = M.2 30 j) := by
  have t55 : ∀ (w : Int) (m : mR), m.2 30 = M.2 30 → RP (rfl_takeFieldOf_55 v w m) (fun z => ∀ j, j ≠ v → z.2.2 30 j = M.2 30 j) := fun w m e => by
    unfold rfl_takeFieldOf_55
    refine RP_bnd (uw_rfb_takeFieldOf_60 _ _ _) (fun x hx => ?_)
    have e1 : x.2 30 = M.2 30 := (fr2 hx.1 30 rfl).trans e
    unfold rfl_takeFieldOf_106 rfl_takeFieldOf_138 rfl_takeFieldOf_144 rfl_takeFieldOf_156 rfl_takeFieldOf_163
    refine RP_ite (fun _ => RP_bnd (u_rf_next _) (fun a ha => RP_bnd (u_rf_need _ _) (fun b hb => RP_bnd (u_rf_number _ _ _) (fun c hc => RP_bnd (u_rf_need _ _) (fun d hd => RP_some (fun j hj => ?_)))))) (fun _ => RP_some (fun j _ => by show x.2 30 j = _; rw [e1]))
    show upI (d.2.2 30) v _ j = _
    rw [upI_n hj, fr2 hd.1 30 rfl]
    show c.2.2 30 j = _
    rw [fr2 hc.1 30 rfl, fr2 hb.1 30 rfl, fr2 ha.1 30 rfl]
    show x.2 30 j = _
    rw [e1]
  unfold rf_takeFieldOf
  refine RP_ite (fun _ => RP_ite (fun _ => RP_ite (fun _ => RP_bnd (u_rf_wrong _ _ _) (fun a ha => t55 _ _ (fr2 ha.1 30 rfl))) (fun _ => t55 _ _ rfl)) (fun _ => RP_bnd (u_rf_bad _) (fun a ha => t55 _ _ (fr2 ha.1 30 rfl)))) (fun _ => RP_some (fun _ _ => rfl))
theorem hl30_r {v1 v2 : Int} : RP (whl (rfb_takeHeader_61 v1 v2) (1, M)) (fun e => ∀ j, j ≠ v2 → e.2 30 j = M.2 30 j) := by
  refine RP_whl (I := fun s : Int × mR => ∀ j, j ≠ v2 → s.2.2 30 j = M.2 30 j) (fun s hs => ?_) (fun _ _ => rfl)
  unfold rfb_takeHeader_61 rfl_takeHeader_77 rfl_takeHeader_97 rfl_takeHeader_98
  refine RP_ite (fun _ => RP_some hs) (fun _ => RP_ite (fun _ => RP_bnd (fo30_r (M := s.2)) (fun y hy => ?_)) (fun _ => RP_some hs))
  have q : ∀ j, j ≠ v2 → y.2.2 30 j = M.2 30 j := fun j hj => (hy j hj).trans (hs j hj)
  exact RP_ite (fun _ => RP_ite (fun _ => RP_some q) (fun _ => RP_some q)) (fun _ => RP_some q)
theorem hd30_r : RP (rf_takeHeader M) (fun z => ∀ j, j ≠ M.1 19 → z.2.2 30 j = M.2 30 j) := by
  unfold rf_takeHeader rfl_takeHeader_4 rfl_takeHeader_20
  refine RP_bnd (u_rf_next M) (fun y hy => ?_)
  have y19 : y.2.1 19 = M.1 19 := fr1 hy.1 19 rfl
  have y30 : y.2.2 30 = M.2 30 := fr2 hy.1 30 rfl
  refine RP_bnd (u_rf_newName _ _ _ _) (fun w hw => RP_ite (fun g => RP_some (fun j _ => ?_)) (fun g => ?_))
  · show w.2.2 30 j = _
    rw [fr2 hw.1 30 rfl, y30]
  have w19 : w.2.1 19 = M.1 19 := (fr1 hw.1 19 rfl).trans y19
  have w30 : w.2.2 30 = M.2 30 := (fr2 hw.1 30 rfl).trans y30
  rw [w19, w30]
  refine RP_bnd (u_rf_need _ _) (fun a ha => ?_)
  have a30 : a.2.2 30 = upI (M.2 30) (M.1 19) 0 := fr2 ha.1 30 rfl
  unfold rfl_takeHeader_59
  refine RP_bnd hl30_r (fun e he => ?_)
  have e30 : ∀ j, j ≠ M.1 19 → e.2 30 j = M.2 30 j := fun j hj => by rw [he j hj, a30, upI_n hj]
  have fin : ∀ m : mR, m.2 30 = e.2 30 → RP (rfl_takeHeader_140 m) (fun z => ∀ j, j ≠ M.1 19 → z.2.2 30 j = M.2 30 j) := fun m m2 => by
    unfold rfl_takeHeader_140
    refine RP_bnd (u_rf_need _ _) (fun b hb => RP_some (fun j hj => ?_))
    show b.2.2 30 j = _
    rw [fr2 hb.1 30 rfl, m2]
    exact e30 j hj
  have bad : ∀ v : Int, RP (rfl_takeHeader_133 v e) (fun z => ∀ j, j ≠ M.1 19 → z.2.2 30 j = M.2 30 j) := fun v => by
    unfold rfl_takeHeader_133
    exact RP_bnd (u_rf_wrong _ _ _) (fun b hb => fin b.2 (fr2 hb.1 30 rfl))
  unfold rfl_takeHeader_102
  exact RP_ite (fun _ => RP_ite (fun _ => RP_ite (fun _ => fin e rfl) (fun _ => bad _)) (fun _ => bad _)) (fun _ => fin e rfl)

theorem hdk_k : RP (kf_rd_header K) (fun y => y.1 = 0 → 0 ≤ K.1 214 → K.1 214 < 12 → (∀ i, 0 ≤ i → i < 16 → 0 ≤ y.2.2.2 10 (16 * K.1 214 + i) ∧ y.2.2.2 10 (16 * K.1 214 + i) ≤ 64) → sumW (y.2.2.2 10) (16 * K.1 214) 16 % 8 = 0) := by
  unfold kf_rd_header
  refine RP_bnd (u_kf_tx_advance K) (fun a ha => RP_ite (fun g1 => RP_bndT (fun b => RP_ite (fun g2 => RP_bndT (fun c => RP_ite (fun g3 => ?_) (fun g3 => RP_some (fun q => absurd q g3)))) (fun g2 => RP_some (fun q => absurd q g2)))) (fun g1 => RP_some (fun q => absurd q g1)))
  have a14 : a.2.2.1 214 = K.1 214 := fr1 ha 214 rfl
  rw [a14]
  refine RP_bnd (P := sel (fun _ : mR => True) (fun e : Int × mR => e.1 ≠ 0)) (RP_whl (I := fun _ : Int × mR => True) (fun s _ => ?_) trivial) (RP_sl (fun e _ => ?_) (fun e he => RP_some (fun q => absurd q he)))
  · unfold kfb_rd_header_60 kfl_rd_header_83
    exact RP_ite (fun _ => RP_some trivial) (fun _ => RP_ite (fun _ => RP_bndT (fun y => RP_ite (fun _ => RP_some trivial) (fun q => RP_some q))) (fun _ => RP_ite (fun _ => RP_bndT (fun y => RP_ite (fun _ => RP_some trivial) (fun q => RP_some q))) (fun _ => RP_some trivial)))
  · have t147 : ∀ m : mR, RP (kfl_rd_header_147 m) (fun y => y.2.2.2 10 = m.2 10) := fun m => by
      unfold kfl_rd_header_147
      exact RP_bnd (u_kf_tx_advance m) (fun y hy => RP_ite (fun _ => RP_some (fr2 hy 10 rfl)) (fun _ => RP_some (fr2 hy 10 rfl)))
    have t114 : ∀ (v2 : Int) (m : mR), RP (kfl_rd_header_114 (K.1 214) v2 m) (fun y => y.1 = 0 → 0 ≤ K.1 214 → K.1 214 < 12 → (∀ i, 0 ≤ i → i < 16 → 0 ≤ y.2.2.2 10 (16 * K.1 214 + i) ∧ y.2.2.2 10 (16 * K.1 214 + i) ≤ 64) → sumW (y.2.2.2 10) (16 * K.1 214) 16 % 8 = 0) := fun v2 m => by
      unfold kfl_rd_header_114
      refine RP_bnd (RP_se _) (fun x hx => ?_)
      have t137 : RP (kfl_rd_header_137 v2 m) (fun y => y.1 ≠ 0) := by
        unfold kfl_rd_header_137
        refine RP_bnd (fail_1 8 v2 m) (fun y hy => ?_)
        rw [if_neg hy]
        exact RP_some hy
      refine RP_ite (fun g => RP_ite (fun _ => RP_w (t147 m) (fun y hy _ k0 k1 hb => ?_)) (fun _ => RP_w t137 (fun y hy q => absurd q hy))) (fun _ => RP_w t137 (fun y hy q => absurd q hy))
      rw [hy] at hb ⊢
      have e := hbits_k (K := m) k0 k1 hb x hx
      rw [← e]
      have := Int.dvd_of_tmod_eq_zero g
      omega
    unfold kfl_rd_header_95
    exact RP_ite (fun _ => t114 _ _) (fun _ => RP_bndT (fun y => RP_ite (fun _ => t114 _ _) (fun q => RP_some (fun z => absurd z q))))
theorem header_xo (h : FB_nx K M) (hx : XBo K M) (hw : M.1 7 = 300) : RR (kf_rd_header K) (rf_takeHeader M) (GV (fun a K2 b M2 => FG_nx M a K2 b M2 ∧ XBo K2 M2)) := FXo (header_xb h hx.1 hw) (fun y z hy hz q0 hF => by
  have fM := (u_rf_takeHeader M z hz).1
  obtain ⟨⟨x1, x2⟩, x3⟩ := hx.2
  have hP := h.1.2.1
  have hP2 := hF.1.2.1
  obtain ⟨⟨c1, -⟩, r1, -⟩ := id hP.1
  obtain ⟨⟨d1, -⟩, s1, -⟩ := id hP2.1
  refine ⟨⟨by rw [fr1 fM 23 rfl, fr1 fM 24 rfl]; exact x1, by rw [fr1 fM 24 rfl, fr2 fM 39 rfl]; exact x2⟩, fun j j0 j1 => ?_⟩
  obtain ⟨b1, b2, ⟨b3, b4, b5⟩, b6, b7⟩ := hP2.2.2.1.1 j j0 j1
  by_cases e : j = M.1 19
  · rw [e] at b1 b2 b3 b6 b7 j1 ⊢
    rw [b3, ← c1]
    rw [← c1] at b6 b7 j1
    refine hdk_k y hy q0 (by omega) (by omega) (fun i i0 i1 => ?_)
    by_cases q : i < z.2.2 29 (K.1 214)
    · obtain ⟨p1, p2, p3, -⟩ := b6 i i0 q
      rw [p1]
      omega
    · rw [b7 i (by omega) i1]
      decide
  · rw [hd30_r z hz j e]
    have k19 : z.2.1 19 ≤ M.1 19 + 1 := by
      rcases header_s_nx h.1.1 hP.1 hP.2.2.1 hP.2.2.2.1 hw y z hy hz with ⟨-, -, -, -, w, -⟩ | ⟨w, -⟩
      · omega
      · exact absurd q0 w
    exact x3 j j0 (by omega))
theorem inst_xo (h : FB_nx K M) (hx : XBo K M) (hw : M.1 7 = 301) : RR (kf_rd_instance K) (rf_takeUse M) (GV (fun a K2 b M2 => FG_nx M a K2 b M2 ∧ XBo K2 M2)) := FXo (inst_xb h hx.1 hw) (fun y z hy hz q0 hF => XO_f hx.2 (u_rf_takeUse M z hz).1 rfl rfl)
theorem meta_xo (h : FB_nx K M) (hx : XBo K M) (hw : M.1 7 = 302) : RR (kf_rd_meta K) (rf_takeMeta M) (GV (fun a K2 b M2 => FG_nx M a K2 b M2 ∧ XBo K2 M2)) := FXo (meta_xb h hx.1 hw) (fun y z hy hz q0 hF => XO_f hx.2 (u_rf_takeMeta M z hz).1 rfl rfl)
theorem arr_xo (h : FB_nx K M) (hx : XBo K M) (hw : M.1 7 = 303) : RR (kf_rd_array K) (rf_takeArray M) (GV (fun a K2 b M2 => FG_nx M a K2 b M2 ∧ XBo K2 M2)) := FXo (arr_xb h hx.1 hw) (fun y z hy hz q0 hF => XO_f hx.2 (u_rf_takeArray M z hz).1 rfl rfl)
theorem action_xo (h : FB_nx K M) (hx : XBo K M) (hw : M.1 7 = 309) : RR (kf_rd_action K) (rf_takeAction M) (GV (fun a K2 b M2 => FG_nx M a K2 b M2 ∧ XBo K2 M2)) := FXo (action_xb h hx.1 hw) (fun y z hy hz q0 hF => XO_f hx.2 (u_rf_takeAction M z hz).1 rfl rfl)
theorem table_xo (h : FB_nx K M) (hx : XBo K M) (hw : M.1 7 = 310) : RR (kf_rd_table K) (rf_takeTable M) (GV (fun a K2 b M2 => FG_nx M a K2 b M2 ∧ XBo K2 M2)) := FXo (table_xb h hx.1 hw) (fun y z hy hz q0 hF => XO_f hx.2 (u_rf_takeTable M z hz).1 rfl rfl)

theorem st179_39 {v : Int} (b0 : 0 ≤ M.1 24) : RP (rfl_takeState_179 v M) (fun z => z.2.2 39 = upI (M.2 39) (M.1 24) v) := by
  unfold rfl_takeState_179
  refine RP_bnd (u_rf_next _) (fun y hy => RP_w (u_rfl_takeState_243 _ y.2) (fun z hz => ?_))
  rw [fr2 hz.1 39 rfl, fr2 hy.1 39 rfl]
  rfl
theorem st140_39 {v1 v2 : Int} (b0 : 0 ≤ M.1 24) : RP (rfl_takeState_140 v1 v2 M) (fun z => 0 < z.2.1 10 ∨ z.2.2 39 = upI (M.2 39) (M.1 24) v2) := by
  unfold rfl_takeState_140 rfl_takeState_169
  refine RP_ite (fun g => RP_ite (fun g2 => ?_) (fun g2 => RP_w (st179_39 b0) (fun z hz => Or.inr hz))) (fun g => RP_some (Or.inl (by show 0 < M.1 10; omega)))
  refine RP_bnd (u_rf_enter 5 v2 _) (fun y hy => ?_)
  have e : y.2.1 24 = M.1 24 := fr1 hy.1 24 rfl
  have e2 : y.2.2 39 = M.2 39 := fr2 hy.1 39 rfl
  refine RP_w (st179_39 (M := mO y.2 [(23, cut (y.2.1 23 + 1))] []) (by show 0 ≤ y.2.1 24; omega)) (fun z hz => Or.inr ?_)
  have hz : z.2.2 39 = upI (y.2.2 39) (y.2.1 24) v2 := hz
  rw [hz, e, e2]

theorem st39_r (b0 : 0 ≤ M.1 24) (hW : ∀ y : Int × mR, rf_next M = some y → y.2.1 10 ≤ 0 → y.2.1 7 = 1 → rf_sortHere y.2 = some 5 → ∀ i, rf_whichHere y.2 = some i → i < 0 ∨ i < M.1 23) : RP (rf_takeState M) (fun z => 0 < z.2.1 10 ∨ ∃ v, z.2.2 39 = upI (M.2 39) (M.1 24) v ∧ (v = M.1 23 ∨ (0 ≤ v ∧ v < M.1 23))) := by
  unfold rf_takeState rfl_takeState_4 rfl_takeState_113 rfl_takeState_58 rfl_takeState_76 rfl_takeState_77 rfl_takeState_133
  refine RP_bnd (RP_and (u_rf_next M) (RP_se _)) (fun y hy => ?_)
  obtain ⟨hy, hyn⟩ := hy
  have e : y.2.1 24 = M.1 24 := fr1 hy.1 24 rfl
  have e3 : y.2.1 23 = M.1 23 := fr1 hy.1 23 rfl
  have e9 : y.2.2 39 = M.2 39 := fr2 hy.1 39 rfl
  have go : ∀ v1 v2, (v2 = M.1 23 ∨ (0 ≤ v2 ∧ v2 < M.1 23)) → RP (rfl_takeState_140 v1 v2 y.2) (fun z => 0 < z.2.1 10 ∨ ∃ v, z.2.2 39 = upI (M.2 39) (M.1 24) v ∧ (v = M.1 23 ∨ (0 ≤ v ∧ v < M.1 23))) := fun v1 v2 hv => RP_w (st140_39 (by omega)) (fun z hz => by
    rcases hz with hz | hz
    · exact Or.inl hz
    · rw [e, e9] at hz
      exact Or.inr ⟨v2, hz, hv⟩)
  have wr : ∀ a v1 v2, 0 < a → RP (bnd (rf_wrong a (y.2.1 8) y.2) fun y60 => rfl_takeState_140 v1 v2 y60.2) (fun z => 0 < z.2.1 10 ∨ ∃ v, z.2.2 39 = upI (M.2 39) (M.1 24) v ∧ (v = M.1 23 ∨ (0 ≤ v ∧ v < M.1 23))) := fun a v1 v2 ha => RP_bnd (wrong_1 ha) (fun w hw => by
    unfold rfl_takeState_140
    rw [if_neg (by omega)]
    exact RP_some (Or.inl hw))
  refine RP_ite (fun g => RP_ite (fun g2 => RP_bnd (RP_se _) (fun t ht => RP_ite (fun g3 => RP_bnd (RP_se _) (fun i hi => RP_ite (fun g4 => ?_) (fun g4 => RP_ite (fun _ => go _ _ ?_) (fun _ => ?_)))) (fun g3 => ?_))) (fun g2 => RP_bnd (bad_1 y.2) (fun w hw => RP_some (Or.inl hw)))) (fun g => RP_some (Or.inl (by show 0 < y.2.1 10; omega)))
  · exact RP_ite (fun _ => wr _ _ _ (by decide)) (fun _ => RP_ite (fun _ => wr _ _ _ (by decide)) (fun _ => wr _ _ _ (by decide)))
  · rw [g3] at ht
    rcases hW y hyn g g2 ht i hi with q | q
    · exact absurd q g4
    · exact Or.inr ⟨by omega, q⟩
  · exact RP_ite (fun _ => wr _ _ _ (by decide)) (fun _ => RP_ite (fun _ => wr _ _ _ (by decide)) (fun _ => wr _ _ _ (by decide)))
  · rw [e3]
    exact RP_ite (fun g4 => RP_ite (fun _ => wr _ _ _ (by decide)) (fun _ => RP_ite (fun _ => go _ _ (Or.inl rfl)) (fun _ => RP_ite (fun _ => wr _ _ _ (by decide)) (fun _ => wr _ _ _ (by decide))))) (fun g4 => RP_ite (fun _ => go _ _ (Or.inl rfl)) (fun _ => RP_ite (fun _ => wr _ _ _ (by decide)) (fun _ => wr _ _ _ (by decide))))

theorem wh5_r (h : LR K M) (hN : NC K M) (h1 : M.1 7 = 1) (ht : rf_sortHere M = some 5) {i : Int} (hi : rf_whichHere M = some i) : i < 0 ∨ i < M.1 23 := by
  obtain ⟨g, k, b1, b2, b3⟩ := sort_r h.1.1 h.2.2.1.1 h.2.2.1.2.2.2.2.2 (LR_8 h h1) 5 ht
  obtain ⟨g', k', d1, d2, d3⟩ := which_r h.1.1 h.2.2.1.1 h.2.2.1.2.2.2.2.2 (LR_8 h h1) i hi
  have eg := isGH_u d1 b1
  subst eg
  by_cases q : g' < 0
  · have ek := isFH_u (d2 q) (b2 q)
    subst ek
    unfold sortV at b3
    unfold whichV at d3
    rw [if_neg (by omega)] at b3 d3
    rcases d2 q with ⟨k0, k1, -⟩ | ⟨kn, -⟩
    · rw [if_neg (by omega)] at b3
      have hb := (hN k' k0 k1).2.2.2.2.1 b3.symm
      omega
    · rw [if_pos (by omega)] at b3
      omega
  · unfold sortV at b3
    unfold whichV at d3
    rw [if_pos (by omega)] at b3 d3
    by_cases q2 : g' < 3
    · rw [if_pos q2] at b3
      omega
    · rw [if_neg q2] at d3
      refine Or.inl ?_
      rw [d3]
      split <;> decide
theorem state_xo (h : FB_nx K M) (hx : XBo K M) (hw : M.1 7 = 304) : RR (kf_rd_state K) (rf_takeState M) (GV (fun a K2 b M2 => FG_nx M a K2 b M2 ∧ XBo K2 M2)) := FXo (state_xb h hx.1 hw) (fun y z hy hz q0 hF => by
  have fM := (u_rf_takeState M z hz).1
  obtain ⟨⟨x1, x2⟩, x3⟩ := hx.2
  have hP := h.1.2.1
  obtain ⟨-, r1, r2, r3, r4, r5, ⟨r6, r6'⟩, -⟩ := id hP.1
  have f0 : z.2.1 10 = 0 := hF.1.1.2.2.2.2
  have m24 : z.2.1 24 = M.1 24 + 1 := by
    rcases state24_r_nx (by omega) (by omega) z hz with q | q
    · omega
    · exact q
  have hW : ∀ n : Int × mR, rf_next M = some n → n.2.1 10 ≤ 0 → n.2.1 7 = 1 → rf_sortHere n.2 = some 5 → ∀ i, rf_whichHere n.2 = some i → i < 0 ∨ i < M.1 23 := fun n hn n10 n7 ht i hi => by
    have hk : ∃ a, kf_tx_advance K = some a := by
      unfold kf_rd_state at hy
      cases hk : kf_tx_advance K with
      | none => rw [hk] at hy; cases hy
      | some a => exact ⟨a, rfl⟩
    obtain ⟨a, hk⟩ := hk
    rcases adv_s_nx h.1.1 (by omega) a n hk hn with ⟨a1, a2, a3, a4, a5⟩ | ⟨a1, a2⟩
    · have := wh5_r a2 (NC_f a3 a4 rfl rfl rfl rfl hP.2.1) n7 ht hi
      rw [fr1 a4 23 rfl] at this
      exact this
    · omega
  refine ⟨⟨fun q => by omega, fun _ => ?_⟩, fun j j0 j1 => ?_⟩
  · rcases st39_r (by omega) hW z hz with q | ⟨v, q, hv⟩
    · omega
    · rw [q]
      by_cases e : M.1 24 = 0
      · rw [e, upI_s]
        have := x1 e
        omega
      · rw [upI_n (by omega)]
        exact x2 (by omega)
  · rw [fr1 fM 19 rfl] at j1
    rw [fr2 fM 30 rfl]
    exact x3 j j0 j1)

theorem chk_r (n0 : 0 ≤ M.1 23) (n1 : M.1 23 ≤ 16) (h37 : ∀ s, 0 ≤ s → s < M.1 23 → M.2 38 s < 0 → 0 ≤ M.2 37 s) : RP (rf_checkStates M) (fun z => fr rF_checkStates rA_checkStates M z.2 ∧ (0 < z.2.1 10 ∨ ∀ s, 0 ≤ s → s < M.1 23 → M.2 38 s < 0 → M.2 37 s < 0)) := by
  refine RP_and (RP_w (u_rf_checkStates M) (fun z hz => hz.1)) ?_
  unfold rf_checkStates
  refine RP_bnd (P := fun e : Int => 0 ≤ e ∨ ∀ s, 0 ≤ s → s < M.1 23 → M.2 38 s < 0 → M.2 37 s < 0) (RP_whl (I := fun q : Int × Int => (0 ≤ q.2 ∧ q.2 ≤ M.1 23) ∧ (0 ≤ q.1 ∨ ∀ s, 0 ≤ s → s < q.2 → M.2 38 s < 0 → M.2 37 s < 0)) (fun q hq => ?_) ⟨⟨Int.le_refl _, n0⟩, Or.inr (fun s s0 s1 => by have s1 : s < 0 := s1; omega)⟩) (fun e he => ?_)
  · obtain ⟨v, i⟩ := q
    obtain ⟨⟨i0, i1⟩, hi⟩ := hq
    have i0 : 0 ≤ i := i0
    have i1 : i ≤ M.1 23 := i1
    have hi : 0 ≤ v ∨ ∀ s, 0 ≤ s → s < i → M.2 38 s < 0 → M.2 37 s < 0 := hi
    unfold rfb_checkStates_4 rfl_checkStates_35 rfl_checkStates_42
    show RP (if M.1 23 ≤ i then some (Sum.inr v) else if (0 : Int) ≤ M.2 38 i then some (Sum.inl (v, cut (i + 1))) else if v < 0 then some (Sum.inl (M.2 37 i, cut (i + 1))) else if v ≤ M.2 37 i then some (Sum.inl (v, cut (i + 1))) else some (Sum.inl (M.2 37 i, cut (i + 1)))) _
    rw [cut_i (z := i + 1) (by omega) (by omega)]
    have b : 0 ≤ i + 1 ∧ (¬ M.1 23 ≤ i → i + 1 ≤ M.1 23) := ⟨by omega, fun q => by omega⟩
    refine RP_ite (fun g => RP_some ?_) (fun g => RP_ite (fun g2 => RP_some ⟨⟨b.1, b.2 g⟩, ?_⟩) (fun g2 => RP_ite (fun g3 => RP_some ⟨⟨b.1, b.2 g⟩, ?_⟩) (fun g3 => RP_ite (fun g4 => RP_some ⟨⟨b.1, b.2 g⟩, Or.inl (show 0 ≤ v by omega)⟩) (fun g4 => RP_some ⟨⟨b.1, b.2 g⟩, ?_⟩))))
    · show 0 ≤ v ∨ _
      rcases hi with hi | hi
      · exact Or.inl hi
      · exact Or.inr (fun s s0 s1 => hi s s0 (by omega))
    · show 0 ≤ v ∨ _
      rcases hi with hi | hi
      · exact Or.inl hi
      · refine Or.inr (fun s s0 s1 q => ?_)
        have s1 : s < i + 1 := s1
        by_cases es : s = i
        · rw [es] at q; omega
        · exact hi s s0 (by omega) q
    · show 0 ≤ M.2 37 i ∨ _
      rcases hi with hi | hi
      · omega
      · by_cases w : 0 ≤ M.2 37 i
        · exact Or.inl w
        · refine Or.inr (fun s s0 s1 q => ?_)
          have s1 : s < i + 1 := s1
          by_cases es : s = i
          · rw [es]; omega
          · exact hi s s0 (by omega) q
    · show 0 ≤ M.2 37 i ∨ _
      by_cases w : 0 ≤ M.2 37 i
      · exact Or.inl w
      · exact absurd (h37 i i0 (by omega) (by omega)) w
  · unfold rfl_checkStates_48
    refine RP_ite (fun g => RP_w (RP_T _) (fun z _ => ?_)) (fun g => RP_bnd (wrong_1 (by decide)) (fun w hw => RP_w (u_rfl_checkStates_59 w.2) (fun z hz => Or.inl (hz.2 hw))))
    rcases he with he | he
    · omega
    · exact Or.inr he
theorem all38_r (n0 : 0 ≤ M.1 23) (n1 : M.1 23 ≤ 16) (h37 : ∀ s, 0 ≤ s → s < M.1 23 → M.2 38 s < 0 → 0 ≤ M.2 37 s) : RP (rfl_read_182 M) (fun z => z.2.1 127 ≠ 1 ∨ ∀ s, 0 ≤ s → s < z.2.1 23 → z.2.2 38 s < 0 → z.2.2 37 s < 0) := by
  have t219 : ∀ m : mR, (m.1 10 ≠ 0 ∨ ∀ s, 0 ≤ s → s < m.1 23 → m.2 38 s < 0 → m.2 37 s < 0) → RP (rfl_read_219 m) (fun z => z.2.1 127 ≠ 1 ∨ ∀ s, 0 ≤ s → s < z.2.1 23 → z.2.2 38 s < 0 → z.2.2 37 s < 0) := fun m hm => by
    unfold rfl_read_219 rfl_read_232
    have no : ∀ u : Int, RP (rfl_read_248 0 (mO m [(1, u)] [])) (fun z => z.2.1 127 ≠ 1 ∨ ∀ s, 0 ≤ s → s < z.2.1 23 → z.2.2 38 s < 0 → z.2.2 37 s < 0) := fun u => by
      unfold rfl_read_248 rfl_read_266
      rw [if_pos rfl]
      exact RP_some (Or.inl (by show (0 : Int) ≠ 1; decide))
    have yes : ∀ u : Int, m.1 10 = 0 → RP (rfl_read_248 1 (mO m [(1, u)] [])) (fun z => z.2.1 127 ≠ 1 ∨ ∀ s, 0 ≤ s → s < z.2.1 23 → z.2.2 38 s < 0 → z.2.2 37 s < 0) := fun u g => by
      unfold rfl_read_248 rfl_read_266
      rw [if_neg (show ¬ (1 : Int) = 0 by decide)]
      rcases hm with hm | hm
      · exact absurd g hm
      · exact RP_some (Or.inr hm)
    exact RP_ite (fun _ => RP_ite (fun g => yes _ g) (fun _ => no _)) (fun _ => RP_ite (fun g => yes _ g) (fun _ => no _))
  have t208 : ∀ m : mR, m.1 23 = M.1 23 ∧ m.2 38 = M.2 38 ∧ m.2 37 = M.2 37 → RP (rfl_read_208 m) (fun z => z.2.1 127 ≠ 1 ∨ ∀ s, 0 ≤ s → s < z.2.1 23 → z.2.2 38 s < 0 → z.2.2 37 s < 0) := fun m e => by
    obtain ⟨e, e38, e37⟩ := e
    unfold rfl_read_208
    refine RP_ite (fun g => RP_bnd (chk_r (M := m) (by omega) (by omega) (by rw [e, e38, e37]; exact h37)) (fun y hy => t219 y.2 ?_)) (fun g => t219 m (Or.inl g))
    obtain ⟨f, q⟩ := hy
    rcases q with q | q
    · exact Or.inl (by omega)
    · refine Or.inr ?_
      rw [fr1 f 23 rfl, fr2 f 38 rfl, fr2 f 37 rfl]
      exact q
  unfold rfl_read_182 rfl_read_186
  refine RP_bnd (u_rf_takeControl M) (fun a ha => RP_bnd (u_rf_takeEmit a.2) (fun b hb => ?_))
  have e : b.2.1 23 = M.1 23 ∧ b.2.2 38 = M.2 38 ∧ b.2.2 37 = M.2 37 := ⟨(fr1 hb.1 23 rfl).trans (fr1 ha.1 23 rfl), (fr2 hb.1 38 rfl).trans (fr2 ha.1 38 rfl), (fr2 hb.1 37 rfl).trans (fr2 ha.1 37 rfl)⟩
  unfold rfl_read_190
  exact RP_ite (fun _ => RP_ite (fun _ => t208 _ e) (fun _ => RP_bnd (u_rf_bad _) (fun c hc => t208 _ ⟨(fr1 hc.1 23 rfl).trans e.1, (fr2 hc.1 38 rfl).trans e.2.1, (fr2 hc.1 37 rfl).trans e.2.2⟩))) (fun _ => t208 _ e)
end FBO

def UQT (K : mR) : Prop := ∀ s s', 0 ≤ s → s < s' → s' < K.1 225 → K.2 55 s = K.2 55 s' → K.2 55 s = -1
section UQ1
variable {K : mR}
def UQW (K : mR) : Prop := (0 ≤ K.1 225 ∧ K.1 225 ≤ 48) ∧ UQT K
theorem UQW_f {F A : List Nat} {y : mR} (h : UQW K) (f : fr F A K y) (c1 : chk [225] F = true) (c2 : chk [55] A = true) : UQW y := by
  unfold UQW UQT
  rw [fr1 f 225 (chk_1 c1 (by decide)), fr2 f 55 (chk_1 c2 (by decide))]
  exact h
theorem apply_uq {v : Int} (h : UQW K) (v0 : v + 1 = K.1 225) : RP (kf_rd_apply v K) (fun y => y.1 = 0 → UQW y.2.2) := by
  have L : ∀ (t : Int) (m : mR), UQW m → m.1 225 = K.1 225 → (∀ s, 0 ≤ s → s < m.1 225 → m.2 55 s ≠ t) → RP (kfl_rd_apply_48 v t m) (fun y => y.1 = 0 → UQW y.2.2) := fun t m hm e ht => by
    have w : UQW (mO m [] [(55, upI (m.2 55) v t)]) := by
      refine ⟨hm.1, fun s s' s0 s1 s2 hq => ?_⟩
      have s2 : s' < m.1 225 := s2
      have hq : upI (m.2 55) v t s = upI (m.2 55) v t s' := hq
      show upI (m.2 55) v t s = -1
      have sv : s ≠ v := by omega
      rw [upI_n sv] at hq ⊢
      by_cases e' : s' = v
      · rw [e', upI_s] at hq
        exact absurd hq (ht s s0 (by omega))
      · rw [upI_n e'] at hq
        exact hm.2 s s' s0 s1 s2 hq
    unfold kfl_rd_apply_48
    refine RP_bnd (u_kf_tx_expect _ _) (fun y hy => RP_ite (fun _ => RP_some (fun _ => ?_)) (fun e => RP_some (fun q => absurd q e)))
    exact UQW_f w hy rfl rfl
  unfold kf_rd_apply
  refine RP_bnd (u_kf_tx_advance K) (fun y hy => RP_ite (fun _ => ?_) (fun e => RP_some (fun q => absurd q e)))
  refine RP_bnd (u_kf_tx_known _ _) (fun z hz => RP_ite (fun _ => ?_) (fun e => RP_some (fun q => absurd q e)))
  have hw : UQW z.2.2 := UQW_f (UQW_f h hy rfl rfl) hz rfl rfl
  have e225 : z.2.2.1 225 = K.1 225 := (fr1 hz 225 rfl).trans (fr1 hy 225 rfl)
  refine RP_bnd (applying_k_nx hw.1.1 hw.1.2) (fun a ha => RP_ite (fun e => ?_) (fun e => RP_bnd (fail_1 _ _ _) (fun b hb => by rw [if_neg hb]; exact RP_some (fun q => absurd q hb))))
  rcases ha with ⟨a0, -⟩ | ⟨-, ha⟩
  · omega
  · exact L _ _ hw e225 ha
theorem ib_uq (h : UQW K) : RP (kf_rd_inBlock K) (fun y => y.1 = 0 → UQW y.2.2) := by
  have i121 : ∀ v1 v2 u : Int, K.1 225 < 48 → RP (kfl_rd_inBlock_121 v1 v2 u K) (fun y => y.1 = 0 → UQW y.2.2) := fun v1 v2 u h48 => by
    unfold kfl_rd_inBlock_121 kf_sp_add
    rw [bnd_some, cut_i (z := K.1 225 + 1) (by have := h.1; omega) (by omega)]
    have w : UQW (mO K [(225, K.1 225 + 1)] [(52, upI (K.2 52) (K.1 225) u), (53, upI (K.2 53) (K.1 225) ((K.2 66) (K.1 227))), (54, upI (K.2 54) (K.1 225) ((K.2 67) (K.1 227))), (55, upI (K.2 55) (K.1 225) (-1)), (56, upI (K.2 56) (K.1 225) (-1)), (58, upI (K.2 58) (K.1 225) (-1))]) := by
      refine ⟨⟨by show 0 ≤ K.1 225 + 1; have := h.1; omega, by show K.1 225 + 1 ≤ 48; omega⟩, fun s s' s0 s1 s2 hq => ?_⟩
      have s2 : s' < K.1 225 + 1 := s2
      have hq : upI (K.2 55) (K.1 225) (-1) s = upI (K.2 55) (K.1 225) (-1) s' := hq
      show upI (K.2 55) (K.1 225) (-1) s = -1
      by_cases e : s' = K.1 225
      · rw [hq, e, upI_s]
      · rw [upI_n (by omega), upI_n e] at hq
        rw [upI_n (by omega)]
        exact h.2 s s' s0 s1 (by omega) hq
    refine RP_ite (fun _ => RP_ite (fun _ => RP_bnd (u_kf_rd_statement _ _) (fun y hy => RP_ite (fun e => RP_some (fun _ => ?_)) (fun e => RP_some (fun q => absurd q e)))) (fun _ => RP_bnd (apply_uq w rfl) (fun y hy => RP_ite (fun e => RP_some (fun _ => hy e)) (fun e => RP_some (fun q => absurd q e))))) (fun _ => RP_bnd (u_kf_rd_openIf _ _) (fun y hy => RP_ite (fun e => RP_some (fun _ => UQW_f w hy rfl rfl)) (fun e => RP_some (fun q => absurd q e))))
    exact UQW_f (UQW_f w hy rfl rfl) (fr_m fr_0 rfl rfl : fr [] [56] y.2.2 (mO y.2.2 [] [(56, upI (y.2.2.2 56) (K.1 225) y.2.1)])) rfl rfl
  have i77 : ∀ v1 v2 : Int, RP (kfl_rd_inBlock_77 v1 v2 K) (fun y => y.1 = 0 → UQW y.2.2) := fun v1 v2 => by
    unfold kfl_rd_inBlock_77 kfl_rd_inBlock_104
    exact RP_ite (fun g => RP_ite (fun _ => RP_ite (fun _ => i121 _ _ _ g) (fun _ => i121 _ _ _ g)) (fun _ => i121 _ _ _ g)) (fun _ => RP_bnd (fail_1 _ _ _) (fun y hy => by rw [if_neg hy]; exact RP_some (fun q => absurd q hy)))
  have i37 : ∀ v1 u : Int, RP (kfl_rd_inBlock_37 v1 u K) (fun y => y.1 = 0 → UQW y.2.2) := fun v1 u => by
    unfold kfl_rd_inBlock_37
    exact RP_ite (fun _ => RP_bnd (u_kf_rd_closeBlock K) (fun y hy => RP_ite (fun _ => RP_some (fun _ => UQW_f h hy rfl rfl)) (fun e => RP_some (fun q => absurd q e)))) (fun _ => RP_ite (fun _ => RP_ite (fun _ => RP_bndT (fun _ => RP_ite (fun _ => RP_bnd (refuse_1 _) (fun y hy => by rw [if_neg hy]; exact RP_some (fun q => absurd q hy))) (fun _ => i77 _ _))) (fun _ => i77 _ _)) (fun _ => i77 _ _))
  unfold kf_rd_inBlock kfl_rd_inBlock_18
  exact RP_ite (fun _ => RP_ite (fun _ => i37 _ _) (fun _ => i37 _ _)) (fun _ => RP_ite (fun _ => i37 _ _) (fun _ => i37 _ _))
theorem ctl_uq (k225 : K.1 225 = 0) : RP (kfl_pw_read_202 K) (fun y => y.1 = 0 → UQT y.2.2) := by
  unfold kfl_pw_read_202
  refine RP_bnd (u_kf_rd_openControl K) (fun y hy => RP_ite (fun _ => ?_) (fun e => RP_some (fun q => absurd q e)))
  have c0 : UQW K := ⟨⟨by omega, by omega⟩, fun s s' s0 s1 s2 => by omega⟩
  have cy : UQW y.2.2 := UQW_f c0 hy rfl rfl
  refine RP_bnd (P := sel (fun e : mR => UQW e) (fun e : Int × mR => e.1 ≠ 0)) (RP_whl (I := fun s : Int × mR => UQW s.2) (fun s hs => ?_) cy) (RP_sl (fun e he => ?_) (fun e he => RP_some (fun q => absurd q he)))
  · unfold kfb_pw_read_211
    refine RP_ite (fun _ => RP_some hs) (fun g => RP_ite (fun _ => RP_some hs) (fun _ => ?_))
    exact RP_bnd (ib_uq hs) (fun z hz => RP_ite (fun e => RP_some (hz e)) (fun e => RP_some e))
  · exact RP_w (u_kfl_pw_read_241 e) (fun w hw _ => (UQW_f he hw rfl rfl).2)
end UQ1

section FBZ
variable {K M : mR}
def rd2F : List Nat := [1, 7, 8, 9, 10, 11, 12, 27, 28, 69, 70, 71, 72, 73, 74, 75, 99, 100, 119, 125, 127]
def rd2A : List Nat := [59, 60, 61, 62, 63, 65, 66, 67, 68, 76, 77, 78, 79, 80, 81, 82, 83, 84, 85, 86, 87, 88, 89, 90, 91, 92, 101, 102, 103, 104, 105, 106, 107, 108, 117, 118, 120, 121, 122, 123, 124, 126]
theorem r182_u : RP (rfl_read_182 M) (fun z => fr rd2F rd2A M z.2) := by
  have r219 : ∀ m : mR, fr rd2F rd2A M m → RP (rfl_read_219 m) (fun z => fr rd2F rd2A M z.2) := fun m hm => by
    have a : ∀ v : Int, fr rd2F rd2A M (mO m [(1, v)] []) := fun v => fr_m hm rfl rfl
    have b : ∀ v w : Int, fr rd2F rd2A M (mO (mO m [(1, v)] []) [(127, w)] []) := fun v w => fr_m (a v) rfl rfl
    unfold rfl_read_219 rfl_read_232 rfl_read_248 rfl_read_266
    exact RP_ite (fun _ => RP_ite (fun _ => RP_ite (fun _ => RP_some (b _ _)) (fun _ => RP_some (b _ _))) (fun _ => RP_ite (fun _ => RP_some (b _ _)) (fun _ => RP_some (b _ _)))) (fun _ => RP_ite (fun _ => RP_ite (fun _ => RP_some (b _ _)) (fun _ => RP_some (b _ _))) (fun _ => RP_ite (fun _ => RP_some (b _ _)) (fun _ => RP_some (b _ _))))
  have r208 : ∀ m : mR, fr rd2F rd2A M m → RP (rfl_read_208 m) (fun z => fr rd2F rd2A M z.2) := fun m hm => by
    unfold rfl_read_208
    exact RP_ite (fun _ => RP_bnd (u_rf_checkStates m) (fun y hy => r219 _ (fr_s hy.1 hm (by decide +kernel) (by decide +kernel)))) (fun _ => r219 _ hm)
  unfold rfl_read_182 rfl_read_186 rfl_read_190
  refine RP_bnd (u_rf_takeControl M) (fun y hy => RP_bnd (u_rf_takeEmit y.2) (fun z hz => ?_))
  have fz : fr rd2F rd2A M z.2 := fr_s hz.1 (fr_s hy.1 fr_0 (by decide +kernel) (by decide +kernel)) (by decide +kernel) (by decide +kernel)
  exact RP_ite (fun _ => RP_ite (fun _ => r208 _ fz) (fun _ => RP_bnd (u_rf_bad z.2) (fun w hw => r208 _ (fr_s hw.1 fz (by decide +kernel) (by decide +kernel))))) (fun _ => r208 _ fz)

def CUo (K y : mR) (n : Int) : Prop := 800 < y.1 220 ∨ (NBL K y ∧ DRb (K.1 224) K y ∧ (K.1 224 ≤ y.1 224 ∧ y.1 224 ≤ K.1 224 + n) ∧ (0 ≤ y.1 225 ∧ y.1 225 ≤ n) ∧ ∀ s, 0 ≤ s → s < y.1 225 → ST1 s K y)
theorem CUo_f {F A : List Nat} {y y' : mR} {n : Int} (h : CUo K y n) (f : fr F A y y') (c1 : chk [220, 224, 225] F = true) (c2 : chk [10, 13, 14, 15, 18, 19, 20, 21, 22, 24, 39, 40, 45, 46, 47, 48, 49, 50, 51, 52, 56, 57, 58] A = true) : CUo K y' n := by
  have e220 := fr1 f 220 (chk_1 c1 (by decide))
  have e224 := fr1 f 224 (chk_1 c1 (by decide))
  have e225 := fr1 f 225 (chk_1 c1 (by decide))
  rcases h with h | ⟨h1, h2, h3, h4, h5⟩
  · exact Or.inl (by rw [e220]; exact h)
  · have hn := NBL_f f (chk_s c1 rfl) (chk_s c2 rfl)
    refine Or.inr ⟨NBL_t h1 hn, DRb_f h2 f (chk_s c2 rfl), by rw [e224]; exact h3, by rw [e225]; exact h4, fun s s0 s1 => ?_⟩
    rw [e225] at s1
    obtain ⟨a, b⟩ := h5 s s0 s1
    unfold ST1
    rw [fr2 f 52 (chk_1 c2 (by decide)), fr2 f 56 (chk_1 c2 (by decide)), fr2 f 57 (chk_1 c2 (by decide)), fr2 f 58 (chk_1 c2 (by decide)), e224]
    refine ⟨fun q => ⟨(a q).1, XDu_k (a q).2 hn ?_ f (chk_s c2 rfl)⟩, fun q => ⟨XE_1 (b q).1 hn, OW_n (b q).2 hn (b q).1.1.2.2⟩⟩
    rw [fr2 f 45 (chk_1 c2 (by decide)), fr2 f 46 (chk_1 c2 (by decide)), fr2 f 47 (chk_1 c2 (by decide)), fr2 f 48 (chk_1 c2 (by decide)), fr2 f 49 (chk_1 c2 (by decide)), fr2 f 50 (chk_1 c2 (by decide)), fr2 f 51 (chk_1 c2 (by decide))]
    exact ⟨rfl, rfl, rfl, rfl, rfl, rfl, rfl⟩

theorem CUo_i {y z : mR} {n : Int} (h : CUo K y n) (g : IBo y z) (f : fr kF_rd_inBlock kA_rd_inBlock y z) : CUo K z (n + 1) := by
  rcases h with h | ⟨h1, h2, h3, h4, h5⟩
  · rcases g with g | ⟨g, -⟩
    · exact Or.inl g
    · have := g.1
      exact Or.inl (by omega)
  rcases g with g | ⟨g1, g2, g3, g4, g5, g6⟩
  · exact Or.inl g
  refine Or.inr ⟨NBL_t h1 g1, fun d hd => ?_, by omega, by omega, fun s s0 s1 => ?_⟩
  · obtain ⟨a1, a2, a3, a4, a5, a6, a7⟩ := h2 d hd
    obtain ⟨b1, b2, b3, b4, b5, b6, b7⟩ := g2 d (by omega)
    exact ⟨b1.trans a1, b2.trans a2, b3.trans a3, b4.trans a4, b5.trans a5, b6.trans a6, b7.trans a7⟩
  · by_cases q : s < y.1 225
    · obtain ⟨a, b⟩ := h5 s s0 q
      obtain ⟨w1, w2, w3, w4⟩ := g5 s q
      unfold ST1
      rw [w1, w2, w3, w4]
      refine ⟨fun e => ?_, fun e => ⟨XE_1 (b e).1 g1, OW_n (b e).2 g1 (b e).1.1.2.2⟩⟩
      obtain ⟨⟨x1, x2⟩, x3⟩ := a e
      exact ⟨⟨x1, by omega⟩, XDu_k x3 g1 (g2 _ x2) f rfl⟩
    · obtain ⟨a, b⟩ := g6 s (by omega) s1
      refine ⟨fun e => ?_, b⟩
      obtain ⟨⟨x1, x2⟩, x3⟩ := a e
      exact ⟨⟨by omega, x2⟩, x3⟩
theorem ib_b (n0 : 0 ≤ K.1 220) : RP (kf_rd_inBlock K) (fun y => y.1 = 0 → 800 < y.2.2.1 220 ∨ NBL K y.2.2) := by
  have i121 : ∀ v1 v2 u : Int, RP (kfl_rd_inBlock_121 v1 v2 u K) (fun y => y.1 = 0 → 800 < y.2.2.1 220 ∨ NBL K y.2.2) := fun v1 v2 u => by
    unfold kfl_rd_inBlock_121
    refine RP_bnd (u_kf_sp_add u _ _ K) (fun a ha => ?_)
    have na : NBL K a.2 := NBL_f ha rfl rfl
    have a0 : 0 ≤ a.2.1 220 := by rw [fr1 ha 220 rfl]; exact n0
    refine RP_ite (fun _ => RP_ite (fun _ => RP_bnd (stm_u (v1 := -1) a0) (fun y hy => RP_ite (fun e => RP_some (fun _ => ?_)) (fun e => RP_some (fun q => absurd q e)))) (fun _ => RP_bnd (u_kf_rd_apply _ _) (fun y hy => RP_ite (fun _ => RP_some (fun _ => Or.inr (NBL_t na (NBL_f hy rfl rfl)))) (fun e => RP_some (fun q => absurd q e))))) (fun _ => RP_bnd (oi_u (s := a.1) a0) (fun y hy => RP_ite (fun e => RP_some (fun _ => ?_)) (fun e => RP_some (fun q => absurd q e))))
    · rcases hy e with q | ⟨-, q, -⟩
      · exact Or.inl q
      · exact Or.inr (NBL_t (NBL_t na q) (NBL_f (fr_m fr_0 rfl rfl : fr [] [56] y.2.2 (mO y.2.2 [] [(56, upI (y.2.2.2 56) a.1 y.2.1)])) rfl rfl))
    · rcases hy e with q | ⟨q, -⟩
      · exact Or.inl q
      · exact Or.inr (NBL_t na q)
  have i77 : ∀ v1 v2 : Int, RP (kfl_rd_inBlock_77 v1 v2 K) (fun y => y.1 = 0 → 800 < y.2.2.1 220 ∨ NBL K y.2.2) := fun v1 v2 => by
    unfold kfl_rd_inBlock_77 kfl_rd_inBlock_104
    exact RP_ite (fun _ => RP_ite (fun _ => RP_ite (fun _ => i121 _ _ _) (fun _ => i121 _ _ _)) (fun _ => i121 _ _ _)) (fun _ => RP_bnd (fail_1 _ _ _) (fun y hy => by rw [if_neg hy]; exact RP_some (fun q => absurd q hy)))
  have i37 : ∀ v1 u : Int, RP (kfl_rd_inBlock_37 v1 u K) (fun y => y.1 = 0 → 800 < y.2.2.1 220 ∨ NBL K y.2.2) := fun v1 u => by
    unfold kfl_rd_inBlock_37
    exact RP_ite (fun _ => RP_bnd (u_kf_rd_closeBlock K) (fun y hy => RP_ite (fun _ => RP_some (fun _ => Or.inr (NBL_f hy rfl rfl))) (fun e => RP_some (fun q => absurd q e)))) (fun _ => RP_ite (fun _ => RP_ite (fun _ => RP_bndT (fun _ => RP_ite (fun _ => RP_bnd (refuse_1 _) (fun y hy => by rw [if_neg hy]; exact RP_some (fun q => absurd q hy))) (fun _ => i77 _ _))) (fun _ => i77 _ _)) (fun _ => i77 _ _))
  unfold kf_rd_inBlock kfl_rd_inBlock_18
  exact RP_ite (fun _ => RP_ite (fun _ => i37 _ _) (fun _ => i37 _ _)) (fun _ => RP_ite (fun _ => i37 _ _) (fun _ => i37 _ _))
theorem ctl_u (n0 : 0 ≤ K.1 220) (d0 : 0 ≤ K.1 224) (d1 : K.1 224 ≤ 4000) (k225 : K.1 225 = 0) : RP (kfl_pw_read_202 K) (fun y => y.1 = 0 → ∃ n, CUo K y.2.2 n) := by
  unfold kfl_pw_read_202
  refine RP_bnd (u_kf_rd_openControl K) (fun y hy => RP_ite (fun _ => ?_) (fun e => RP_some (fun q => absurd q e)))
  have c0 : CUo K K 0 := Or.inr ⟨NBL_0, DRb_0, ⟨Int.le_refl _, by omega⟩, by omega, fun s s0 s1 => by omega⟩
  have cy : CUo K y.2.2 0 := CUo_f c0 hy rfl rfl
  refine RP_bnd (P := sel (fun e : mR => ∃ n, CUo K e n) (fun e : Int × mR => e.1 ≠ 0)) (RP_whl (I := fun s : Int × mR => (0 ≤ s.1 ∧ s.1 ≤ 4001) ∧ CUo K s.2 s.1) (fun s hs => ?_) ⟨⟨Int.le_refl _, show (0 : Int) ≤ 4001 by decide⟩, cy⟩) (RP_sl (fun e he => ?_) (fun e he => RP_some (fun q => absurd q he)))
  · obtain ⟨i, q⟩ := s
    obtain ⟨⟨i0, i1⟩, hq⟩ := hs
    have i0 : 0 ≤ i := i0
    have hq : CUo K q i := hq
    unfold kfb_pw_read_211
    refine RP_ite (fun _ => RP_some ⟨i, hq⟩) (fun g => RP_ite (fun _ => RP_some ⟨i, hq⟩) (fun _ => ?_))
    have g : ¬ (4000 : Int) < i := g
    by_cases big : 800 < q.1 220
    ·
      refine RP_bnd (ib_b (K := q) (by omega)) (fun z hz => RP_ite (fun e => RP_some ?_) (fun e => RP_some e))
      show (0 ≤ cut (i + 1) ∧ cut (i + 1) ≤ 4001) ∧ CUo K z.2.2 (cut (i + 1))
      rw [cut_i (by omega) (by omega)]
      refine ⟨by omega, Or.inl ?_⟩
      rcases hz e with q1 | q1
      · exact q1
      · have := q1.1
        omega
    · rcases hq with hq | hq
      · exact absurd hq big
      obtain ⟨h1, h2, h3, h4, h5⟩ := id hq
      have h11 := h1.1
      refine RP_bnd (fun z hz => (⟨ib_u (K := q) (by omega) (by omega) (by omega) (by omega) (by omega) z hz, u_kf_rd_inBlock q z hz⟩ : _ ∧ fr kF_rd_inBlock kA_rd_inBlock q z.2.2)) (fun z hz => RP_ite (fun e => RP_some ?_) (fun e => RP_some e))
      show (0 ≤ cut (i + 1) ∧ cut (i + 1) ≤ 4001) ∧ CUo K z.2.2 (cut (i + 1))
      rw [cut_i (by omega) (by omega)]
      exact ⟨by omega, CUo_i (Or.inr hq) (hz.1 e) hz.2⟩
  · obtain ⟨n, he⟩ := he
    exact RP_w (u_kfl_pw_read_241 e) (fun w hw _ => ⟨n, CUo_f he hw rfl rfl⟩)


def XCs (K M : mR) : Prop := ∀ s, 0 ≤ s → s < M.1 27 → (M.2 60 s = 0 → XDm (-1) (K.2 56 s) K M) ∧ (M.2 60 s = 1 → XE K (-1) (K.2 57 s) (K.2 58 s) ∧ OW K (K.2 58 s) 1)
def RD2 : Int → mR → Int → mR → Prop := fun a K2 b M2 => RDg_nx a K2 b M2 ∧ XBo K2 M2 ∧ XCs K2 M2 ∧ (∀ s, 0 ≤ s → s < M2.1 23 → 0 ≤ M2.2 38 s) ∧ UQT K2
theorem rest2_s (h : FB_nx K M) (hx : XBo K M) : RR (kfl_pw_read_202 K) (rfl_read_182 M) (GV RD2) := fun y z hy hz => by
  refine Or.elim (rest_s_nx h y z hy hz) (fun w => ?_) (fun q => Or.inr q)
  obtain ⟨q0, q⟩ := w
  refine Or.inl ⟨q0, q, ?_⟩
  obtain ⟨-, ⟨hP2, hA2, hN2, hD2, hC2, hO2, hG2, hT2, ⟨k225, m27, m27', hS2⟩, -⟩, -, qt, -⟩ := q
  obtain ⟨⟨h1, h2, h3, h4⟩, hxo⟩ := hx
  have hP := h.1.2.1
  obtain ⟨⟨c1, c2, c3, c4, c5, c6, c7, c8⟩, r1, r2, r3, r4, r5, r6, r7, r8, hsum⟩ := id hP.1
  have n8 := NDR_8 h.1.2.2.2.1
  have n8' := NDR_8 hN2
  have k224 := h.2.2.1.1
  have k224' := hD2.1
  have l99 : M.1 99 ≤ M.1 8 := h.2.2.2.2.1
  have m8 : M.1 8 ≤ 4000 := by
    have q1 := h.1.1.2.1.2.2.2.2.1
    have q2 := h.1.1.1.1.2.1
    omega
  have fK := u_kfl_pw_read_202 K y hy
  have fM := r182_u (M := M) z hz
  obtain ⟨n, hu⟩ := ctl_u (K := K) (by omega) (by omega) (by omega) h.2.2.2.2.2.2.2.2.2.2.1 y hy q0
  rcases hu with hu | ⟨hn, hb, ⟨e1, e2⟩, e3, e4⟩
  · omega
  have m20 : z.2.1 20 = M.1 20 := fr1 fM 20 rfl
  refine ⟨⟨⟨fun a a0 a1 d g0 g1 => ?_, fun t t0 t1 => ?_, fun x x0 x1 => ?_, XTd_k h4 h.2.2.2.2.2.2.1 h.1.2.2.2.1 hn fK fM (fr1 fM 24 rfl) (by omega) (by have := hn.1; omega) rfl rfl⟩, XO_f hxo fM rfl rfl⟩, fun s s0 s1 => ?_, fun s s0 s1 => ?_, ctl_uq h.2.2.2.2.2.2.2.2.2.2.1 y hy q0⟩
  · rw [fr1 fM 25 rfl] at a1
    rw [fr2 fM 109 rfl] at g0
    rw [fr2 fM 109 rfl, fr2 fM 50 rfl] at g1
    obtain ⟨-, x2, -, -, -, x6⟩ := h.2.2.2.1 a a0 a1
    have l9 : M.1 99 ≤ z.2.1 99 := by omega
    obtain ⟨p1, p2⟩ := DE_pl (DE_at h.2.2.1 (show 0 ≤ d by omega) (by omega))
    obtain ⟨s1, s2⟩ := DE_pl (DE_at hD2 (show 0 ≤ d by omega) (by omega))
    obtain ⟨w1, w2, w3, -⟩ := hb d (by omega)
    rw [w1, w2] at s1
    rw [w1, w3] at s2
    exact XDm_k (XDm_r (h1 a a0 a1 d g0 g1) h.2.2.1 (by omega) (by omega) (fun q => PLS_i (p1 q) (s1 q) (by omega) (by omega)) (fun q => (s2 q).1.symm.trans (p2 q).1) (fun _ b _ => PW_c_nx fM rfl b) (fun i _ _ => by rw [fr2 fM 36 rfl])) (fun _ _ q => XE_k q hn (fr2 fK 39 rfl) (fr2 fK 40 rfl)) hn (hb d (by omega))
  · rw [fr1 fM 26 rfl] at t1
    rw [fr2 fM 51 rfl]
    obtain ⟨a, b, c⟩ := h2 t t0 t1
    exact ⟨XK_1 a hn (fun i _ _ => by rw [fr2 fK 79 rfl, fr2 fK 80 rfl, fr2 fK 82 rfl]; exact ⟨rfl, rfl, rfl⟩), PK1_1 b (fun i _ _ => by rw [fr2 fK 81 rfl]), DT2_f c fK fM rfl rfl⟩
  · rw [fr1 fK 221 rfl] at x1
    exact XS1_n (h3 x x0 x1) hn (by rw [fr2 fK 28 rfl]) (by rw [fr2 fK 29 rfl])
  · obtain ⟨a, b⟩ := e4 s s0 (by omega)
    have cs := hS2 s s0 s1
    have k52 := cs.1
    rw [k52] at a b
    refine ⟨fun q => ?_, fun q => b q⟩
    obtain ⟨⟨x1, x2⟩, x3⟩ := a q
    exact XDu_m hP2 hA2 hD2 (by omega) (by omega) x3
  · have h37 : ∀ s, 0 ≤ s → s < M.1 23 → M.2 38 s < 0 → 0 ≤ M.2 37 s := fun s s0 s1 q => by
      have e23 : z.2.1 23 = M.1 23 := fr1 fM 23 rfl
      have w := hO2.1 s s0 (by rw [e23]; exact s1)
      rw [fr2 fM 37 rfl, fr2 fM 38 rfl] at w
      rcases w with ⟨-, -, -, -, -, w2⟩ | ⟨-, w1, -⟩
      · exact w2
      · omega
    rcases all38_r (M := M) (by omega) (by omega) h37 z hz with w | w
    · exact absurd qt w
    · rcases hO2.1 s s0 s1 with ⟨-, w1, -, -, -, w2⟩ | ⟨-, w1, -⟩
      · have := w s s0 s1 w1
        omega
      · exact w1
theorem XB_64 (h : XBo K M) : XBo K (mO M [(64, -1)] []) := h
def dlc2 (s : Int × Int × mR) (M : mR) : Prop := (FB_nx s.2.2 M ∧ XBo s.2.2 M) ∧ s.1 = 1 ∧ s.2.1 + 3 = dcl_nx M
def dle2 (u : Sum mR (Int × mR)) (M : mR) : Prop := (∃ K, u = Sum.inl K ∧ FB_nx K M ∧ XBo K M) ∨ ((∃ e : Int × mR, u = Sum.inr e ∧ e.1 ≠ 0) ∧ 0 < M.1 10)
def dlB2 (u : Sum (Int × Int × mR) (Sum mR (Int × mR))) (v : Sum mR mR) : Prop := (∃ s' t', u = .inl s' ∧ v = .inl t' ∧ dlc2 s' t') ∨ (∃ x y, u = .inr x ∧ v = .inr y ∧ dle2 x y) ∨ (∃ x t', u = .inr x ∧ v = .inl t' ∧ RP (whl rfb_read_160 t') (dle2 x)) ∨ (∃ s' y, u = .inl s' ∧ v = .inr y ∧ RP (whl kfb_pw_read_46 s') (fun x => dle2 x y))
theorem dl_step2 {X : Option (Int × Int × mR)} {Y : Option (Int × mR)} {i : Int} (hi : i + 3 = dcl_nx M) (hb : 3 ≤ dcl_nx M ∧ dcl_nx M ≤ 91) (h : RR X Y (GV (fun a K2 b M2 => FG_nx M a K2 b M2 ∧ XBo K2 M2))) : RR (bnd X fun y => if y.1 = 0 then kfl_pw_read_196 1 i y.2.2 else some (.inr (.inr (y.1, y.2.2)))) (bnd (bnd Y fun y => some ((1 : Int), y.2)) fun y => rfl_read_171 y.1 y.2) dlB2 := by
  intro u v hu hv
  cases X with
  | none => cases hu
  | some y =>
    cases Y with
    | none => cases hv
    | some z =>
      rw [bnd_some] at hu
      rw [bnd_some, bnd_some] at hv
      unfold rfl_read_171 at hv
      rw [if_neg (show ¬ (1 : Int) = 0 by decide)] at hv
      cases hv
      rcases h y z rfl rfl with ⟨q0, ⟨q1, q2⟩, q3⟩ | ⟨q1, q2⟩
      · rw [if_pos q0] at hu
        unfold kfl_pw_read_196 at hu
        rw [cut_i (by omega) (by omega)] at hu
        cases hu
        have q2 : dcl_nx z.2 = dcl_nx M + 1 := q2
        refine Or.inl ⟨_, _, rfl, rfl, ⟨FB_64_nx q1, XB_64 q3⟩, rfl, ?_⟩
        show i + 1 + 3 = dcl_nx z.2
        omega
      · rw [if_neg q1] at hu
        cases hu
        refine Or.inr (Or.inr (Or.inl ⟨_, _, rfl, rfl, fun m hm => ?_⟩))
        have e : rfb_read_160 (mO z.2 [(64, (-1))] []) = some (.inr (mO z.2 [(64, (-1))] [])) := by
          unfold rfb_read_160
          rw [if_neg (show ¬ (mO z.2 [(64, (-1))] []).1 10 = 0 from (by show ¬ z.2.1 10 = 0; omega))]
        rw [whl_eq, e] at hm
        cases hm
        exact Or.inr ⟨⟨_, rfl, q1⟩, q2⟩
theorem decls2_s {s : Int × Int × mR} (hI : dlc2 s M) : RR (whl kfb_pw_read_46 s) (whl rfb_read_160 M) dle2 := by
  refine RR_whl2 (I := dlc2) (fun s M h => ?_) hI
  obtain ⟨v, i, K⟩ := s
  obtain ⟨⟨hF, hXB⟩, hv, hi⟩ := h
  have hXB : XBo K M := hXB
  have hv : v = 1 := hv
  have hi : i + 3 = dcl_nx M := hi
  have hF : FB_nx K M := hF
  subst hv
  have hb := dcl_b_nx hF
  have hL := hF.1.1.2.1
  have hf := hF.1.1.2.2.2.2
  have wk : ∀ c : Int, (300 ≤ c ∧ c ≤ 330) → (K.1 206 = c ↔ M.1 7 = c) := fun c hc => by
    rw [hL.1]
    exact wm_big hL.2.1 (Or.inr hc)
  show RR _ _ dlB2
  unfold kfb_pw_read_46 rfb_read_160 rf_takeOne
  dsimp only
  rw [if_neg (show ¬ (4000 : Int) < i by omega), if_neg (show ¬ (1 : Int) = 0 by decide), if_pos hf]
  by_cases w1 : M.1 7 = 300
  · rw [if_pos ((wk 300 (by omega)).mpr w1), if_pos w1]
    exact dl_step2 hi hb (header_xo hF hXB w1)
  rw [if_neg (fun e => w1 ((wk 300 (by omega)).mp e)), if_neg w1]
  by_cases w2 : M.1 7 = 301
  · rw [if_pos ((wk 301 (by omega)).mpr w2), if_pos w2]
    exact dl_step2 hi hb (inst_xo hF hXB w2)
  rw [if_neg (fun e => w2 ((wk 301 (by omega)).mp e)), if_neg w2]
  by_cases w3 : M.1 7 = 302
  · rw [if_pos ((wk 302 (by omega)).mpr w3), if_pos w3]
    exact dl_step2 hi hb (meta_xo hF hXB w3)
  rw [if_neg (fun e => w3 ((wk 302 (by omega)).mp e)), if_neg w3]
  by_cases w4 : M.1 7 = 303
  · rw [if_pos ((wk 303 (by omega)).mpr w4), if_pos w4]
    exact dl_step2 hi hb (arr_xo hF hXB w4)
  rw [if_neg (fun e => w4 ((wk 303 (by omega)).mp e)), if_neg w4]
  by_cases w5 : M.1 7 = 304
  · rw [if_pos ((wk 304 (by omega)).mpr w5), if_pos w5]
    exact dl_step2 hi hb (state_xo hF hXB w5)
  rw [if_neg (fun e => w5 ((wk 304 (by omega)).mp e)), if_neg w5]
  by_cases w6 : M.1 7 = 309
  · rw [if_pos ((wk 309 (by omega)).mpr w6), if_pos w6]
    exact dl_step2 hi hb (action_xo hF hXB w6)
  rw [if_neg (fun e => w6 ((wk 309 (by omega)).mp e)), if_neg w6]
  by_cases w7 : M.1 7 = 310
  · rw [if_pos ((wk 310 (by omega)).mpr w7), if_pos w7]
    exact dl_step2 hi hb (table_xo hF hXB w7)
  rw [if_neg (fun e => w7 ((wk 310 (by omega)).mp e)), if_neg w7]
  simp only [ite_self]
  intro u w hu hw
  rw [bnd_some] at hw
  unfold rfl_read_171 at hw
  rw [if_pos rfl] at hw
  unfold kfl_pw_read_194 kfl_pw_read_196 at hu
  rw [cut_i (by omega) (by omega)] at hu
  cases hu
  cases hw
  refine Or.inr (Or.inr (Or.inr ⟨_, _, rfl, rfl, fun x hx => ?_⟩))
  have e : kfb_pw_read_46 (0, i + 1, K) = some (.inr (.inl K)) := by
    unfold kfb_pw_read_46
    dsimp only
    rw [if_neg (show ¬ (4000 : Int) < i + 1 by omega), if_pos rfl]
  rw [whl_eq, e] at hx
  cases hx
  exact Or.inl ⟨K, rfl, hF, hXB⟩

theorem XB_0 (h : FB_nx K M) (hd : dcl_nx M = 3) (k221 : K.1 221 = 0) : XBo K M := by
  obtain ⟨⟨c1, c2, c3, c4, c5, c6, c7, c8⟩, r1, r2, r3, r4, r5, r6, r7, r8, hsum⟩ := id h.1.2.1.1
  unfold dcl_nx at hd
  exact ⟨⟨fun a a0 a1 => by omega, fun t t0 t1 => by omega, fun x x0 x1 => by omega, fun e e0 e1 => by omega⟩, ⟨fun _ => by omega, fun _ => by omega⟩, fun j j0 j1 => by omega⟩
theorem read2_s (hB : BYR K M) (hW : KWD K) (hT : TPE_nx K M) : RR (kf_pw_read K) (rf_read M) (GV RD2) := by
  obtain ⟨t1, t2, t3, t4⟩ := hT
  intro u v hu hv
  obtain ⟨N, hR, n6, n4, n4', n0, n18, hv⟩ := head_r_nx t2 t3 v hv
  unfold kf_pw_read at hu
  cases h1 : kf_pr_clear (mO K [(200, 0), (201, 0), (202, (-1))] []) with
  | none => rw [h1] at hu; cases hu
  | some y1 =>
  rw [h1, bnd_some] at hu
  obtain ⟨z1, f1⟩ := clear_pr_nx y1 h1
  cases h2 : kf_pi_clear y1.2 with
  | none => rw [h2] at hu; cases hu
  | some y2 =>
  rw [h2, bnd_some] at hu
  obtain ⟨f2, -⟩ := clear_pi_nx y2 h2
  cases h3 : kf_tx_open (K.1 200) y2.2 with
  | none => rw [h3] at hu; cases hu
  | some y3 =>
  rw [h3, bnd_some] at hu
  obtain ⟨L, hG, f3, l204, l205, l213, x, hx, x1, x2⟩ := open_k_nx y3 h3
  have z3 : PZ_nx L := PZ_f_nx (PZ_f_nx z1 f2 rfl rfl) f3 rfl rfl
  have fKL : fr [200, 201, 202, 203, 204, 205, 209, 210, 211, 212, 213, 214, 215, 216, 217, 218, 219, 220, 221, 222, 223, 224, 225, 226, 232, 233, 234, 235] [6, 7, 8, 9, 10, 14, 71, 106] K L := fr_s f3 (fr_s f2 (fr_s f1 (fr_m fr_0 rfl rfl) rfl rfl) rfl rfl) rfl rfl
  have r4 : ∀ i, 0 ≤ M.2 4 i ∧ M.2 4 i ≤ 255 := hB.2.2.1
  have r3 : ∀ i, 0 ≤ M.2 3 i ∧ M.2 3 i ≤ 255 := hB.2.1
  have hLT : LT L N := by
    refine ⟨⟨by omega, by omega, fun i => ?_⟩, ⟨by omega, by omega, fun i => ?_⟩, ⟨by omega, fun i i0 i1 => ?_⟩, ?_, by rw [n0]; exact hB.2.2.2.1⟩
    · rcases n4' i with q | ⟨j, q⟩
      · rw [q]; exact r4 i
      · rw [q]; exact r3 j
    · rw [fr2 fKL 1 rfl]
      exact hB.1 i
    · rw [n6] at i1
      rw [fr2 fKL 1 rfl, n4 i i0 i1]
      exact t4 i i0 i1
    · unfold KWD
      rw [fr2 fKL 5 rfl]
      exact hW
  have hNM : NMR L N := GVK_n_nx hG hR.2.2.2.1 (by rw [n18]; exact hB.2.2.2.2)
  cases h4 : rf_next N with
  | none => rw [h4] at hv; cases hv
  | some z4 =>
  rw [h4, bnd_some] at hv
  have g1 := u_kf_tx_advance L x hx
  have g2 := u_rf_next N z4 h4
  have hf := hR.2.2.1
  rcases rr_adv1 hLT hNM l213 hf l205 (show cut (N.1 8 + N.1 9) = 0 by rw [hR.1, hR.2.1]; decide) (Int.le_refl 0) (by omega) x z4 hx h4 with ⟨q0, -, q1⟩ | ⟨q1, q2⟩
  · rw [if_pos (by omega)] at hu
    obtain ⟨hF, hd⟩ := first_fb_nx q1 g1 g2.1 z3 hR
    rw [x2] at hF
    cases h5 : whl kfb_pw_read_46 (1, 0, y3.2.2) with
    | none => rw [h5] at hu; cases hu
    | some a =>
    rw [h5, bnd_some] at hu
    cases h6 : whl rfb_read_160 z4.2 with
    | none => rw [h6] at hv; cases hv
    | some b =>
    rw [h6, bnd_some] at hv
    rcases decls2_s (s := (1, 0, y3.2.2)) (M := z4.2) ⟨⟨hF, XB_0 hF hd (by rw [← x2]; exact (PZ_f_nx z3 g1 rfl rfl).2.2.2.2.2.2.2.1)⟩, rfl, (by show (0 : Int) + 3 = _; omega)⟩ a b h5 h6 with ⟨K5, rfl, hF5, hX5⟩ | ⟨⟨e, rfl, he⟩, hb⟩
    · exact rest2_s hF5 hX5 u v hu hv
    · cases hu
      exact Or.inr ⟨he, rd182_f_nx b hb v hv⟩
  · rw [if_neg (by omega)] at hu
    cases hu
    cases h6 : whl rfb_read_160 z4.2 with
    | none => rw [h6] at hv; cases hv
    | some b =>
    rw [h6, bnd_some] at hv
    have e : rfb_read_160 z4.2 = some (.inr z4.2) := by
      unfold rfb_read_160
      rw [if_neg (show ¬ z4.2.1 10 = 0 by omega)]
    rw [whl_eq, e] at h6
    cases h6
    exact Or.inr ⟨by show y3.1 ≠ 0; omega, rd182_f_nx z4.2 q2 v hv⟩
end FBZ
