
section EN4
variable {K M : mR} {r s d : Int}
theorem cmk_eq {v c k m w : Int} (hv : VW v w) (hc : R64 c) (w0 : 0 ≤ w) (w1 : w ≤ 64) (h : CMK k m w c) : and64 (xor64 v c) k = 0 ↔ and64 (xor64 v c) m = 0 := by
  rcases h with h | ⟨h1, h2, h3⟩
  · rw [h]
  · have x : VW (xor64 v c) w := VW_xor hv (VW_fit hc h3 w0 w1)
    rw [h1, h2, VW_k x w0 w1, and_m1 x.1]

def STs (K M : mR) : Prop := (0 ≤ M.1 24 ∧ M.1 24 ≤ 16 ∧ M.1 23 ≤ 16) ∧ K.1 221 = M.1 23 ∧ SGd_nx (M.1 23) (M.1 24) K M ∧ XTd (M.1 24) K M ∧ XSa K ∧ ∀ s, 0 ≤ s → s < M.1 23 → 0 ≤ M.2 38 s ∧ M.2 38 s < M.1 24 ∧ M.2 39 (M.2 38 s) = s

def RPg (K M : mR) : Prop := NDR_nx K M ∧ ((∀ j, R64 (M.2 68 j)) ∧ (∀ j, R64 (M.2 97 j)) ∧ ∀ j, 0 ≤ j → 0 ≤ K.2 22 j ∧ K.2 22 j ≤ 64) ∧ WBm M ∧ HIm K M ∧ STs K M ∧ M.1 21 ≤ 16
def enK : List Nat := [25, 94, 98, 101, 102]
def enF : List Nat := [176, 177]
def enM : List Nat := [171, 172, 173, 175]
theorem RPg_f {K' M' : mR} (h : RPg K M) (fK : fr [] enK K K') (fM : fr enF enM M M') : RPg K' M' := by
  obtain ⟨h1, ⟨h2, h3, h4⟩, h5, h6, ⟨h7, h8, h9, h10, h11, h12⟩, h13⟩ := h
  refine ⟨NDR_f_nx fK fM rfl rfl rfl rfl h1, ⟨?_, ?_, ?_⟩, ?_, HIm_f h6 fK fM rfl rfl rfl, ⟨?_, ?_, SGd_f2_nx h9 fK fM rfl rfl rfl, ?_, XSa_f h11 fK rfl rfl, ?_⟩, ?_⟩
  · rw [fr2 fM 68 rfl]; exact h2
  · rw [fr2 fM 97 rfl]; exact h3
  · rw [fr2 fK 22 rfl]; exact h4
  · unfold WBm at h5 ⊢
    rw [fr1 fM 20 rfl, fr1 fM 21 rfl, fr2 fM 29 rfl, fr2 fM 33 rfl, fr2 fM 34 rfl, fr2 fM 35 rfl]
    exact h5
  · rw [fr1 fM 23 rfl, fr1 fM 24 rfl]; exact h7
  · rw [fr1 fK 221 rfl, fr1 fM 23 rfl]; exact h8
  · unfold XTd XTq XTa XTe XTc at h10 ⊢
    rw [fr2 fK 22 rfl, fr2 fK 27 rfl, fr2 fK 28 rfl, fr2 fK 29 rfl, fr2 fK 31 rfl, fr2 fK 32 rfl, fr1 fM 20 rfl, fr1 fM 24 rfl, fr1 fM 28 rfl, fr2 fM 39 rfl, fr2 fM 41 rfl, fr2 fM 42 rfl, fr2 fM 94 rfl, fr2 fM 95 rfl, fr2 fM 96 rfl, fr2 fM 97 rfl, fr2 fM 98 rfl]
    exact h10
  · rw [fr1 fM 23 rfl, fr1 fM 24 rfl, fr2 fM 38 rfl, fr2 fM 39 rfl]; exact h12
  · rw [fr1 fM 21 rfl]; exact h13
theorem RDR_f {F A G C : List Nat} {K' M' : mR} (h : RDR r K M) (fK : fr F A K K') (fM : fr G C M M') (c2 : chk [92, 94, 100, 101] A = true) (c3 : chk [20, 21, 22, 176, 177] G = true) (c4 : chk [29, 33, 34, 35, 36, 138, 154, 159, 171, 172, 175] C = true) : RDR r K' M' := by
  obtain ⟨h1, h2, h3, h4, h5, h6⟩ := h
  refine ⟨?_, ?_, ?_, ?_, VWm_f h5 fM (chk_s c3 rfl) (chk_s c4 rfl), IZm_f h6 fM (chk_s c4 rfl)⟩
  · rw [fr2 fK 101 (chk_1 c2 (by decide)), smM_c fM (chk_s c3 rfl) (chk_s c4 rfl)]; exact h1
  · rw [fr2 fK 94 (chk_1 c2 (by decide)), fr1 fM 176 (chk_1 c3 (by decide)), fr2 fM 154 (chk_1 c4 (by decide))]; exact h2
  · rw [fr2 fK 92 (chk_1 c2 (by decide)), fr2 fM 154 (chk_1 c4 (by decide))]; exact h3
  · unfold BYr at h4 ⊢
    rw [fr2 fK 100 (chk_1 c2 (by decide)), fr2 fM 154 (chk_1 c4 (by decide)), fr2 fM 159 (chk_1 c4 (by decide))]; exact h4

def GSt (M : mR) (g d : Int) : Prop := (0 ≤ d ∧ d < M.1 24 ∧ g = M.2 39 d) ∨ ((d = -1 ∨ d = -2) ∧ g = 15 - d)
def PQp (r : Int) (K M : mR) (d : Int) (y : Int × mR) (v : Sum (Int × mR) (Sum mR (Int × mR))) : Prop := (y.1 = 17 ∧ ∃ m, v = Sum.inr (Sum.inl m) ∧ PSo r K M y.2 m) ∨ (∃ d' m, v = Sum.inl (d', m) ∧ GSt M y.1 d' ∧ RDR r y.2 m ∧ PSo r K M y.2 m ∧ cvd M + M.2 41 d ≤ cvd m ∧ (0 ≤ d' → Ld (M.2 44) (M.2 38) (M.2 42) (M.2 45) d d'))
theorem pass_q (h : RDR r K M) (hp : RPg K M) (d0 : 0 ≤ d) (d1 : d < M.1 24) : RR (kf_op_pass r (M.2 39 d) K) (rfb_readPacket_117 (d, M)) (PQp r K M d) := by
  obtain ⟨hN, ⟨hR68, hR97, hR22⟩, hWB, hH, ⟨⟨s0, s16, n16⟩, k221, hG, hT, hX, hO⟩, m21⟩ := id hp
  obtain ⟨g0, g1, e26, ⟨n0, n6⟩, gl, e30, ⟨c0, c8⟩, gls⟩ := hG d d0 d1
  obtain ⟨xa, xe, xc⟩ := hT d d0 d1
  have m20 := hH.1.2
  have m29 : ∀ i, 0 ≤ i → i < M.1 20 → M.2 29 (M.2 34 i) ≤ 16 := fun i i0 i1 => (HIm_i hH i0 i1).2.1.2
  unfold kf_op_pass rfb_readPacket_117
  show RR (bnd (whl (kfb_op_pass_8 r (M.2 39 d)) (0, K)) (sel (fun e17 : mR => some ((17 : Int), e17)) (fun e20 : mR => kfl_op_pass_48 r (M.2 39 d) e20))) (if d < 0 then _ else bnd (whl (rfb_readPacket_123 d) (0, M)) (sel (fun e36 : mR => some (Sum.inr (Sum.inl e36))) (fun e39 : mR => rfl_readPacket_159 d e39))) _
  rw [if_neg (by omega)]
  refine RR_bnd (xloop_q h hH g0 (by omega) d0 (by omega) e26 rfl n0 n6 xa) (fun x y hxy => ?_)
  rcases hxy with ⟨k, m, rfl, rfl, hP⟩ | ⟨k, m, rfl, rfl, hR, hP, hc⟩
  · show RR (some ((17 : Int), k)) (some (Sum.inr (Sum.inl m))) _
    exact RR_some (Or.inl ⟨rfl, m, rfl, hP⟩)
  show RR (kfl_op_pass_48 r (M.2 39 d) k) (rfl_readPacket_159 d m) _
  have fK := hP.1
  have fM := hP.2.1
  have fin : ∀ (k1 m1 : mR) (g t : Int), fr [] [25] k k1 → fr [] [173] m m1 → ((∃ j, 0 ≤ j ∧ j < M.2 42 d ∧ g = K.2 33 (8 * M.2 39 d + j) ∧ t = M.2 45 (8 * d + j)) ∨ (g = K.2 34 (M.2 39 d) ∧ t = M.2 44 d)) → RR (some (g, k1)) (rfl_readPacket_284 t m1) (PQp r K M d) := fun k1 m1 g t f1 f2 hgt => by
    have gl' : GL_nx (M.1 23) g t ∧ (0 ≤ t → Ld (M.2 44) (M.2 38) (M.2 42) (M.2 45) d (M.2 38 t)) := by
      rcases hgt with ⟨j, j0, j1, j2, j3⟩ | ⟨j2, j3⟩
      · rw [j2, j3]
        exact ⟨gls j j0 j1, fun q => Or.inr ⟨8 * d + j, by omega, by omega, q, rfl⟩⟩
      · rw [j2, j3]
        exact ⟨gl, fun q => Or.inl ⟨q, rfl⟩⟩
    have hP1 : PSo r K M k1 m1 := PSo_t hP ⟨fr_s f1 fr_0 rfl rfl, fr_s f2 fr_0 rfl rfl, fun j _ => by rw [fr2 f1 101 rfl], fun v _ => by rw [fr2 f1 94 rfl]⟩
    have hR1 : RDR r k1 m1 := RDR_f hR f1 f2 rfl rfl rfl
    have hc1 : cvd M + M.2 41 d ≤ cvd m1 := by rw [cvd_c (fr2 f2 175 rfl)]; exact hc
    unfold rfl_readPacket_284 rfl_readPacket_298
    rw [show m1.2 38 = M.2 38 from (fr2 f2 38 rfl).trans (fr2 fM 38 rfl)]
    rcases gl'.1 with ⟨t0, t1, et⟩ | ⟨t0, et⟩
    · rw [if_pos t0]
      obtain ⟨o1, o2, o3⟩ := hO t t0 t1
      exact RR_some (Or.inr ⟨M.2 38 t, m1, rfl, Or.inl ⟨o1, o2, by show g = _; rw [o3]; exact et⟩, hR1, hP1, hc1, fun _ => gl'.2 t0⟩)
    · rw [if_neg (by omega)]
      exact RR_some (Or.inr ⟨t, m1, rfl, Or.inr ⟨t0, et⟩, hR1, hP1, hc1, fun q => by omega⟩)
  have cls : ∀ (v : Int) (k1 : mR), fr [] [25] k k1 → RP (kfl_op_pass_89 (M.2 39 d) v k1) (fun y => y.2 = k1 ∧ FST (M.2 42 d) (fun j => and64 (xor64 v (K.2 31 (8 * M.2 39 d + j))) (K.2 32 (8 * M.2 39 d + j)) = 0) (fun j => y.1 = K.2 33 (8 * M.2 39 d + j)) (y.1 = K.2 34 (M.2 39 d))) := fun v k1 f1 => by
    unfold kfl_op_pass_89
    have f0 : fr [] [25, 94, 101] K k1 := fr_s f1 fK rfl rfl
    have G := goal_k (K := k1) (s := M.2 39 d) (v := v) (n := M.2 42 d) g0 (by omega) (by rw [fr2 f0 30 rfl]; exact e30) c0 c8
    rw [fr2 f0 31 rfl, fr2 f0 32 rfl, fr2 f0 33 rfl, fr2 f0 34 rfl] at G
    exact RP_bnd G (fun y hy => RP_some ⟨rfl, hy⟩)
  unfold kfl_op_pass_48 rfl_readPacket_159
  rw [show k.2 29 = K.2 29 from fr2 fK 29 rfl, show k.2 28 = K.2 28 from fr2 fK 28 rfl, show m.2 42 = M.2 42 from fr2 fM 42 rfl, show m.2 44 = M.2 44 from fr2 fM 44 rfl]
  by_cases z : M.2 42 d = 0
  · rw [if_pos z]
    unfold rfl_readPacket_180 rfl_readPacket_205
    rw [if_neg (show ¬ (1 : Int) = 0 by decide), cut_i (z := 8 * d) (by omega) (by omega)]
    have R0 : RP (whl (rfb_readPacket_213 d 0 m) (M.2 44 d, 1, 8 * d)) (fun t => t = M.2 44 d) := by
      refine RP_whl (I := fun q : Int × Int × Int => q = (M.2 44 d, 1, 8 * d)) (fun q hq => ?_) rfl
      rw [hq]
      unfold rfb_readPacket_213
      show RP (if cut (cut (8 * d) + m.2 42 d) ≤ 8 * d then some (Sum.inr (M.2 44 d)) else _) _
      rw [show m.2 42 = M.2 42 from fr2 fM 42 rfl, z, cut_i (z := 8 * d) (by omega) (by omega), cut_i (z := 8 * d + 0) (by omega) (by omega), if_pos (by omega)]
      exact RP_some rfl
    have C0 : ∀ (v : Int) (k1 : mR), fr [] [25] k k1 → RR (kfl_op_pass_89 (M.2 39 d) v k1) (bnd (whl (rfb_readPacket_213 d 0 m) (M.2 44 d, 1, 8 * d)) (fun e17 : Int => rfl_readPacket_284 e17 m)) (PQp r K M d) := fun v k1 f1 => RR_r R0 (fun t ht => fun y w hy hw => by
      obtain ⟨y1, y2⟩ := cls v k1 f1 y hy
      rcases y2 with ⟨j, j0, j1, -⟩ | ⟨-, y2⟩
      · omega
      · have F := fin k1 m y.1 t f1 fr_0 (Or.inr ⟨y2, ht⟩)
        exact F (y.1, k1) w rfl hw |> fun q => by rw [← y1] at q; exact q)
    refine RR_il (fun q => C0 0 k fr_0) (fun q => RR_l (u_kf_nd_valueOf_b101_b105 _ _ _ _ _) (fun y hy => C0 y.1 y.2 (fr_s hy fr_0 rfl rfl)))
  · obtain ⟨x1, x2, x3, x4⟩ := xe (by omega)
    have hE : XE K (-1) (K.2 28 (M.2 39 d)) (K.2 29 (M.2 39 d)) := by
      rcases hX (M.2 39 d) g0 (by omega) with q | q
      · omega
      · exact q
    have n8 := NDR_8 hN
    have r8 := hE.1.2.2
    have r0 : 0 ≤ K.2 29 (M.2 39 d) := Int.le_trans hE.1.1 hE.1.2.1
    rw [if_neg (show ¬ K.2 29 (M.2 39 d) = -1 by omega), if_neg z]
    unfold rfl_readPacket_180 rfl_readPacket_205
    rw [if_pos rfl, show m.2 95 = M.2 95 from fr2 fM 95 rfl, show m.2 96 = M.2 96 from fr2 fM 96 rfl, ← x1, ← x3, cut_i (z := 8 * d) (by omega) (by omega)]
    have hx1 : XRk K (-1) k (K.2 28 (M.2 39 d)) (K.2 29 (M.2 39 d)) := XRk_f (XRk_of hE (by omega)) fK rfl
    have fM' : fr enF enM M m := fr_s fM fr_0 rfl rfl
    have g : RGm K m := ⟨NDR_f_nx (fr_0 (u := []) (v := []) (x := K)) fM rfl rfl rfl rfl hN, by rw [fr2 fM 68 rfl]; exact hR68, hR.2.2.2.2.1, by rw [fr1 fM 20 rfl]; exact m20, by rw [fr1 fM 20 rfl, fr2 fM 29 rfl, fr2 fM 34 rfl]; exact m29, by
      unfold WBm at hWB ⊢
      rw [fr1 fM 20 rfl, fr1 fM 21 rfl, fr2 fM 29 rfl, fr2 fM 33 rfl, fr2 fM 34 rfl, fr2 fM 35 rfl]
      exact hWB⟩
    refine RR_bnd (RR_pr (val_k (r := r) (v4 := r) hx1) (worth_m g (fun q => absurd rfl q) hE)) (fun y w hyw => ?_)
    obtain ⟨⟨y1, y2⟩, w1, w2, w3⟩ := hyw
    have ev1 : y.1 = w.1 := by
      rw [y1, w1, ev_f fK rfl]
      exact ev_x hN m20 m21 m29 hE hR.1 (fun q => absurd rfl q)
    have vw : VW w.1 (K.2 22 (K.2 29 (M.2 39 d))) := by
      refine w2.2 _ (hR22 _ r0).1 (hR22 _ r0).2 ?_
      by_cases e : K.2 18 (K.2 29 (M.2 39 d)) = 257
      · exact Or.inl ⟨e, (hE.2.2.1 _ hE.1.2.1 (Int.le_refl _)).2.1 e⟩
      · exact Or.inr ⟨e, rfl⟩
    have GR := goal_r (M := w.2) (d := d) (v := w.1) (n := M.2 42 d) d0 (by omega) (by rw [fr2 w3 42 rfl, fr2 fM 42 rfl]) c0 c8
    rw [fr2 w3 97 rfl, fr2 w3 98 rfl, fr2 w3 45 rfl, fr2 w3 44 rfl, fr2 fM 97 rfl, fr2 fM 98 rfl, fr2 fM 45 rfl, fr2 fM 44 rfl] at GR
    refine RR_r GR (fun t ht => fun a b ha hb => ?_)
    obtain ⟨a1, a2⟩ := cls y.1 y.2 y2 a ha
    rw [ev1] at a2
    have F := fin y.2 w.2 a.1 t y2 w3 (by
      rcases FST_2 a2 ht (fun j j0 j1 => by
        obtain ⟨q1, q2⟩ := xc j j0 j1
        rw [q1]
        exact cmk_eq vw (hR97 _) (hR22 _ r0).1 (hR22 _ r0).2 q2) with ⟨j, j0, j1, j2, j3⟩ | ⟨j2, j3⟩
      · exact Or.inl ⟨j, j0, j1, j2, j3⟩
      · exact Or.inr ⟨j2, j3⟩)
    have q := F (a.1, y.2) b rfl hb
    rw [← a1] at q
    exact q

theorem states_q {g0 q0 : Int} (h : RDR r K M) (hp : RPg K M) (hNR : ∀ q, 0 ≤ q → q < M.1 24 → 0 < M.2 41 q ∨ NR (M.2 44) (M.2 38) (M.2 42) (M.2 45) (M.2 41) (M.1 24) q) (hg : GSt M g0 q0) : RR (whl (kfb_op_enter_83 r) (g0, 0, K)) (whl rfb_readPacket_117 (q0, M)) (fun x y => (x.1 = 17 ∧ ∃ m, y = Sum.inl m ∧ PSo r K M x.2 m) ∨ (∃ d m, y = Sum.inr (d, m) ∧ (d = -1 ∨ d = -2) ∧ x.1 = 15 - d ∧ RDR r x.2 m ∧ PSo r K M x.2 m)) := by
  obtain ⟨-, -, -, -, ⟨⟨s0, s16, n16⟩, -, hG, -⟩, -⟩ := id hp
  obtain ⟨rk, hr1, hr2, hr3, hr4⟩ := rk_ex (by omega) hNR
  have c0 := cvd_r M
  refine RR_whl2 (I := fun (a : Int × Int × mR) (b : Int × mR) => GSt M a.1 b.1 ∧ 0 ≤ a.2.1 ∧ RDR r a.2.2 b.2 ∧ PSo r K M a.2.2 b.2 ∧ a.2.1 + (18 * (12 - cvd b.2) + rk b.1 + 1) ≤ 233) (fun a b hI => ?_) ⟨hg, Int.le_refl _, h, PSo_0, by show 0 + (18 * (12 - cvd M) + rk q0 + 1) ≤ 233; have := hr1 q0; omega⟩
  obtain ⟨g, i, Kc⟩ := a
  obtain ⟨d, Mc⟩ := b
  obtain ⟨hgd, i0, hR, hP, hmu⟩ := hI
  have hgd : GSt M g d := hgd
  have i0 : 0 ≤ i := i0
  have hR : RDR r Kc Mc := hR
  have hP : PSo r K M Kc Mc := hP
  have hmu : i + (18 * (12 - cvd Mc) + rk d + 1) ≤ 233 := hmu
  have cc := cvd_r Mc
  have rd := hr1 d
  have fK := hP.1
  have fM := hP.2.1
  unfold kfb_op_enter_83
  show RR (if (238 : Int) ≤ i then _ else if (16 : Int) ≤ g then some (Sum.inr (g, Kc)) else bnd (kf_op_pass r g Kc) fun y8 => some (Sum.inl (y8.1, cut (i + 1), y8.2))) _ _
  rw [if_neg (by omega)]
  rcases hgd with ⟨d0, d1, eg⟩ | ⟨dn, eg⟩
  · have gb := hG d d0 d1
    have g1 : M.2 39 d < M.1 23 := gb.2.1
    rw [if_neg (by omega), cut_i (z := i + 1) (by omega) (by omega)]
    have hpc : RPg Kc Mc := RPg_f hp (fr_s fK fr_0 rfl rfl) (fr_s fM fr_0 rfl rfl)
    have e24 : Mc.1 24 = M.1 24 := fr1 fM 24 rfl
    have e39 : Mc.2 39 = M.2 39 := fr2 fM 39 rfl
    have PQ_nx := pass_q (K := Kc) (M := Mc) (r := r) (d := d) hR hpc d0 (by rw [e24]; exact d1)
    rw [e39, ← eg] at PQ_nx
    intro u v hu hv
    cases hk : kf_op_pass r g Kc with
    | none => rw [hk] at hu; cases hu
    | some y =>
      rw [hk, bnd_some] at hu
      have hu := Option.some.inj hu
      rcases PQ_nx y v hk hv with ⟨y17, m, ev, hPm⟩ | ⟨d', m, ev, hg', hR', hP', hc', hL⟩
      · refine Or.inr (Or.inr (Or.inr ⟨_, _, hu.symm, ev, ?_⟩))
        refine RP_whl (I := fun q : Int × Int × mR => q.1 = 17 ∧ q.2.2 = y.2) (fun q hq => ?_) ⟨y17, rfl⟩
        obtain ⟨q1, q2⟩ := hq
        have ex : (q.1, q.2.2).1 = 17 ∧ ∃ m', (Sum.inl m : Sum mR (Int × mR)) = Sum.inl m' ∧ PSo r K M (q.1, q.2.2).2 m' := ⟨q1, m, rfl, by show PSo r K M q.2.2 m; rw [q2]; exact PSo_t hP hPm⟩
        try unfold kfb_op_enter_83
        refine RP_ite (fun _ => RP_some (Or.inl ex)) (fun _ => ?_)
        rw [if_pos (by omega)]
        exact RP_some (Or.inl ex)
      · refine Or.inl ⟨_, _, hu.symm, ev, ?_, show 0 ≤ i + 1 by omega, hR', PSo_t hP hP', ?_⟩
        · unfold GSt at hg' ⊢
          rw [e24, e39] at hg'
          exact hg'
        · show i + 1 + (18 * (12 - cvd m) + rk d' + 1) ≤ 233
          rw [fr2 fM 41 rfl] at hc'
          rw [fr2 fM 44 rfl, fr2 fM 38 rfl, fr2 fM 42 rfl, fr2 fM 45 rfl] at hL
          have r1 := hr1 d'
          have r3 := hr3 d d0
          have e41 := gb.2.2.2.1
          by_cases q : 0 < M.2 41 d
          · omega
          · by_cases q2 : 0 ≤ d'
            · have d1' : d' < M.1 24 := by
                rcases hg' with ⟨-, w, -⟩ | ⟨w, -⟩
                · rw [e24] at w; exact w
                · omega
              have := hr4 d d' d0 d1 (by omega) q2 d1' (hL q2)
              omega
            · have := hr2 d' (by omega)
              omega
  · rw [if_pos (by omega)]
    unfold rfb_readPacket_117
    show RR _ (if d < 0 then some (Sum.inr (Sum.inr (d, Mc))) else _) _
    rw [if_pos (by omega)]
    exact RR_some (Or.inr (Or.inl ⟨_, _, rfl, rfl, Or.inr ⟨d, Mc, rfl, dn, eg, hR, hP⟩⟩))
end EN4

section EN5
variable {K M : mR} {r : Int}
theorem fill101_k {v : Int} : RP (kf_Arrays_fill1_b101 r v K) (fun z => fr [] [101] K z.2 ∧ ∀ j, z.2.2 101 j = if 65536 * r ≤ j ∧ j < 65536 * r + 221 then v else K.2 101 j) := by
  unfold kf_Arrays_fill1_b101
  refine RP_bnd (P := fun e => fr [] [101] K e ∧ ∀ j, e.2 101 j = if 65536 * r ≤ j ∧ j < 65536 * r + 221 then v else K.2 101 j) (RP_whl (I := fun s : Int × mR => (0 ≤ s.1 ∧ s.1 ≤ 221) ∧ fr [] [101] K s.2 ∧ ∀ j, s.2.2 101 j = if 65536 * r ≤ j ∧ j < 65536 * r + s.1 then v else K.2 101 j) (fun s hs => ?_) ⟨⟨Int.le_refl _, (by decide : (0 : Int) ≤ 221)⟩, fr_0, fun j => by rw [if_neg (by have z : ((0, K) : Int × mR).1 = 0 := rfl; omega)]⟩) (fun e he => RP_some he)
  obtain ⟨i, Kc⟩ := s
  obtain ⟨⟨i0, i1⟩, f, h⟩ := hs
  have i0 : 0 ≤ i := i0
  have i1 : i ≤ 221 := i1
  have h : ∀ j, Kc.2 101 j = if 65536 * r ≤ j ∧ j < 65536 * r + i then v else K.2 101 j := h
  unfold kfb_Arrays_fill1_b101_6
  refine RP_ite (fun g => RP_some ⟨f, fun j => ?_⟩) (fun g => ?_)
  · have g : 221 ≤ i := g
    rw [h j, show i = 221 by omega]
  · have g : ¬ 221 ≤ i := g
    show RP (some (Sum.inl (cut (i + 1), mO Kc [] [(101, upI (Kc.2 101) (65536 * r + i) v)]))) _
    rw [cut_i (z := i + 1) (by omega) (by omega)]
    refine RP_some ⟨⟨show 0 ≤ i + 1 by omega, show i + 1 ≤ 221 by omega⟩, fr_m f rfl rfl, fun j => ?_⟩
    show upI (Kc.2 101) (65536 * r + i) v j = if 65536 * r ≤ j ∧ j < 65536 * r + (i + 1) then v else K.2 101 j
    by_cases e : j = 65536 * r + i
    · rw [e, upI_s, if_pos (by omega)]
    · rw [upI_n e, h j]
      by_cases q : 65536 * r ≤ j ∧ j < 65536 * r + i
      · rw [if_pos q, if_pos (by omega)]
      · rw [if_neg q, if_neg (by omega)]
theorem fill102_k {v : Int} : RP (kf_Arrays_fill0_b102 r v K) (fun z => fr [] [102] K z.2 ∧ ∀ j, z.2.2 102 j = if 65536 * r ≤ j ∧ j < 65536 * r + 48 then v else K.2 102 j) := by
  unfold kf_Arrays_fill0_b102
  refine RP_bnd (P := fun e => fr [] [102] K e ∧ ∀ j, e.2 102 j = if 65536 * r ≤ j ∧ j < 65536 * r + 48 then v else K.2 102 j) (RP_whl (I := fun s : Int × mR => (0 ≤ s.1 ∧ s.1 ≤ 48) ∧ fr [] [102] K s.2 ∧ ∀ j, s.2.2 102 j = if 65536 * r ≤ j ∧ j < 65536 * r + s.1 then v else K.2 102 j) (fun s hs => ?_) ⟨⟨Int.le_refl _, (by decide : (0 : Int) ≤ 48)⟩, fr_0, fun j => by rw [if_neg (by have z : ((0, K) : Int × mR).1 = 0 := rfl; omega)]⟩) (fun e he => RP_some he)
  obtain ⟨i, Kc⟩ := s
  obtain ⟨⟨i0, i1⟩, f, h⟩ := hs
  have i0 : 0 ≤ i := i0
  have i1 : i ≤ 48 := i1
  have h : ∀ j, Kc.2 102 j = if 65536 * r ≤ j ∧ j < 65536 * r + i then v else K.2 102 j := h
  unfold kfb_Arrays_fill0_b102_5
  refine RP_ite (fun g => RP_some ⟨f, fun j => ?_⟩) (fun g => ?_)
  · have g : 48 ≤ i := g
    rw [h j, show i = 48 by omega]
  · have g : ¬ 48 ≤ i := g
    show RP (some (Sum.inl (cut (i + 1), mO Kc [] [(102, upI (Kc.2 102) (65536 * r + i) v)]))) _
    rw [cut_i (z := i + 1) (by omega) (by omega)]
    refine RP_some ⟨⟨show 0 ≤ i + 1 by omega, show i + 1 ≤ 48 by omega⟩, fr_m f rfl rfl, fun j => ?_⟩
    show upI (Kc.2 102) (65536 * r + i) v j = if 65536 * r ≤ j ∧ j < 65536 * r + (i + 1) then v else K.2 102 j
    by_cases e : j = 65536 * r + i
    · rw [e, upI_s, if_pos (by omega)]
    · rw [upI_n e, h j]
      by_cases q : 65536 * r ≤ j ∧ j < 65536 * r + i
      · rw [if_pos q, if_pos (by omega)]
      · rw [if_neg q, if_neg (by omega)]
theorem z171_r : RP (whl rfb_readPacket_2 (0, M)) (fun e => fr [] [171] M e ∧ ∀ j, 0 ≤ j → j < 192 → e.2 171 j = 0) := by
  refine RP_whl (I := fun s : Int × mR => (0 ≤ s.1 ∧ s.1 ≤ 192) ∧ fr [] [171] M s.2 ∧ ∀ j, 0 ≤ j → j < s.1 → s.2.2 171 j = 0) (fun s hs => ?_) ⟨⟨Int.le_refl _, (by decide : (0 : Int) ≤ 192)⟩, fr_0, fun j j0 j1 => by have j1 : j < 0 := j1; omega⟩
  obtain ⟨i, Mc⟩ := s
  obtain ⟨⟨i0, i1⟩, f, h⟩ := hs
  have i0 : 0 ≤ i := i0
  have i1 : i ≤ 192 := i1
  have h : ∀ j, 0 ≤ j → j < i → Mc.2 171 j = 0 := h
  unfold rfb_readPacket_2
  refine RP_ite (fun g => RP_some ⟨f, fun j j0 j1 => h j j0 (by have g : 192 ≤ i := g; omega)⟩) (fun g => ?_)
  have g : ¬ 192 ≤ i := g
  show RP (some (Sum.inl (cut (i + 1), mO Mc [] [(171, upI (Mc.2 171) i 0)]))) _
  rw [cut_i (z := i + 1) (by omega) (by omega)]
  refine RP_some ⟨⟨show 0 ≤ i + 1 by omega, show i + 1 ≤ 192 by omega⟩, fr_m f rfl rfl, fun j j0 j1 => ?_⟩
  have j1 : j < i + 1 := j1
  show upI (Mc.2 171) i 0 j = 0
  by_cases e : j = i
  · rw [e, upI_s]
  · rw [upI_n e]
    exact h j j0 (by omega)
theorem z175_r : RP (whl rfb_readPacket_24 (0, M)) (fun e => fr [] [175] M e ∧ ∀ j, 0 ≤ j → j < 12 → e.2 175 j = 0) := by
  refine RP_whl (I := fun s : Int × mR => (0 ≤ s.1 ∧ s.1 ≤ 12) ∧ fr [] [175] M s.2 ∧ ∀ j, 0 ≤ j → j < s.1 → s.2.2 175 j = 0) (fun s hs => ?_) ⟨⟨Int.le_refl _, (by decide : (0 : Int) ≤ 12)⟩, fr_0, fun j j0 j1 => by have j1 : j < 0 := j1; omega⟩
  obtain ⟨i, Mc⟩ := s
  obtain ⟨⟨i0, i1⟩, f, h⟩ := hs
  have i0 : 0 ≤ i := i0
  have i1 : i ≤ 12 := i1
  have h : ∀ j, 0 ≤ j → j < i → Mc.2 175 j = 0 := h
  unfold rfb_readPacket_24
  refine RP_ite (fun g => RP_some ⟨f, fun j j0 j1 => h j j0 (by have g : 12 ≤ i := g; omega)⟩) (fun g => ?_)
  have g : ¬ 12 ≤ i := g
  show RP (some (Sum.inl (cut (i + 1), mO Mc [] [(175, upI (Mc.2 175) i (nar1 0))]))) _
  rw [cut_i (z := i + 1) (by omega) (by omega), nar1_b_nx (Or.inl rfl)]
  refine RP_some ⟨⟨show 0 ≤ i + 1 by omega, show i + 1 ≤ 12 by omega⟩, fr_m f rfl rfl, fun j j0 j1 => ?_⟩
  have j1 : j < i + 1 := j1
  show upI (Mc.2 175) i 0 j = 0
  by_cases e : j = i
  · rw [e, upI_s]
  · rw [upI_n e]
    exact h j j0 (by omega)
theorem z172_r : RP (whl rfb_readPacket_45 (0, M)) (fun e => fr [] [172] M e ∧ ∀ j, 0 ≤ j → j < 16 → e.2 172 j = 0) := by
  refine RP_whl (I := fun s : Int × mR => (0 ≤ s.1 ∧ s.1 ≤ 16) ∧ fr [] [172] M s.2 ∧ ∀ j, 0 ≤ j → j < s.1 → s.2.2 172 j = 0) (fun s hs => ?_) ⟨⟨Int.le_refl _, (by decide : (0 : Int) ≤ 16)⟩, fr_0, fun j j0 j1 => by have j1 : j < 0 := j1; omega⟩
  obtain ⟨i, Mc⟩ := s
  obtain ⟨⟨i0, i1⟩, f, h⟩ := hs
  have i0 : 0 ≤ i := i0
  have i1 : i ≤ 16 := i1
  have h : ∀ j, 0 ≤ j → j < i → Mc.2 172 j = 0 := h
  unfold rfb_readPacket_45
  refine RP_ite (fun g => RP_some ⟨f, fun j j0 j1 => h j j0 (by have g : 16 ≤ i := g; omega)⟩) (fun g => ?_)
  have g : ¬ 16 ≤ i := g
  show RP (some (Sum.inl (cut (i + 1), mO Mc [] [(172, upI (Mc.2 172) i 0)]))) _
  rw [cut_i (z := i + 1) (by omega) (by omega)]
  refine RP_some ⟨⟨show 0 ≤ i + 1 by omega, show i + 1 ≤ 16 by omega⟩, fr_m f rfl rfl, fun j j0 j1 => ?_⟩
  have j1 : j < i + 1 := j1
  show upI (Mc.2 172) i 0 j = 0
  by_cases e : j = i
  · rw [e, upI_s]
  · rw [upI_n e]
    exact h j j0 (by omega)

theorem un_i (x : Int) : ((un x : Nat) : Int) = x % 18446744073709551616 := by
  unfold un
  show (((BitVec.ofInt 64 x).toNat : Nat) : Int) = _
  rw [BitVec.toNat_ofInt]
  omega
theorem un_t {x : Int} (hx : R64 x) (h : un x < 9223372036854775808) : x = ((un x : Nat) : Int) := by
  have b := un_i x
  obtain ⟨h1, h2⟩ := hx
  omega
theorem a64_16 (p : Int) : and64 p 65535 = p % 65536 := by
  have e : un (and64 p 65535) = un p % 65536 := by
    rw [un_and, show un 65535 = 2 ^ 16 - 1 by decide +kernel, Nat.and_two_pow_sub_one_eq_mod]
  have b := un_i p
  have t := un_t (x := and64 p 65535) and_r (by omega)
  omega
theorem a32_16 (p : Int) : and32 p 65535 = p % 65536 := by
  unfold and32
  have e9 : ((i32 p &&& i32 65535).toBitVec).toNat = (i32 p).toBitVec.toNat % 65536 := by
    rw [Int32.toBitVec_and, BitVec.toNat_and, show (i32 65535).toBitVec.toNat = 2 ^ 16 - 1 by decide +kernel, Nat.and_two_pow_sub_one_eq_mod]
  have e3 : ((i32 p).toBitVec.toNat : Int) = p % 4294967296 := by
    show (((BitVec.ofInt 32 p).toNat : Nat) : Int) = _
    rw [BitVec.toNat_ofInt]
    omega
  show (i32 p &&& i32 65535).toBitVec.toInt = _
  rw [BitVec.toInt_eq_toNat_of_lt (by rw [e9]; omega), e9]
  omega
theorem VW_nn {n w : Nat} (h : n < 2 ^ w) (h2 : n < 9223372036854775808) : VW (n : Int) (w : Int) := ⟨⟨by omega, by omega⟩, fun i hi => by
  rw [bt_n, Nat.testBit_lt_two_pow (Nat.lt_of_lt_of_le h (Nat.pow_le_pow_right (by decide) (by omega))), Bool.and_false]⟩
theorem VW_16 {x : Int} (h0 : 0 ≤ x) (h1 : x < 65536) : VW x 16 := by
  have := VW_nn (n := x.toNat) (w := 16) (by show x.toNat < 65536; omega) (by omega)
  rw [show ((x.toNat : Nat) : Int) = x by omega] at this
  exact this

def ENo (r : Int) (K M k m : mR) : Prop := fr [] enK K k ∧ fr enF enM M m ∧ rowC 101 r K k ∧ rowC 102 r K k ∧ (∀ v, v ≠ r → k.2 94 v = K.2 94 v ∧ k.2 98 v = K.2 98 v) ∧ ∀ s, 0 ≤ s → s < 48 → k.2 102 (65536 * r + s) = -1

def PKw (r : Int) (K M : mR) : Prop := K.2 91 r = 0 ∧ (K.2 92 r = M.2 154 0 ∧ 0 ≤ M.2 154 0 ∧ M.2 154 0 ≤ 128) ∧ K.2 93 r = M.2 155 0 ∧ BYr r (M.2 154 0) (M.2 159) K
theorem enter_q (hk : PKw r K M) (hp : RPg K M) (h35 : 3 ≤ M.1 21 ∧ ∀ i, 0 ≤ i → i < 3 → M.2 35 i = 16) (hNR : ∀ q, 0 ≤ q → q < M.1 24 → 0 < M.2 41 q ∨ NR (M.2 44) (M.2 38) (M.2 42) (M.2 45) (M.2 41) (M.1 24) q) (hO : 0 < M.1 24 → M.2 39 0 = 0) (hVw : ∀ b i, 0 ≤ b → b < M.1 22 → 0 ≤ i → i < 64 → VW (M.2 138 (64 * b + i)) (M.2 36 b)) : RR (kf_op_enter r K) (rf_readPacket M) (fun y z => ENo r K M y.2 z.2 ∧ ((z.1 = 1 ∧ y.2.2 98 r = 0 ∧ RDR r y.2 z.2) ∨ (z.1 = 0 ∧ y.2.2 98 r = 2))) := by
  obtain ⟨k91, ⟨k92, l0, l1⟩, k93, hB⟩ := hk
  have hp0 := hp
  obtain ⟨-, -, hWB, hH, ⟨⟨s0, s16, n16⟩, k221, hG, -, -, hAll⟩, m21⟩ := hp0
  unfold kf_op_enter rf_readPacket rfl_readPacket_22 rfl_readPacket_43 rfl_readPacket_64
  rw [if_pos k91]
  obtain ⟨K0, eK0⟩ : ∃ K0, K0 = mO K [] [(98, upI (K.2 98) r 0)] := ⟨_, rfl⟩
  rw [← eK0]
  have f0 : fr [] enK K K0 := by rw [eK0]; exact fr_m fr_0 rfl rfl
  have e98 : K0.2 98 = upI (K.2 98) r 0 := by rw [eK0]; rfl
  refine RR_l (fill101_k (K := K0)) (fun a ha => RR_l (fill102_k (K := a.2)) (fun b hb => RR_r (z171_r (M := M)) (fun c hc => RR_r (z175_r (M := c)) (fun d hd => RR_r (z172_r (M := d)) (fun e he => ?_)))))
  obtain ⟨fa, ha⟩ := ha
  obtain ⟨fb, hb⟩ := hb
  obtain ⟨fc, hc⟩ := hc
  obtain ⟨fd, hd⟩ := hd
  obtain ⟨fe, he⟩ := he
  have fK : fr [] enK K b.2 := fr_s fb (fr_s fa f0 rfl rfl) rfl rfl
  have fM : fr enF enM M e := fr_s fe (fr_s fd (fr_s fc fr_0 rfl rfl) rfl rfl) rfl rfl
  have b221 : b.2.1 221 = M.1 23 := (fr1 fK 221 rfl).trans k221
  have e24 : e.1 24 = M.1 24 := fr1 fM 24 rfl
  have b101 : ∀ j, b.2.2 101 j = if 65536 * r ≤ j ∧ j < 65536 * r + 221 then 0 else K.2 101 j := fun j => by
    rw [show b.2.2 101 = a.2.2 101 from fr2 fb 101 rfl, ha j, show K0.2 101 = K.2 101 by rw [eK0]; rfl]
  have b102 : ∀ j, b.2.2 102 j = if 65536 * r ≤ j ∧ j < 65536 * r + 48 then -1 else K.2 102 j := fun j => by
    rw [hb j, show a.2.2 102 = K.2 102 from (fr2 fa 102 rfl).trans (by rw [eK0]; rfl)]
  have b98 : b.2.2 98 = upI (K.2 98) r 0 := (fr2 fb 98 rfl).trans ((fr2 fa 98 rfl).trans e98)
  rw [b221, e24, show b.2.2 93 = K.2 93 from fr2 fK 93 rfl, show b.2.2 92 = K.2 92 from fr2 fK 92 rfl, show b.2.2 94 = K.2 94 from (fr2 fb 94 rfl).trans ((fr2 fa 94 rfl).trans (by rw [eK0]; rfl)), show e.2 155 = M.2 155 from fr2 fM 155 rfl, show e.2 154 = M.2 154 from fr2 fM 154 rfl, k93, k92, a64_16, a32_16]
  obtain ⟨K1, eK1⟩ : ∃ K1, K1 = mO b.2 [] [(94, upI (K.2 94) r 0), (101, upI (upI (b.2.2 101) (65536 * r + 204) (M.2 155 0 % 65536)) (65536 * r + 205) (M.2 154 0))] := ⟨_, rfl⟩
  obtain ⟨M1, eM1⟩ : ∃ M1, M1 = mO e [(176, 0), (177, 0)] [(172, upI (upI (e.2 172) 0 (M.2 155 0 % 65536)) 1 (M.2 154 0))] := ⟨_, rfl⟩
  rw [← eK1, ← eM1]
  have g1 : fr [] enK K K1 := by rw [eK1]; exact fr_m fK rfl rfl
  have h1 : fr enF enM M M1 := by rw [eM1]; exact fr_m fM rfl rfl
  have c101 : K1.2 101 = upI (upI (b.2.2 101) (65536 * r + 204) (M.2 155 0 % 65536)) (65536 * r + 205) (M.2 154 0) := by rw [eK1]; rfl
  have c172 : M1.2 172 = upI (upI (e.2 172) 0 (M.2 155 0 % 65536)) 1 (M.2 154 0) := by rw [eM1]; rfl
  have c171 : ∀ j, 0 ≤ j → j < 192 → M1.2 171 j = 0 := fun j j0 j1 => by
    rw [show M1.2 171 = c.2 171 by rw [eM1]; exact (fr2 fe 171 rfl).trans (fr2 fd 171 rfl)]
    exact hc j j0 j1
  have c175 : ∀ j, 0 ≤ j → j < 12 → M1.2 175 j = 0 := fun j j0 j1 => by
    rw [show M1.2 175 = d.2 175 by rw [eM1]; exact fr2 fe 175 rfl]
    exact hd j j0 j1
  have c177 : M1.1 177 = 0 := by rw [eM1]; rfl
  have c176 : M1.1 176 = 0 := by rw [eM1]; rfl
  have K94 : K1.2 94 = upI (K.2 94) r 0 := by rw [eK1]; rfl
  have K98 : K1.2 98 = upI (K.2 98) r 0 := by rw [eK1]; exact b98
  have K102 : ∀ j, K1.2 102 j = if 65536 * r ≤ j ∧ j < 65536 * r + 48 then -1 else K.2 102 j := fun j => by
    rw [show K1.2 102 = b.2.2 102 by rw [eK1]; rfl]
    exact b102 j
  have m154 : M1.2 154 = M.2 154 := fr2 h1 154 rfl
  have v172 : ∀ i, 0 ≤ i → i < 16 → M1.2 172 i = if i = 1 then M.2 154 0 else if i = 0 then M.2 155 0 % 65536 else 0 := fun i i0 i1 => by
    rw [c172]
    by_cases q : i = 1
    · rw [q, upI_s, if_pos rfl]
    · rw [upI_n q, if_neg q]
      by_cases q2 : i = 0
      · rw [q2, upI_s, if_pos rfl]
      · rw [upI_n q2, if_neg q2]
        exact he i i0 i1
  have hR : RDR r K1 M1 := by
    refine ⟨fun s s0 s1 => ?_, ⟨?_, ?_, ?_⟩, ⟨?_, ?_, ?_⟩, fun q q0 q1 => ?_, ⟨fun i i0 i1 => ?_, fun i f i0 i1 f0 f1 => ?_, ?_⟩, fun i i0 i1 _ f f0 f1 => c171 _ (by omega) (by omega)⟩
    · unfold smM
      rw [c101, c177]
      by_cases q1 : s = 205
      · rw [q1, upI_s, if_neg (by decide), if_pos (by decide), v172 _ (by decide) (by decide)]
        rfl
      rw [upI_n (by omega)]
      by_cases q2 : s = 204
      · rw [q2, upI_s, if_neg (by decide), if_pos (by decide), v172 _ (by decide) (by decide)]
        rfl
      rw [upI_n (by omega), b101, if_pos (by omega)]
      by_cases q3 : s = 220
      · rw [if_pos q3, if_pos rfl]
      rw [if_neg q3]
      by_cases q4 : 204 ≤ s
      · rw [if_pos q4, v172 _ (by omega) (by omega), if_neg (by omega), if_neg (by omega)]
      rw [if_neg q4]
      by_cases q5 : s % 17 = 0
      · rw [if_pos q5, c175 _ (by omega) (by omega), if_pos rfl]
      · rw [if_neg q5, c171 _ (by omega) (by omega)]
    · rw [K94, upI_s, c176]
    · rw [c176]; exact Int.le_refl _
    · rw [c176, m154]; exact l0
    · rw [fr2 g1 92 rfl, m154]; exact k92
    · rw [m154]; exact l0
    · rw [m154]; exact l1
    · rw [m154] at q1
      rw [fr2 g1 100 rfl, fr2 h1 159 rfl]
      exact hB q q0 q1
    · rw [fr1 h1 21 rfl] at i1
      rw [fr2 h1 35 rfl, v172 i i0 (by omega)]
      by_cases q : i = 1
      · rw [if_pos q, h35.2 i i0 (by omega)]
        exact VW_16 l0 (by omega)
      · rw [if_neg q]
        by_cases q2 : i = 0
        · rw [if_pos q2, h35.2 i i0 (by omega)]
          exact VW_16 (by omega) (by omega)
        · rw [if_neg q2]
          exact ⟨l64 0 rfl, fun i _ => bt_01.1 i⟩
    · rw [fr1 h1 20 rfl] at i1
      rw [fr2 h1 29 rfl, fr2 h1 34 rfl] at f1
      have b := (HIm_i hH i0 i1).2.1
      have m20 := hH.1.2
      rw [c171 _ (by omega) (by omega)]
      exact ⟨l64 0 rfl, fun i _ => bt_01.1 i⟩
    · rw [fr1 h1 22 rfl, fr2 h1 138 rfl, fr2 h1 36 rfl]
      exact hVw
  have start : ENo r K M K1 M1 := by
    refine ⟨g1, h1, fun j hj => ?_, fun j hj => ?_, fun v hv => ⟨?_, ?_⟩, fun s s0 s1 => ?_⟩
    · rw [c101, upI_n (by omega), upI_n (by omega), b101, if_neg (by omega)]
    · rw [K102, if_neg (by omega)]
    · rw [K94, upI_n hv]
    · rw [K98, upI_n hv]
    · rw [K102, if_pos (by omega)]
  have go : ∀ g0 q0 : Int, GSt M1 g0 q0 → RR (kfl_op_enter_80 r g0 K1) (rfl_readPacket_116 q0 M1) (fun y z => ENo r K M y.2 z.2 ∧ ((z.1 = 1 ∧ y.2.2 98 r = 0 ∧ RDR r y.2 z.2) ∨ (z.1 = 0 ∧ y.2.2 98 r = 2))) := fun g0 q0 hg => by
    have hp1 : RPg K1 M1 := RPg_f hp g1 h1
    have Q := states_q (K := K1) (M := M1) (r := r) hR hp1 (by rw [fr1 h1 24 rfl, fr2 h1 41 rfl, fr2 h1 44 rfl, fr2 h1 38 rfl, fr2 h1 42 rfl, fr2 h1 45 rfl]; exact hNR) hg
    unfold kfl_op_enter_80 rfl_readPacket_116
    refine RR_bnd Q (fun x y hxy => ?_)
    have st : ∀ (k m : mR) (v : Int), PSo r K1 M1 k m → ENo r K M (mO k [] [(98, upI (k.2 98) r v)]) m := fun k m v hP => by
      obtain ⟨p1, p2, p3, p4⟩ := hP
      obtain ⟨-, -, t3, t4, t5, t6⟩ := start
      refine ⟨fr_m (fr_s p1 g1 rfl rfl) rfl rfl, fr_s p2 h1 rfl rfl, fun j hj => (p3 j hj).trans (t3 j hj), fun j hj => ?_, fun w hw => ⟨(p4 w hw).trans (t5 w hw).1, ?_⟩, fun s s0 s1 => ?_⟩
      · show k.2 102 j = _
        rw [fr2 p1 102 rfl]
        exact t4 j hj
      · show upI (k.2 98) r v w = _
        rw [upI_n hw, fr2 p1 98 rfl]
        exact (t5 w hw).2
      · show k.2 102 _ = _
        rw [fr2 p1 102 rfl]
        exact t6 s s0 s1
    unfold kfl_op_enter_109 kfl_op_enter_121
    rcases hxy with ⟨x17, m, rfl, hP⟩ | ⟨d', m, rfl, dn, xg, hR', hP⟩
    · rw [x17, if_neg (by decide)]
      exact RR_some ⟨st _ _ _ hP, Or.inr ⟨rfl, upI_s⟩⟩
    · show RR _ (rfl_readPacket_302 d' m) _
      unfold rfl_readPacket_302 rfl_readPacket_312
      rcases dn with dn | dn
      · rw [xg, dn, if_pos (by decide), if_pos rfl]
        refine RR_some ⟨st _ _ _ hP, Or.inl ⟨rfl, upI_s, ?_⟩⟩
        exact RDR_f hR' (fr_m (fr_0 (u := []) (v := [98])) rfl rfl) (fr_0 (u := []) (v := [])) rfl rfl rfl
      · rw [xg, dn, if_neg (by decide), if_neg (by decide)]
        exact RR_some ⟨st _ _ _ hP, Or.inr ⟨rfl, upI_s⟩⟩
  have iff1 : M.1 23 ≤ 0 ↔ M.1 24 ≤ 0 := by
    constructor
    · intro q
      rcases Int.lt_or_le 0 (M.1 24) with w | w
      · have t0 := hG 0 (Int.le_refl _) w
        have t1 := t0.1
        have t2 := t0.2.1
        omega
      · exact w
    · intro q
      rcases Int.lt_or_le 0 (M.1 23) with w | w
      · have := hAll 0 (Int.le_refl _) w
        omega
      · exact w
  refine RR_ii iff1 (fun q1 q2 => go 16 (-1) (Or.inr ⟨Or.inl rfl, by decide⟩)) (fun q1 q2 => go 0 0 (Or.inl ⟨Int.le_refl _, by rw [fr1 h1 24 rfl]; omega, by rw [fr2 h1 39 rfl]; exact (hO (by omega)).symm⟩))
end EN5
