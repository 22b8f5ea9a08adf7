

def RPL (K M : mR) : Prop := RPP K M ∧ LSm K M ∧ LYS K M ∧ UQT K ∧ (1 ≤ M.1 129 ∧ M.1 129 ≤ 12) ∧ M.1 26 ≤ 8 ∧ ∀ t, 0 ≤ t → t < M.1 26 → TBp t K M

def H72 (K : mR) : Prop := ∀ s, 0 ≤ s → s < K.1 225 → K.2 52 s = 2 → 0 ≤ K.2 72 (K.2 55 s) ∧ K.2 72 (K.2 55 s) ≤ 4
set_option maxHeartbeats 1000000 in
theorem H72_f {F A : List Nat} {K K' : mR} (h : H72 K) (f : fr F A K K') (c1 : chk [225] F = true) (c2 : chk [52, 55, 72] A = true) : H72 K' := by
  unfold H72
  rw [fr1 f 225 (chk_1 c1 (by decide)), fr2 f 52 (chk_1 c2 (by decide)), fr2 f 55 (chk_1 c2 (by decide)), fr2 f 72 (chk_1 c2 (by decide))]
  exact h
set_option maxHeartbeats 1000000 in
theorem H72_P {K M : mR} (hP : RPL K M) : H72 K := fun s s0 s1 k => by
  obtain ⟨hR, -⟩ := hP
  obtain ⟨-, -, -, -, -, hG, k225⟩ := hR
  obtain ⟨-, -, -, -, -, hS⟩ := hG
  obtain ⟨⟨e52, -, -, e55⟩, -, hst⟩ := hS s s0 (by omega)
  rcases hst with ⟨q, -⟩ | ⟨q, -⟩ | ⟨-, q⟩
  · omega
  · omega
  · rw [e55]
    obtain ⟨w1, w2, w3, -⟩ := q.2.1
    rw [w1]
    exact ⟨w2, w3⟩
set_option maxHeartbeats 1000000 in
theorem stp_w2 {K : mR} {r s : Int} (h : K.2 52 s = 2 → 0 ≤ K.2 72 (K.2 55 s) ∧ K.2 72 (K.2 55 s) ≤ 4) : RP (kf_op_doStep_b71 r s K) (fun y => rwL r K y.2) := by
  unfold kf_op_doStep_b71
  refine RP_ite (fun _ => RP_bnd (u_kf_nd_valueOf_b101_b105 _ _ _ _ _) (fun y hy => RP_some (rwL_f hy rfl))) (fun _ => RP_ite (fun q => RP_bnd (app_w (h q).1 (h q).2) (fun y hy => RP_some hy)) (fun _ => RP_bnd (u_kf_op_doDeed_b71 _ _ _) (fun y hy => RP_some (rwL_f hy rfl))))
set_option maxHeartbeats 1000000 in
theorem wrk_q {K : mR} {r g : Int} (hk : K.2 91 r = 0) (k225 : K.1 225 ≤ 1000) (h72 : H72 K) : RP (kf_op_work_b71 r g K) (fun y => fr [] wkL K y.2 ∧ rwL r K y.2) := by
  unfold kf_op_work_b71
  rw [if_pos hk]
  refine RP_bnd (P := fun e => fr [] wkL K e ∧ rwL r K e) (RP_whl (I := fun s : Int × mR => 0 ≤ s.1 ∧ fr [] wkL K s.2 ∧ rwL r K s.2) (fun s hs => ?_) ⟨Int.le_refl _, fr_0, rwL_0⟩) (fun e he => RP_some he)
  obtain ⟨a0, a1, a2⟩ := hs
  have e225 : s.2.1 225 = K.1 225 := fr1 a1 225 rfl
  have B : s.1 < K.1 225 → RP (kfl_op_work_b71_135 r g s.1 s.2) (sel (fun s : Int × mR => 0 ≤ s.1 ∧ fr [] wkL K s.2 ∧ rwL r K s.2) (fun e => fr [] wkL K e ∧ rwL r K e)) := fun hs => by
    unfold kfl_op_work_b71_135 kfl_op_work_b71_150
    rw [cut_i (z := s.1 + 1) (by omega) (by omega)]
    refine RP_bnd (RP_and (u_kf_op_doStep_b71 _ _ _) (stp_w2 (K := s.2) (H72_f h72 a1 rfl rfl s.1 a0 (by omega)))) (fun y hy => RP_some ?_)
    exact ⟨show 0 ≤ s.1 + 1 by omega, fr_m (fr_s hy.1 a1 rfl rfl) rfl rfl, rwL_t (rwL_t a2 hy.2) (fun _ _ => ⟨rfl, rfl, rfl⟩)⟩
  have N : s.1 < K.1 225 → RP (kfl_op_work_b71_150 r g s.1 s.2) (sel (fun s : Int × mR => 0 ≤ s.1 ∧ fr [] wkL K s.2 ∧ rwL r K s.2) (fun e => fr [] wkL K e ∧ rwL r K e)) := fun hs => by
    unfold kfl_op_work_b71_150
    rw [cut_i (z := s.1 + 1) (by omega) (by omega)]
    exact RP_some ⟨show 0 ≤ s.1 + 1 by omega, a1, a2⟩
  unfold kfb_op_work_b71_71
  rw [e225]
  exact RP_ite (fun _ => RP_some ⟨a1, a2⟩) (fun q => RP_ite (fun _ => RP_some ⟨a1, a2⟩) (fun _ => RP_ite (fun _ => RP_ite (fun _ => B (by omega)) (fun _ => RP_ite (fun _ => B (by omega)) (fun _ => N (by omega)))) (fun _ => N (by omega))))

def RXO (r : Int) (K K' : mR) : Prop := (∀ v, v ≠ r → K'.2 98 v = K.2 98 v) ∧ rowC 101 r K K' ∧ rowC 102 r K K'
section PKA
variable {K M : mR} {W E k0 : Int} {D : Int → Int} {HT : Int → Nat → Int → Int} {HW : Int → Int → Int} {HV : Int → mR} {HX : Int → XSt} {HU_nx : Int → Int → Int} {g : Nat}
set_option maxHeartbeats 1000000 in
theorem TWF_p {t : Int} {T : Nat → Int → Int} (hG : GTp K M) (hT : TBp t K M) (hQ : TQ1 t K (wT M T)) : TWF K t := by
  obtain ⟨gp, hA, -⟩ := hG
  obtain ⟨⟨t0, t7, -⟩, hk, hX, -, -, ⟨h74, h57, h57'⟩, -⟩ := hT
  obtain ⟨k78, ⟨q0, q72⟩, -, hr, -⟩ := hQ
  refine ⟨⟨t0, t7⟩, by have := hk.1; have := hk.2.1; have := hk.2.2.1; omega, by omega, fun i i0 i1 => ⟨?_, XRa_of gp.1 (hX i i0 (by have := hk.1; omega)).1⟩, fun ks => ?_⟩
  · have := (hk.2.2.2.1 i i0 (by have := hk.1; omega)).2.1
    omega
  · have ab : 0 ≤ (lkK K t ks).1 ∧ (lkK K t ks).1 < M.1 25 := by
      obtain ⟨br, -, -⟩ := mtk_r K t ks (K.2 78 t).toNat
      unfold lkK
      by_cases bn : (mtk K t ks (K.2 78 t).toNat).1 = -1
      · rw [if_pos bn]
        show 0 ≤ K.2 74 t ∧ K.2 74 t < M.1 25
        omega
      · rw [if_neg bn]
        obtain ⟨-, -, r89, r25, -⟩ := hr (mtk K t ks (K.2 78 t).toNat).1 (by omega) (by omega)
        show 0 ≤ K.2 89 _ ∧ K.2 89 _ < M.1 25
        rw [r89]
        exact r25
    obtain ⟨⟨p1, p2, p2'⟩, ⟨p3, p4, p4'⟩, -, -, p8⟩ := hA _ ab.1 ab.2
    refine ⟨by omega, by omega, fun i i0 i1 => ?_⟩
    obtain ⟨d1, d2⟩ := p8 (K.2 43 (lkK K t ks).1 + i) (by omega) (by omega)
    exact (DWF_of gp d1 d2).1
set_option maxHeartbeats 1000000 in
theorem SWk_p {s : Int} (hG : GTp K M) (s0 : 0 ≤ s) (s1 : s < M.1 27) (hQ : ∀ t, 0 ≤ t → t < M.1 26 → ∃ T, TQ1 t K (wT M T)) : SWk K s := by
  obtain ⟨gp, hA, -, -, -, hS⟩ := id hG
  obtain ⟨⟨e52, e53, e54, e55⟩, -, h⟩ := hS s s0 s1
  rcases h with ⟨k, e56, d1, d2⟩ | ⟨k, he, hE⟩ | ⟨k, hT⟩
  · obtain ⟨x, y⟩ := DWF_of gp d1 d2
    rw [← e56] at x y
    exact Or.inl ⟨e52.trans k, x, y rfl⟩
  · exact Or.inr (Or.inl ⟨e52.trans k, XRa_of gp.1 hE⟩)
  · refine Or.inr (Or.inr ⟨e52.trans k, ?_⟩)
    rw [e55]
    obtain ⟨T, q⟩ := hQ _ hT.1.1 hT.1.2.2
    exact TWF_p hG hT q

def Dn (D : Int → Int) (k0 : Int) (g : Nat) : Int → Int := fun k => if k = k0 then (g : Int) + 1 else D k
set_option maxHeartbeats 1000000 in
theorem NXD_1 {n : Int} (h : NXD W E D g n) (c0 : W ≤ k0) (c1 : k0 < E) (hD : D k0 = g) (hO : ∀ k, W ≤ k → k < k0 → (g : Int) < D k) : n = k0 := by
  obtain ⟨⟨n0, n1⟩, n2, n3⟩ := h
  rcases Int.lt_trichotomy n k0 with q | q | q
  · have := n3 n (Int.le_refl _) (by omega)
    have := hO n n0 q
    omega
  · exact q
  · have := n2 k0 c0 q
    omega
set_option maxHeartbeats 1000000 in
theorem NXD_2 (c0 : W ≤ k0) (c1 : k0 < E) (hO : ∀ k, W ≤ k → k < k0 → (g : Int) < D k) (hN : ∀ k, k0 < k → k < E → D k ≤ (g : Int)) : NXD W E (Dn D k0 g) g (k0 + 1) := by
  refine ⟨⟨by omega, by omega⟩, fun k q0 q1 => ?_, fun k q0 q1 => ?_⟩
  · unfold Dn
    by_cases e : k = k0
    · rw [if_pos e]; omega
    · rw [if_neg e]; exact hO k q0 (by omega)
  · unfold Dn
    rw [if_neg (by omega)]
    exact hN k (by omega) q1
set_option maxHeartbeats 1000000 in
theorem NXD_3 {n h : Int} (q : NXD W E D h n) (hD : D k0 = g) (ne : h ≠ g) : NXD W E (Dn D k0 g) h n := by
  obtain ⟨n1, n2, n3⟩ := q
  refine ⟨n1, fun k q0 q1 => ?_, fun k q0 q1 => ?_⟩
  · have := n2 k q0 q1
    unfold Dn
    by_cases e : k = k0
    · rw [if_pos e]; rw [e] at this; omega
    · rw [if_neg e]; exact this
  · have := n3 k q0 q1
    unfold Dn
    by_cases e : k = k0
    · rw [if_pos e]; rw [e] at this; omega
    · rw [if_neg e]; exact this

set_option maxHeartbeats 1000000 in
theorem stg_pa {y : Int × mR} (hP : RPL K M) (h : PKg K M W E D HT HW HV HX HU_nx) (hE : E - W ≤ 64) (c0 : W ≤ k0) (c1 : k0 < E) (hD : D k0 = g) (hO : ∀ k, W ≤ k → k < k0 → (g : Int) < D k) (hN : ∀ k, k0 < k → k < E → D k ≤ (g : Int)) (gS_nx : (g : Int) < M.1 129) (hTQ : ∀ t, 0 ≤ t → t < M.1 26 → homeK K t = g → TQ1 t K (wT M (HT k0))) (hQ : ∀ t, 0 ≤ t → t < M.1 26 → ∃ T, TQ1 t K (wT M T)) (k91 : K.2 91 (k0 % 128) = 0) (k98 : K.2 98 (k0 % 128) ≠ 2) (hy : kf_op_work_b71 (k0 % 128) (g : Int) K = some y) : PKg y.2 M W E (Dn D k0 g) HT HW HV HX HU_nx ∧ RXO (k0 % 128) K y.2 := by
  obtain ⟨hR, hl, hL, hU, hS, h26, hTB⟩ := hP
  obtain ⟨-, -, -, -, hEM, hG, k225⟩ := id hR
  obtain ⟨gp, hA, h25, h115, h27, hSt⟩ := id hG
  obtain ⟨h1, h2⟩ := h
  obtain ⟨d0, o91, oo⟩ := h1 k0 c0 c1
  have acc : PKa K M (k0 % 128) (D k0).toNat (HX k0) (HV k0) (HU_nx k0) (HW k0) (HW (k0 + 1)) ∧ VPR K M (HV k0) (HT k0) := by
    rcases oo with ⟨-, q | q⟩ | ⟨q, -⟩
    · exact q
    · exact absurd q.1 k98
    · exact absurd k91 q
  obtain ⟨⟨a1, a2, a3, a4, a5, a6, a7, a8⟩, ⟨⟨v39, v72, v74, v81, v84⟩, vq⟩⟩ := acc
  rw [hD, show ((g : Int)).toNat = g from rfl] at a4 a5
  obtain ⟨V, eV⟩ : ∃ V, V = HV k0 := ⟨_, rfl⟩
  obtain ⟨X0, eX⟩ : ∃ X0, X0 = HX k0 := ⟨_, rfl⟩
  rw [← eV] at a4 a5 a6 a8 v39 v72 v74 v81 v84 vq
  rw [← eX] at a4 a5 a6 a7 a8
  obtain ⟨r, er⟩ : ∃ r, r = k0 % 128 := ⟨_, rfl⟩
  rw [← er] at a1 a2 a3 a4 a5 a6 k91 k98 hy o91
 
  have w := work_k (K := K) (r := r) (g := g) k91 k98 (by omega) (fun s s0 s1 => ⟨SWk_p hG s0 (by omega) hQ, (hL.1 s s0 s1).1⟩) y hy
  obtain ⟨wx, wf, w1, w2, w3, w5⟩ := w
 
  have acts : ∀ s, 0 ≤ s → s < K.1 225 → K.2 52 s = 2 → ∀ ks, ACTS K s (lkK V (K.2 55 s) ks).1 := fun s s0 s1 k2 ks => by
    obtain ⟨⟨e52, e53, e54, e55⟩, -, hst⟩ := hSt s s0 (by omega)
    have hT : TBp (M.2 63 s) K M := by
      rcases hst with ⟨q, -⟩ | ⟨q, -⟩ | ⟨-, q⟩
      · omega
      · omega
      · exact q
    rw [← e55] at hT
    rcases (vq _ hT.1.1 hT.1.2.2).2 ks with q | ⟨i, i0, i1, q⟩
    · exact Or.inl q
    · exact Or.inr ⟨i, i0, i1, q⟩
  have sw : ∀ s : Nat, s < (K.1 225).toNat → SWF K (lkK V) (s : Int) := fun s hs => SWF_of hG hl k225 (by omega) (by omega) (acts s (by omega) (by omega))
 
  have se : sgo (fun s => astep K (lkK K) (s : Int)) (fun s => (K.2 59 (s : Int)).toNat) g (K.1 225).toNat (XSk r K) = sgo (stV K V) (hhK K) g (K.1 225).toNat (XSk r K) := by
    refine sgo_e (fun s hs hg x => ?_)
    have hom := hL.1 s (by omega) (by omega)
    have hg : (K.2 59 (s : Int)).toNat = g := hg
    refine astep_lk (M := M) (lk := lkK V) gp.1 hA (fun k2 ks => ?_) (fun k2 ks => ?_)
    · obtain ⟨⟨e52, e53, e54, e55⟩, -, hst⟩ := hSt s (by omega) (by omega)
      have hT : TBp (M.2 63 s) K M := by
        rcases hst with ⟨q, -⟩ | ⟨q, -⟩ | ⟨-, q⟩
        · omega
        · omega
        · exact q
      rw [← e55] at hT
      exact acts_A hT (hl _ hT.1.1 hT.1.2.2) (acts s (by omega) (by omega) k2 ks)
    · obtain ⟨⟨e52, e53, e54, e55⟩, -, hst⟩ := hSt s (by omega) (by omega)
      have hT : TBp (M.2 63 s) K M := by
        rcases hst with ⟨q, -⟩ | ⟨q, -⟩ | ⟨-, q⟩
        · omega
        · omega
        · exact q
      rw [← e55] at hT
      have hk := hT.2.1
      have h1' := hTQ (K.2 55 s) hT.1.1 hT.1.2.2 (by rw [home_1 hU (by omega) (by omega) hT.1.1]; omega)
      have e := lk_eq (K := V) (K' := K) (T := wT M (HT k0)) (vq _ hT.1.1 hT.1.2.2).1 h1' hk.2.1 (by rw [v72]) (by rw [v72]; exact hk.1) (by rw [v74]) (fun i => by rw [v81]) (fun i => by rw [v84]) (fun a a0 a1 => by
        rw [v39]
        exact (hA a a0 a1).2.2.1.1) ks
      refine ⟨e.1, fun i i0 i1 => ?_⟩
      rcases e.2 with ⟨-, q⟩ | q
      · rw [q]
      · exact q i i0 (by rw [v39]; exact i1)
  rw [se] at wx
 
  have ph : ∀ s : Nat, s < (K.1 225).toNat → hhK K s = g → FPT (RDs K (s : Int)) (WRs K (s : Int)) (stV K V s) ∧ ∀ k j, RDs K (s : Int) k j → PGs K (M.1 22) g k j := fun s hs hg => by
    have hom := hL.1 s (by omega) (by omega)
    have hg : (K.2 59 (s : Int)).toNat = g := hg
    refine ⟨astep_F (sw s hs), fun k j q => ?_⟩
    have := RDs_P hG hl hL k225 (show 0 ≤ (s : Int) by omega) (by omega) q
    rw [show K.2 59 (s : Int) = (g : Int) by omega] at this
    exact this
  have pw : ∀ {b j : Int}, 0 ≤ b → b < M.1 22 → 64 * b ≤ j → j < 64 * b + 64 → ∀ s : Nat, s < (K.1 225).toNat → FPT (RDs K (s : Int)) (WRs K (s : Int)) (stV K V s) ∧ (WRs K (s : Int) 1 j → hhK K s = (hbA K b).toNat) := fun {b j} b0 b1 j0 j1 s hs => by
    refine ⟨astep_F (sw s hs), fun q => ?_⟩
    have := WRs_P hG hl hL k225 (show 0 ≤ (s : Int) by omega) (by omega) b0 ⟨j0, j1⟩ q
    show (K.2 59 (s : Int)).toNat = _
    rw [this]
  have hb0 : ∀ b, 0 ≤ hbA K b ∧ hbA K b < M.1 129 := fun b => hbA_r hL hS.1
  have ag0 : AGR (PGs K (M.1 22) g) (XSk r K) (ago (stV K V) (hhK K) (K.1 225).toNat g X0) := fun k j q => by
    rcases q with ⟨q1, q2, q3⟩ | ⟨q1, q2, q3⟩ | ⟨q1, b, b0, b1, b2, b3, b4⟩
    · subst q1; exact a4 j q2 q3
    · subst q1; exact a5 j q2 q3
    · subst q1
      show K.2 71 j = _
      have m22 := gp.2.2.2.2.1
      obtain ⟨n, n1, n2⟩ := h2 b b0 b1
      rw [b2] at n1
      have en := NXD_1 n1 c0 c1 hD hO
      have e71 := n2 (j - 64 * b) (by omega) (by omega)
      rw [show 64 * b + (j - 64 * b) = j by omega, en] at e71
      rw [e71, ago_lo (RR' := fun s => RDs K (s : Int)) (WW := fun s => WRs K (s : Int)) (g0 := (hbA K b).toNat) (fun s hs => pw b0 b1 b3 b4 s hs) (by omega), a7 j (by omega) (by omega)]
  have ag1 : AGR (PGs K (M.1 22) g) (XSk r y.2) (ago (stV K V) (hhK K) (K.1 225).toNat (g + 1) X0) := by
    rw [wx]
    exact sgo_A (RR' := fun s => RDs K (s : Int)) (WW := fun s => WRs K (s : Int)) ph ag0
  have c2 : chk (59 :: pgK) wkA = true := rfl
  have c1' : chk [218, 219, 220, 221, 225] ([] : List Nat) = true := rfl
  have row : ∀ k, W ≤ k → k < E → k ≠ k0 → RWE (k % 128) K y.2 := fun k q0 q1 ne => by
    have rn : k % 128 ≠ r := by omega
    refine ⟨⟨by rw [fr2 wf 91 rfl], by rw [fr2 wf 92 rfl], by rw [fr2 wf 94 rfl], by rw [fr2 wf 95 rfl], by rw [fr2 wf 96 rfl], by rw [fr2 wf 97 rfl], by rw [fr2 wf 98 rfl]⟩, fun j _ _ => by rw [fr2 wf 100 rfl], fun j j0 j1 => w1 _ (rw_o rn j0 (by omega)), fun j j0 j1 => w2 _ (rw_o rn j0 (by omega)), fun j j0 j1 => ⟨w3 _ (rw_o rn j0 (by omega)), by rw [fr2 wf 104 rfl], w5 _ (rw_o rn j0 (by omega))⟩⟩
  refine ⟨⟨fun k q0 q1 => ?_, fun b b0 b1 => ?_⟩, by rw [← er]; exact ⟨fun v _ => by rw [fr2 wf 98 rfl], w1, w2⟩⟩
  · by_cases ek : k = k0
    · unfold Dn
      rw [if_pos ek, ek, ← er, ← eV, ← eX]
      refine ⟨by omega, by rw [fr2 wf 91 rfl]; exact o91, Or.inl ⟨by rw [fr2 wf 91 rfl]; exact k91, Or.inl ⟨?_, ?_⟩⟩⟩
      · rw [show ((g : Int) + 1).toNat = g + 1 by omega]
        have cp : chk pgK wkA = true := rfl
        refine ⟨by rw [fr2 wf 98 rfl]; exact a1, by rw [fr2 wf 92 rfl, fr2 wf 94 rfl]; exact a2, ?_, fun s s0 s1 => ?_, fun s s0 s1 => ?_, ?_, a7, ?_⟩
        · unfold BYr
          rw [fr2 wf 92 rfl, fr2 wf 100 rfl]
          exact a3
        · rw [stV_f wf rfl, hhK_f wf rfl, fr1 wf 225 rfl]
          exact ag1 0 s (Or.inl ⟨rfl, s0, s1⟩)
        · rw [stV_f wf rfl, hhK_f wf rfl, fr1 wf 225 rfl]
          exact ag1 2 s (Or.inr (Or.inl ⟨rfl, s0, s1⟩))
        · unfold PKF at a6 ⊢
          rw [olq_f wf cp, fr1 wf 218 rfl, fr1 wf 225 rfl, fr2 wf 92 rfl, fr2 wf 94 rfl, stV_f wf rfl]
          refine ⟨a6.1, ?_⟩
          rcases a6.2 with q | ⟨q1, q2, q3, q4, q5⟩
          · exact Or.inl q
          · exact Or.inr ⟨q1, q2, q3, q4, fun i i0 i1 => by rw [obt_f wf cp]; exact q5 i i0 i1⟩
        · rw [fr1 wf 225 rfl, stV_f wf rfl]
          exact a8
      · refine ⟨?_, ?_⟩
        · rw [fr2 wf 39 rfl, fr2 wf 72 rfl, fr2 wf 74 rfl, fr2 wf 81 rfl, fr2 wf 84 rfl]
          exact ⟨v39, v72, v74, v81, v84⟩
        · rw [fr2 wf 73 rfl, fr2 wf 74 rfl, fr2 wf 83 rfl]
          exact vq
    · unfold Dn
      rw [if_neg ek]
      obtain ⟨q2, q3⟩ := h1 k q0 q1
      exact ⟨q2, OPp_f q3 wf c1' c2 (row k q0 q1 ek)⟩
  · obtain ⟨n, n1, n2⟩ := h2 b b0 b1
    rw [hbA_f wf rfl rfl]
    have m22 := gp.2.2.2.2.1
    by_cases eh : hbA K b = g
    · rw [eh] at n1
      refine ⟨k0 + 1, by rw [eh]; exact NXD_2 c0 c1 hO hN, fun i i0 i1 => ?_⟩
      have q := ag1 1 (64 * b + i) (Or.inr (Or.inr ⟨rfl, b, b0, b1, eh, by omega, by omega⟩))
      have q : y.2.2 71 (64 * b + i) = ago (stV K V) (hhK K) (K.1 225).toNat (g + 1) X0 1 (64 * b + i) := q
      rw [q, a8 _ (by omega) (by omega)]
      have hi := ago_hi (st := stV K V) (hh := hhK K) (n := (K.1 225).toNat) (x := X0) (k := 1) (j := 64 * b + i) (g0 := (hbA K b).toNat) (RR' := fun s => RDs K (s : Int)) (WW := fun s => WRs K (s : Int)) (fun s hs => pw b0 b1 (by omega) (by omega) s hs) (d := (M.1 129).toNat - (g + 1))
      rw [show (hbA K b).toNat = g by omega, show g + 1 + ((M.1 129).toNat - (g + 1)) = (M.1 129).toNat by omega] at hi
      rw [← hi]
      have pg := ago_pg (K := K) (M := M) (lk := lkK V) (x := X0) hG hl hL k225 acts
      exact congrFun (congrFun pg 1) (64 * b + i)
    · refine ⟨n, NXD_3 n1 hD eh, fun i i0 i1 => ?_⟩
      have q : y.2.2 71 (64 * b + i) = XSk r y.2 1 (64 * b + i) := rfl
      rw [q, wx, sgo_o (RR' := fun s => RDs K (s : Int)) (WW := fun s => WRs K (s : Int)) (fun s hs hg => ⟨(pw b0 b1 (show 64 * b ≤ 64 * b + i by omega) (show 64 * b + i < 64 * b + 64 by omega) s hs).1, fun z => by
        have z1 := (pw b0 b1 (show 64 * b ≤ 64 * b + i by omega) (show 64 * b + i < 64 * b + 64 by omega) s hs).2 z
        have := hb0 b
        omega⟩)]
      exact n2 i i0 i1
end PKA

section PKB
variable {K M : mR} {W E k0 : Int} {D : Int → Int} {HT : Int → Nat → Int → Int} {HW : Int → Int → Int} {HV : Int → mR} {HX : Int → XSt} {HU_nx : Int → Int → Int} {g : Nat}
set_option maxHeartbeats 1000000 in
theorem wrk_j {r q : Int} (hk : K.2 91 r = 0) (ho : K.2 98 r = 2) : RP (kf_op_work_b71 r q K) (fun y => y.2 = K) := by
  unfold kf_op_work_b71
  rw [if_pos hk]
  refine RP_bnd (P := fun e => e = K) (RP_whl (I := fun s : Int × mR => s.2 = K) (fun s hs => ?_) rfl) (fun e he => RP_some he)
  unfold kfb_op_work_b71_71
  rw [hs]
  refine RP_ite (fun _ => RP_some rfl) (fun _ => ?_)
  rw [if_pos ho]
  exact RP_some rfl

set_option maxHeartbeats 1000000 in
theorem arr_1 {K' : mR} (hw : ∀ p, 0 ≤ p → p < 512 → HW (k0 + 1) p = HW k0 p) (m22 : M.1 22 ≤ 8) (c0 : W ≤ k0) (c1 : k0 < E) (hD : D k0 = g) (hO : ∀ k, W ≤ k → k < k0 → (g : Int) < D k) (hN : ∀ k, k0 < k → k < E → D k ≤ (g : Int)) (eb : ∀ b, hbA K' b = hbA K b) (e71 : K'.2 71 = K.2 71) (h : ∀ b, 0 ≤ b → b < M.1 22 → ∃ n, NXD W E D (hbA K b) n ∧ ∀ i, 0 ≤ i → i < 64 → K.2 71 (64 * b + i) = HW n (64 * b + i)) : ∀ b, 0 ≤ b → b < M.1 22 → ∃ n, NXD W E (Dn D k0 g) (hbA K' b) n ∧ ∀ i, 0 ≤ i → i < 64 → K'.2 71 (64 * b + i) = HW n (64 * b + i) := fun b b0 b1 => by
  obtain ⟨n, n1, n2⟩ := h b b0 b1
  rw [eb, e71]
  by_cases eh : hbA K b = g
  · rw [eh] at n1 ⊢
    have en := NXD_1 n1 c0 c1 hD hO
    refine ⟨k0 + 1, NXD_2 c0 c1 hO hN, fun i i0 i1 => ?_⟩
    rw [n2 i i0 i1, en, hw _ (by omega) (by omega)]
  · exact ⟨n, NXD_3 n1 hD eh, n2⟩
set_option maxHeartbeats 1000000 in
theorem stg_pj (hP : RPL K M) (h : PKg K M W E D HT HW HV HX HU_nx) (c0 : W ≤ k0) (c1 : k0 < E) (hD : D k0 = g) (hO : ∀ k, W ≤ k → k < k0 → (g : Int) < D k) (hN : ∀ k, k0 < k → k < E → D k ≤ (g : Int)) (k91 : K.2 91 (k0 % 128) = 0) (k98 : K.2 98 (k0 % 128) = 2) : PKg K M W E (Dn D k0 g) HT HW HV HX HU_nx := by
  obtain ⟨h1, h2⟩ := h
  obtain ⟨d0, o91, oo⟩ := h1 k0 c0 c1
  have rej : PKj K M (k0 % 128) (HW k0) (HW (k0 + 1)) := by
    rcases oo with ⟨-, q | q⟩ | ⟨q, -⟩
    · have := q.1.1
      omega
    · exact q
    · exact absurd k91 q
  refine ⟨fun k q0 q1 => ?_, arr_1 rej.2.2.2 hP.1.2.2.2.2.2.1.1.2.2.2.2.1 c0 c1 hD hO hN (fun _ => rfl) rfl h2⟩
  unfold Dn
  by_cases ek : k = k0
  · rw [if_pos ek, ek]
    exact ⟨by omega, o91, Or.inl ⟨k91, Or.inr rej⟩⟩
  · rw [if_neg ek]
    exact h1 k q0 q1

set_option maxHeartbeats 1000000 in
theorem stg_pe {y : Int × mR} (hP : RPL K M) (h : PKg K M W E D HT HW HV HX HU_nx) (hE : E - W ≤ 64) (c0 : W ≤ k0) (c1 : k0 < E) (hD : D k0 = g) (hO : ∀ k, W ≤ k → k < k0 → (g : Int) < D k) (hN : ∀ k, k0 < k → k < E → D k ≤ (g : Int)) (hGV : ∀ t, 0 ≤ t → t < M.1 26 → GVQ t K M) (hTQ : ∀ t, 0 ≤ t → t < M.1 26 → homeK K t = g → TQ t K (wT M (HT k0))) (hop : OPk K M (k0 % 128)) (k91 : K.2 91 (k0 % 128) ≠ 0) (hy : kf_op_work_b71 (k0 % 128) (g : Int) K = some y) : PKg y.2 M W E (Dn D k0 g) HT HW HV HX HU_nx ∧ RXO (k0 % 128) K y.2 := by
  obtain ⟨hR, hl, hL, hU, hS, h26, hTB⟩ := hP
  obtain ⟨-, -, -, -, hEM, hG, k225⟩ := id hR
  obtain ⟨gp, hA, h25, h115, h27, hSt⟩ := id hG
  have m22 := gp.2.2.2.2.1
  obtain ⟨h1, h2⟩ := h
  obtain ⟨d0, o91, oo⟩ := h1 k0 c0 c1
  have pn : PKn K M (k0 % 128) (D k0) (HT k0) (HW k0) (HW (k0 + 1)) := by
    rcases oo with ⟨q, -⟩ | ⟨-, q⟩
    · exact absurd q k91
    · exact q
  obtain ⟨⟨p1, p2, p3⟩, p4, p5⟩ := pn
  rw [hD] at p4 p5
  rcases wrk_e (K := K) (r := k0 % 128) (g := (g : Int)) k91 (by omega) (by omega) y hy with ⟨w1, w2⟩ | ⟨w1, w, hs, hK⟩
  · rw [w2]
    refine ⟨⟨fun k q0 q1 => ?_, arr_1 p3 m22 c0 c1 hD hO hN (fun _ => rfl) rfl h2⟩, fun _ _ => rfl, fun _ _ => rfl, fun _ _ => rfl⟩
    unfold Dn
    by_cases ek : k = k0
    · rw [if_pos ek, ek]
      exact ⟨by omega, o91, Or.inr ⟨k91, ⟨p1, p2, p3⟩, fun q => p4 (by omega), fun q => p5 (by omega)⟩⟩
    · rw [if_neg ek]
      exact h1 k q0 q1
  ·
    obtain ⟨z0, z1⟩ := hop.2 k91
    obtain ⟨m0, o, m, s1, s2, s3, s4, s5⟩ := p5 (by omega)
    have g0 := hGV _ z0 z1
    have n2 := hTQ _ z0 z1 w1.symm
    have gm : GVQ (K.2 95 (k0 % 128)) K m0 := GVQ_g g0 s2
    have q0 : TQ (K.2 95 (k0 % 128)) K m0 := by
      refine TQ_f n2 rfl (fun _ _ _ => ⟨rfl, rfl, rfl, rfl, rfl⟩) (s1 139 (by decide) (by decide) _ z0) (fun j j0 _ => ⟨s1 140 (by decide) (by decide) j (by omega), s1 141 (by decide) (by decide) j (by omega)⟩) (fun j j0 _ => ⟨s1 142 (by decide) (by decide) j (by omega), s1 143 (by decide) (by decide) j (by omega), s1 144 (by decide) (by decide) j (by omega)⟩) g0.2.1.1.2.2.1 (GVQ_4 g0) s2.2.1.1 (fun i i0 => (s2.2.2.2.2 i i0).1) (fun i i0 => (s2.2.2.2.2 i i0).2) s2.2.1.2.2.2.1 s2.2.1.2.2.2.2.2.2.2 s2.1
    have k153 : K.2 91 (k0 % 128) = m0.2 153 0 := s3.1
    have kr := hop.1
    obtain ⟨v1, v2, v3, v4, v5, v6⟩ := serve_q gm q0 s3 (by omega) w (o, m) hs (by rw [← k153]; exact s4)
    have v1 : w.1 = if o = 0 then 1 else 0 := v1
    have fK : fr [] (98 :: svF) K y.2 := by rw [hK]; exact fr_m (fr_s v3 fr_0 rfl rfl) rfl rfl
    have y98 : y.2.2 98 = upI (w.2.2 98) (k0 % 128) w.1 := by rw [hK]; rfl
    have w98 : w.2.2 98 = K.2 98 := fr2 v3 98 rfl
    have y103 : y.2.2 103 = w.2.2 103 := by rw [hK]; rfl
    have y104 : y.2.2 104 = w.2.2 104 := by rw [hK]; rfl
    refine ⟨⟨fun k q0 q1 => ?_, arr_1 p3 m22 c0 c1 hD hO hN (fun b => hbA_f fK rfl rfl b) (fr2 fK 71 rfl) h2⟩, fun v hv => by rw [y98, upI_n hv, w98], fun j _ => by rw [fr2 fK 101 rfl], fun j _ => by rw [fr2 fK 102 rfl]⟩
    unfold Dn
    by_cases ek : k = k0
    · rw [if_pos ek, ek]
      have hm : homeK y.2 (y.2.2 95 (k0 % 128)) = homeK K (K.2 95 (k0 % 128)) := by
        rw [fr2 fK 95 rfl]
        exact home_c (fr1 fK 225 rfl) (fr2 fK 55 rfl) (fr2 fK 59 rfl)
      refine ⟨by omega, by rw [fr2 fK 91 rfl]; exact o91, Or.inr ⟨by rw [fr2 fK 91 rfl]; exact k91, ⟨p1, p2, p3⟩, fun _ => ?_, fun q => ?_⟩⟩
      · rw [y98, upI_s, v1]
        exact s5.symm
      · rw [hm] at q
        omega
    · rw [if_neg ek]
      obtain ⟨q2, q3⟩ := h1 k q0 q1
      have rn : k % 128 ≠ k0 % 128 := by omega
      refine ⟨q2, OPp_f q3 fK rfl rfl ⟨⟨by rw [fr2 fK 91 rfl], by rw [fr2 fK 92 rfl], by rw [fr2 fK 94 rfl], by rw [fr2 fK 95 rfl], by rw [fr2 fK 96 rfl], by rw [fr2 fK 97 rfl], by rw [y98, upI_n rn, w98]⟩, fun j _ _ => by rw [fr2 fK 100 rfl], fun j _ _ => by rw [fr2 fK 101 rfl], fun j _ _ => by rw [fr2 fK 102 rfl], fun j j0 j1 => ?_⟩⟩
      have := v5.2.2 _ (rw_o rn j0 (by omega))
      rw [y103, y104, fr2 fK 105 rfl]
      exact ⟨this.1, this.2, rfl⟩

def Dg (C : Int) (a : Int → Int) (g : Int) : Int → Int := fun k => if C - a (k % 128) < g then C - a (k % 128) + 1 else C - a (k % 128)
set_option maxHeartbeats 1000000 in
theorem PKg_D {D' : Int → Int} (h : PKg K M W E D HT HW HV HX HU_nx) (e : ∀ k, W ≤ k → k < E → D' k = D k) : PKg K M W E D' HT HW HV HX HU_nx := by
  obtain ⟨h1, h2⟩ := h
  refine ⟨fun k q0 q1 => by rw [e k q0 q1]; exact h1 k q0 q1, fun b b0 b1 => ?_⟩
  obtain ⟨n, ⟨n0, n1, n2⟩, n3⟩ := h2 b b0 b1
  exact ⟨n, ⟨n0, fun k q0 q1 => by rw [e k q0 (by omega)]; exact n1 k q0 q1, fun k q0 q1 => by rw [e k (by omega) q1]; exact n2 k q0 q1⟩, n3⟩
set_option maxHeartbeats 1000000 in
theorem RPL_k {F A : List Nat} {K' : mR} (h : RPL K M) (f : fr F A K K') (c1 : chk [218, 219, 220, 221, 225] F = true) (c2 : chk (59 :: pgK) A = true) : RPL K' M := by
  obtain ⟨h1, h2, h3, h4, h5, h6, h7⟩ := h
  have fM : fr ([] : List Nat) ([] : List Nat) M M := fr_0
  refine ⟨RPP_k h1 f fM c1 (chk_s c2 rfl) rfl rfl, ?_, ?_, ?_, h5, h6, fun t t0 t1 => TBp_k (h7 t t0 t1) f fM c1 (chk_s c2 rfl) rfl rfl⟩
  · unfold LSm
    rw [fr2 f 73 (chk_1 c2 (by decide)), fr2 f 83 (chk_1 c2 (by decide))]
    exact h2
  · unfold LYS
    rw [fr1 f 225 (chk_1 c1 (by decide)), fr2 f 59 (chk_1 c2 (by decide))]
    refine ⟨h3.1, fun s s' s0 s1 s2 => ?_⟩
    obtain ⟨a1, a2, a3, a4⟩ := h3.2 s s' s0 s1 s2
    have cs : chk stF A = true := chk_s c2 rfl
    refine ⟨fun x q w => a1 x ((WRs_f f cs).mp q) (w.imp (RDs_f f cs).mp (WRs_f f cs).mp), fun x q w => a2 x ((RDs_f f cs).mp q) ((WRs_f f cs).mp w), fun q => a3 (by rw [fr2 f 53 (chk_1 c2 (by decide))] at q; exact q), fun j q w => a4 j (q.imp (RDs_f f cs).mp (WRs_f f cs).mp) (w.imp (RDs_f f cs).mp (WRs_f f cs).mp)⟩
  · unfold UQT
    rw [fr1 f 225 (chk_1 c1 (by decide)), fr2 f 55 (chk_1 c2 (by decide))]
    exact h4

def RXR (r : Int) (K K' : mR) : Prop := K'.2 98 r = K.2 98 r ∧ (∀ j, 0 ≤ j → j ≤ 220 → K'.2 101 (65536 * r + j) = K.2 101 (65536 * r + j)) ∧ ∀ j, 0 ≤ j → j < 48 → K'.2 102 (65536 * r + j) = K.2 102 (65536 * r + j)
set_option maxHeartbeats 1000000 in
theorem RXR_s {r v : Int} {K K1 K2 : mR} (h : RXR r K K1) (g : RXO v K1 K2) (ne : r ≠ v) : RXR r K K2 := ⟨(g.1 r ne).trans h.1, fun j j0 j1 => (g.2.1 _ (rw_o ne j0 (by omega))).trans (h.2.1 j j0 j1), fun j j0 j1 => (g.2.2 _ (rw_o ne j0 (by omega))).trans (h.2.2 j j0 j1)⟩
variable {C S : Int} {a : Int → Int}

set_option maxHeartbeats 1000000 in
theorem lop_p {hi : Int} (hP : RPL K M) (h225 : 0 ≤ K.1 225 ∧ K.1 225 ≤ 1000) (eS : S = M.1 129) (hGV : ∀ t, 0 ≤ t → t < M.1 26 → GVQ t K M) (hT : TMv S (C + 1) W E (skp K) a) (hhi : E ≤ hi ∧ hi - W ≤ 64) (hq : PQg K M W E a (fun t => xgD K C 0 t) HT) (h : PKg K M W E (Dg C a 0) HT HW HV HX HU_nx) : RP (whl (kfb_pi_cycle_133 (S - 1)) (0, K)) (fun e => (fr [] kA_op_work_b71 K e ∧ PQg e M W E a (fun t => xgD K C S t) HT ∧ rwK E hi K e) ∧ PKg e M W E (Dg C a S) HT HW HV HX HU_nx ∧ ∀ k, W - 64 ≤ k → k < W → RXR (k % 128) K e) := by
  have hS := hP.2.2.2.2.1
  have h26 := hP.2.2.2.2.2.1
  obtain ⟨T1, T2, T3, T4⟩ := hT
  refine RP_whl (I := fun s : Int × mR => ((0 ≤ s.1 ∧ s.1 ≤ S) ∧ fr [] kA_op_work_b71 K s.2 ∧ PQg s.2 M W E a (fun t => xgD K C s.1 t) HT ∧ rwK E hi K s.2) ∧ PKg s.2 M W E (Dg C a s.1) HT HW HV HX HU_nx ∧ ∀ k, W - 64 ≤ k → k < W → RXR (k % 128) K s.2) (fun s hs => ?_) ⟨⟨⟨Int.le_refl _, show 0 ≤ S by omega⟩, fr_0, hq, fun _ _ _ _ _ _ => ⟨rfl, rfl, rfl⟩⟩, h, fun _ _ _ => ⟨rfl, fun _ _ _ => rfl, fun _ _ _ => rfl⟩⟩
  obtain ⟨⟨⟨a0, a1⟩, a2, a3, a4⟩, a5, a6⟩ := hs
  have hPs : RPL s.2 M := RPL_k hP a2 rfl rfl
  have hh : ∀ t, homeK s.2 t = homeK K t := fun t => home_c (fr1 a2 225 rfl) (fr2 a2 55 rfl) (fr2 a2 59 rfl)
  have sk : kopi (s.2.2 106) (s.2.2 107) s.1 = skp K s.1 := by
    unfold skp
    rw [fr2 a2 106 rfl, fr2 a2 107 rfl]
  unfold kfb_pi_cycle_133
  rw [sk]
  refine RP_ite (fun q => RP_some ?_) (fun q => ?_)
  · have e : s.1 = S := by omega
    rw [e] at a3 a5
    exact ⟨⟨a2, a3, a4⟩, a5, a6⟩
  · have c1 : cut (s.1 + 1) = s.1 + 1 := cut_i (by omega) (by omega)
    refine RP_ite (fun z => ?_) (fun z => ?_)
    · unfold kfl_pi_cycle_168
      rw [c1]
      have nobody : ∀ k, W ≤ k → k < E → C - a (k % 128) ≠ s.1 := fun k k0 k1 ek => by
        have w := (T2 k k0 k1).2.2
        rw [show C + 1 - 1 - a (k % 128) = s.1 by omega] at w
        omega
      refine RP_some ⟨⟨⟨show 0 ≤ s.1 + 1 by omega, show s.1 + 1 ≤ S by omega⟩, a2, ?_, a4⟩, PKg_D a5 (fun k k0 k1 => ?_), a6⟩
      · refine stg_0 a3 (fun t => ?_)
        show xgD K C (s.1 + 1) t = xgD K C s.1 t ∨ (xgD K C (s.1 + 1) t = xgD K C s.1 t + 1 ∧ _)
        unfold xgD
        by_cases e1 : homeK K t < s.1
        · rw [if_pos (show homeK K t < s.1 + 1 by omega), if_pos e1]
          exact Or.inl rfl
        · rw [if_neg e1]
          by_cases e2 : homeK K t = s.1
          · rw [if_pos (show homeK K t < s.1 + 1 by omega)]
            refine Or.inr ⟨by omega, fun k k0 k1 ek => ?_⟩
            exact nobody k k0 k1 (by omega)
          · rw [if_neg (show ¬ homeK K t < s.1 + 1 by omega)]
            exact Or.inl rfl
      · show Dg C a (s.1 + 1) k = Dg C a s.1 k
        have := nobody k k0 k1
        unfold Dg
        by_cases w : C - a (k % 128) < s.1
        · rw [if_pos w, if_pos (by omega)]
        · rw [if_neg w, if_neg (by omega)]
    · rcases T3 s.1 a0 (by omega) with w | ⟨k0, k1, k2, k3⟩
      · exact absurd w z
      have er : skp K s.1 = k0 % 128 := by
        have w := (T2 k0 k1 k2).2.2
        rw [show C + 1 - 1 - a (k0 % 128) = s.1 by omega] at w
        exact w
      rw [er]
      have hG' : ∀ t, 0 ≤ t → t < M.1 26 → GVQ t s.2 M := fun t t0 t1 => GVQ_f (hGV t t0 t1) a2 (fr_0 (u := []) (v := []) (x := M)) rfl rfl rfl
      have hx : ∀ t, (homeK s.2 t ≠ s.1 ∧ xgD K C (s.1 + 1) t = xgD K C s.1 t) ∨ (homeK s.2 t = s.1 ∧ xgD K C s.1 t = a (k0 % 128) ∧ xgD K C (s.1 + 1) t = xgD K C s.1 t + 1) := fun t => by
        rw [hh]
        unfold xgD
        by_cases e1 : homeK K t < s.1
        · rw [if_pos (show homeK K t < s.1 + 1 by omega), if_pos e1]
          exact Or.inl ⟨by omega, rfl⟩
        · rw [if_neg e1]
          by_cases e2 : homeK K t = s.1
          · rw [if_pos (show homeK K t < s.1 + 1 by omega)]
            exact Or.inr ⟨e2, by omega, by omega⟩
          · rw [if_neg (show ¬ homeK K t < s.1 + 1 by omega)]
            exact Or.inl ⟨e2, rfl⟩
     
      obtain ⟨gn, egn⟩ : ∃ gn : Nat, (gn : Int) = s.1 := ⟨s.1.toNat, by omega⟩
      have hD : Dg C a s.1 k0 = (gn : Int) := by
        unfold Dg
        rw [if_neg (by omega)]
        omega
      have hO : ∀ k, W ≤ k → k < k0 → (gn : Int) < Dg C a s.1 k := fun k q0 q1 => by
        have := T4 k k0 q0 q1 k2
        unfold Dg
        by_cases w : C - a (k % 128) < s.1
        · rw [if_pos w]; omega
        · rw [if_neg w]; omega
      have hN : ∀ k, k0 < k → k < E → Dg C a s.1 k ≤ (gn : Int) := fun k q0 q1 => by
        have := T4 k0 k k1 q0 q1
        unfold Dg
        by_cases w : C - a (k % 128) < s.1
        · rw [if_pos w]; omega
        · rw [if_neg w]; omega
      have tq : ∀ t, 0 ≤ t → t < M.1 26 → homeK s.2 t = (gn : Int) → TQ t s.2 (wT M (HT k0)) := fun t t0 t1 eh => by
        obtain ⟨n, n1, n2⟩ := a3.2.2 t t0 t1
        rcases hx t with ⟨w, -⟩ | ⟨-, w, -⟩
        · exact absurd (by omega) w
        · have n1 : NX W E a (xgD K C s.1 t) n := n1
          have en := (NX_o n1 T4 k1 k2 w.symm).1
          rw [en] at n2
          exact n2
      have tqa : ∀ t, 0 ≤ t → t < M.1 26 → ∃ T, TQ1 t s.2 (wT M T) := fun t t0 t1 => by
        obtain ⟨n, -, n2⟩ := a3.2.2 t t0 t1
        exact ⟨_, TQ_1 n2⟩
      have dn : ∀ k, W ≤ k → k < E → Dg C a (s.1 + 1) k = Dn (Dg C a s.1) k0 gn k := fun k q0 q1 => by
        unfold Dn
        by_cases ek : k = k0
        · rw [if_pos ek, ek]
          unfold Dg
          rw [if_pos (by omega)]
          omega
        · rw [if_neg ek]
          have ne : C - a (k % 128) ≠ s.1 := fun w => by
            rcases Int.lt_trichotomy k k0 with p | p | p
            · have := T4 k k0 q0 p k2; omega
            · exact ek p
            · have := T4 k0 k k1 p q1; omega
          unfold Dg
          by_cases w : C - a (k % 128) < s.1
          · rw [if_pos w, if_pos (by omega)]
          · rw [if_neg w, if_neg (by omega)]
      have fin : ∀ K' : mR, fr [] kA_op_work_b71 s.2 K' → ((s.2.2 91 (k0 % 128) = 0 ∧ fr [] wkL s.2 K' ∧ rwL (k0 % 128) s.2 K') ∨ (s.2.2 91 (k0 % 128) ≠ 0 ∧ ((s.1 ≠ homeK s.2 (s.2.2 95 (k0 % 128)) ∧ K' = s.2) ∨ (s.1 = homeK s.2 (s.2.2 95 (k0 % 128)) ∧ ∃ w, kf_tb_serve (s.2.2 95 (k0 % 128)) (k0 % 128) s.2 = some w ∧ K' = mO w.2 [] [(98, upI (w.2.2 98) (k0 % 128) w.1)])))) → (PKg K' M W E (Dn (Dg C a s.1) k0 gn) HT HW HV HX HU_nx ∧ RXO (k0 % 128) s.2 K') → RP (kfl_pi_cycle_168 (S - 1) s.1 K') (sel (fun s : Int × mR => ((0 ≤ s.1 ∧ s.1 ≤ S) ∧ fr [] kA_op_work_b71 K s.2 ∧ PQg s.2 M W E a (fun t => xgD K C s.1 t) HT ∧ rwK E hi K s.2) ∧ PKg s.2 M W E (Dg C a s.1) HT HW HV HX HU_nx ∧ ∀ k, W - 64 ≤ k → k < W → RXR (k % 128) K s.2) (fun e => (fr [] kA_op_work_b71 K e ∧ PQg e M W E a (fun t => xgD K C S t) HT ∧ rwK E hi K e) ∧ PKg e M W E (Dg C a S) HT HW HV HX HU_nx ∧ ∀ k, W - 64 ≤ k → k < W → RXR (k % 128) K e)) := fun K' hp hw hk => by
        obtain ⟨r1, r2⟩ := stg_1 (g := s.1) (k0 := k0) (x' := fun t => xgD K C (s.1 + 1) t) a3 hG' h26 T4 (by omega) k1 k2 hx hp hw
        unfold kfl_pi_cycle_168
        rw [c1]
        exact RP_some ⟨⟨⟨show 0 ≤ s.1 + 1 by omega, show s.1 + 1 ≤ S by omega⟩, fr_s hp a2 (by decide +kernel) (by decide +kernel), r1, rwK_s a4 r2 (by omega) k2⟩, PKg_D hk.1 dn, fun k q0 q1 => RXR_s (a6 k q0 q1) hk.2 (by omega)⟩
      by_cases hk : s.2.2 91 (k0 % 128) = 0
      · refine RP_bnd (RP_and (RP_se _) (RP_and (u_kf_op_work_b71 _ _ _) (wrk_q (K := s.2) (r := k0 % 128) (g := s.1) hk (by rw [fr1 a2 225 rfl]; exact h225.2) (H72_f (H72_P hP) a2 rfl rfl)))) (fun y hy => fin y.2 hy.2.1 (Or.inl ⟨hk, hy.2.2.1, hy.2.2.2⟩) ?_)
        by_cases hj : s.2.2 98 (k0 % 128) = 2
        · rw [wrk_j hk hj y hy.1]
          exact ⟨stg_pj hPs a5 k1 k2 hD hO hN hk hj, fun _ _ => rfl, fun _ _ => rfl, fun _ _ => rfl⟩
        · exact stg_pa hPs a5 (by omega) k1 k2 hD hO hN (by omega) (fun t t0 t1 e => TQ_1 (tq t t0 t1 e)) tqa hk hj (by rw [egn]; exact hy.1)
      · refine RP_bnd (RP_and (RP_se _) (RP_and (u_kf_op_work_b71 _ _ _) (wrk_e (K := s.2) (r := k0 % 128) (g := s.1) hk (by rw [fr1 a2 225 rfl]; exact h225.1) (by rw [fr1 a2 225 rfl]; exact h225.2)))) (fun y hy => fin y.2 hy.2.1 (Or.inr ⟨hk, hy.2.2⟩) ?_)
        exact stg_pe hPs a5 (by omega) k1 k2 hD hO hN hG' tq (a3.1 k0 k1 k2).1 hk (by rw [egn]; exact hy.1)
end PKB


def OUTr (K M : mR) (r S : Int) : Prop := (K.2 91 r = M.2 163 r ∧ K.2 98 r = M.2 164 r ∧ K.2 99 r = M.2 167 r + S) ∧ ((K.2 91 r = 0 ∧ K.2 98 r = 0 ∧ cut (K.2 101 (65536 * r + 206)) = M.2 165 r ∧ K.2 92 r = M.2 166 r ∧ (0 ≤ K.2 92 r ∧ K.2 92 r ≤ 896) ∧ ∀ i, 0 ≤ i → i < K.2 92 r → K.2 100 (65536 * r + i) = sbt (M.2 168 (896 * r + i)) ∧ 0 ≤ M.2 168 (896 * r + i) ∧ M.2 168 (896 * r + i) ≤ 255) ∨ (¬ (K.2 91 r = 0 ∧ K.2 98 r = 0) ∧ M.2 165 r = -1 ∧ M.2 166 r = -1)) ∧ (K.2 91 r = 0 → ∀ s, 0 ≤ s → s < 48 → K.2 102 (65536 * r + s) = M.2 169 (48 * r + s))
section PKC
variable {K M : mR} {W E C S : Int} {D : Int → Int} {HT : Int → Nat → Int → Int} {HW : Int → Int → Int} {HV : Int → mR} {HX : Int → XSt} {HU_nx : Int → Int → Int}

set_option maxHeartbeats 1000000 in
theorem acts_V {V : mR} {T : Nat → Int → Int} (hG : GTp K M) (k225 : K.1 225 = M.1 27) (vq : VPR K M V T) : ∀ s, 0 ≤ s → s < K.1 225 → K.2 52 s = 2 → ∀ ks, ACTS K s (lkK V (K.2 55 s) ks).1 := fun s s0 s1 k2 ks => by
  obtain ⟨-, -, -, -, -, hSt⟩ := hG
  obtain ⟨⟨e52, e53, e54, e55⟩, -, hst⟩ := hSt s s0 (by omega)
  have hT : TBp (M.2 63 s) K M := by
    rcases hst with ⟨q, -⟩ | ⟨q, -⟩ | ⟨-, q⟩
    · omega
    · omega
    · exact q
  rw [← e55] at hT
  rcases (vq.2 _ hT.1.1 hT.1.2.2).2 ks with q | ⟨i, i0, i1, q⟩
  · exact Or.inl q
  · exact Or.inr ⟨i, i0, i1, q⟩
set_option maxHeartbeats 1000000 in
theorem out_l {r now : Int} {w : Int × mR} {X0 : XSt} {V : mR} {u wd wd' : Int → Int} {T : Nat → Int → Int} (hP : RPL K M) (h : OPp K M r (M.1 129) X0 V u wd wd' T) (hom : K.2 91 r ≠ 0 → homeK K (K.2 95 r) < M.1 129) (hc : M.2 167 r + M.1 129 = now) (hy : kf_op_leave r now K = some w) : OUTr w.2 M r (M.1 129) ∧ fr [] [92, 98, 99, 100] K w.2 ∧ (∀ v, v ≠ r → w.2.2 92 v = K.2 92 v ∧ w.2.2 98 v = K.2 98 v ∧ w.2.2 99 v = K.2 99 v) ∧ rowC 100 r K w.2 := by
  obtain ⟨hR, hl, hL, hU, hS, h26, hTB⟩ := hP
  obtain ⟨-, -, -, -, hEM, hG, k225⟩ := id hR
  obtain ⟨gp, hA, h25, h115, h27, hSt⟩ := id hG
  obtain ⟨o91, oo⟩ := h
 
  have stay : ¬ (K.2 91 r = 0 ∧ K.2 98 r = 0) → K.2 98 r = M.2 164 r → M.2 165 r = -1 → M.2 166 r = -1 → (K.2 91 r = 0 → ∀ s, 0 ≤ s → s < 48 → K.2 102 (65536 * r + s) = M.2 169 (48 * r + s)) → RP (kf_op_leave r now K) (fun w => OUTr w.2 M r (M.1 129) ∧ fr [] [92, 98, 99, 100] K w.2 ∧ (∀ v, v ≠ r → w.2.2 92 v = K.2 92 v ∧ w.2.2 98 v = K.2 98 v ∧ w.2.2 99 v = K.2 99 v) ∧ rowC 100 r K w.2) := fun n1 n2 n3 n4 n5 => by
    have fin : ∀ K1 : mR, K1 = mO K [] [(99, upI (K.2 99) r now)] → RP (kfl_op_leave_37 r K1) (fun w => OUTr w.2 M r (M.1 129) ∧ fr [] [92, 98, 99, 100] K w.2 ∧ (∀ v, v ≠ r → w.2.2 92 v = K.2 92 v ∧ w.2.2 98 v = K.2 98 v ∧ w.2.2 99 v = K.2 99 v) ∧ rowC 100 r K w.2) := fun K1 e => by
      have f1 : fr [] [99] K K1 := by rw [e]; exact fr_m fr_0 rfl rfl
      have a99 : K1.2 99 = upI (K.2 99) r now := by rw [e]; rfl
      have x : OUTr K1 M r (M.1 129) ∧ fr [] [92, 98, 99, 100] K K1 ∧ (∀ v, v ≠ r → K1.2 92 v = K.2 92 v ∧ K1.2 98 v = K.2 98 v ∧ K1.2 99 v = K.2 99 v) ∧ rowC 100 r K K1 := by
        refine ⟨⟨⟨by rw [fr2 f1 91 rfl]; exact o91, by rw [fr2 f1 98 rfl]; exact n2, by rw [a99, upI_s]; exact hc.symm⟩, Or.inr ⟨by rw [fr2 f1 91 rfl, fr2 f1 98 rfl]; exact n1, n3, n4⟩, by rw [fr2 f1 91 rfl, fr2 f1 102 rfl]; exact n5⟩, fr_s f1 fr_0 rfl rfl, fun v hv => by rw [fr2 f1 92 rfl, fr2 f1 98 rfl, a99, upI_n hv]; exact ⟨rfl, rfl, rfl⟩, fun j _ => by rw [fr2 f1 100 rfl]⟩
      unfold kfl_op_leave_37 kf_op_isSent kfl_op_isSent_19
      rw [fr2 f1 91 rfl, fr2 f1 98 rfl]
      by_cases q : K.2 91 r = 0
      · rw [if_pos q, if_neg (fun z => n1 ⟨q, z⟩), bnd_some, if_pos rfl]
        exact RP_some x
      · rw [if_neg q, bnd_some, if_pos rfl]
        exact RP_some x
    unfold kf_op_leave
    refine RP_ite (fun q1 => RP_ite (fun q2 => absurd ⟨q1, q2⟩ n1) (fun q2 => fin _ rfl)) (fun q1 => fin _ rfl)
  rcases oo with ⟨k91, ⟨pa, vq⟩ | pj⟩ | ⟨k91, ⟨p1, p2, p3⟩, p4, p5⟩
  · obtain ⟨a1, ⟨x0, x1, l1⟩, a3, a4, a5, a6, a7, a8⟩ := pa
    have pg : ago (stV K V) (hhK K) (K.1 225).toNat (M.1 129).toNat X0 = pgo (stV K V) (K.1 225).toNat X0 := ago_pg (K := K) (M := M) (lk := lkK V) (x := X0) hG hl hL k225 (acts_V hG k225 vq)
    rw [pg] at a4 a5
    obtain ⟨XF, eXF⟩ : ∃ XF, XF = pgo (stV K V) (K.1 225).toNat X0 := ⟨_, rfl⟩
    rw [← eXF] at a4 a5 a6
    obtain ⟨q0, q⟩ := a6
    obtain ⟨⟨lf, l99, lv, lr⟩, lc⟩ := leave_k (now := now) (u := u) hEM a3 x0 x1 l1 w hy
    obtain ⟨k218, E0, E1⟩ := hEM.2.1
    have ews : wis K (fun s => K.2 101 (65536 * r + s)) (K.1 218).toNat = wis K (XF 0) (K.1 218).toNat := wis_c hEM (fun s s0 s1 => a4 s s0 (by omega)) _ (by omega)
    have eo : olq K (fun s => K.2 101 (65536 * r + s)) (K.1 218).toNat (K.2 92 r) (K.2 94 r) = olq K (XF 0) (K.1 218).toNat (K.2 92 r) (K.2 94 r) := by
      unfold olq
      rw [ews]
    have s220 := a4 220 (by decide) (by decide)
    have dd : K.2 91 r = 0 → ∀ s, 0 ≤ s → s < 48 → w.2.2 102 (65536 * r + s) = M.2 169 (48 * r + s) := fun _ s s0 s1 => by
      rw [fr2 lf 102 rfl, a5 s s0 s1, q0 s s0 s1]
    have c99 : w.2.2 99 r = M.2 167 r + M.1 129 := by rw [l99, upI_s]; exact hc.symm
    have rest : fr [] [92, 98, 99, 100] K w.2 ∧ (∀ v, v ≠ r → w.2.2 92 v = K.2 92 v ∧ w.2.2 98 v = K.2 98 v ∧ w.2.2 99 v = K.2 99 v) ∧ rowC 100 r K w.2 := ⟨lf, fun v hv => ⟨(lv v hv).1, (lv v hv).2, by rw [l99, upI_n hv]⟩, lr⟩
    have k91' : w.2.2 91 r = K.2 91 r := by rw [fr2 lf 91 rfl]
    rcases lc with ⟨n, -⟩ | ⟨-, n, y98⟩ | ⟨-, n, y98, y92, y100⟩
    · exact absurd ⟨k91, a1⟩ n
    · rcases q with ⟨-, m164, m165, m166⟩ | ⟨z, -⟩
      · exact ⟨⟨⟨by rw [k91']; exact o91, by rw [y98, m164], c99⟩, Or.inr ⟨fun z => by rw [y98] at z; exact absurd z.2 (by decide), m165, m166⟩, by rw [k91']; exact dd⟩, rest⟩
      · rw [s220] at n
        exact absurd z n
    · rcases q with ⟨z, -⟩ | ⟨-, m164, m165, m166, m168⟩
      · rw [s220] at n
        exact absurd n z
      · rw [eo] at y92 y100
        obtain ⟨ob0, ob1⟩ := olq_b hEM (XF 0) x0 x1 l1
        refine ⟨⟨⟨by rw [k91']; exact o91, by rw [y98, m164], c99⟩, Or.inl ⟨by rw [k91']; exact k91, y98, by rw [fr2 lf 101 rfl, a4 206 (by decide) (by decide), m165], by rw [y92, m166], by rw [y92]; exact ⟨ob0, ob1⟩, fun i i0 i1 => ?_⟩, by rw [k91']; exact dd⟩, rest⟩
        rw [y92] at i1
        have eb : obt K (fun s => K.2 101 (65536 * r + s)) u (K.1 218).toNat (K.2 94 r) i = obt K (XF 0) u (K.1 218).toNat (K.2 94 r) i := by
          unfold obt
          rw [ews]
        rw [y100 i i0 i1, eb, m168 i i0 i1]
        refine ⟨rfl, ?_⟩
        obtain ⟨b1, b2, b3, b4, b5⟩ := wis_r hEM (XF 0) (K.1 218).toNat (by omega)
        unfold olq at i1
        unfold obt
        by_cases z : 8 * i < (wis K (XF 0) (K.1 218).toNat).2
        · rw [if_pos z]
          exact b1 i i0
        · rw [if_neg z]
          exact (a3 _ (by omega) (by omega)).2
  · obtain ⟨a1, ⟨b1, b2, b3⟩, a3, -⟩ := pj
    exact stay (fun z => by omega) (by omega) b2 b3 (fun _ s s0 s1 => by rw [(a3 s s0 s1).1, (a3 s s0 s1).2]) w hy
  · exact stay (fun z => k91 z.1) (p4 (hom k91)) p1 p2 (fun z => absurd z k91) w hy
end PKC
