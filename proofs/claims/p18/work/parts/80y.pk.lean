
section PKH
variable {K M : mR}
set_option maxHeartbeats 1000000 in
theorem run_p {n b b' : Int} (hP : RPL K M) (h225 : 0 ≤ K.1 225 ∧ K.1 225 ≤ 1000) (n0 : 0 ≤ n) (n1 : n ≤ 100) (hc : 0 ≤ M.1 152 ∧ M.1 152 ≤ 500000) (hm : M.1 148 ≤ 500000) (hrow : ∀ r, 0 ≤ r → r < 128 → r < K.1 232 → 1 ≤ K.2 107 r) (h6 : ∀ g, K.2 106 g < 128) (hG : ∀ t, 0 ≤ t → t < M.1 26 → GVQ t K M) (hH : ∀ t, 0 ≤ t → t < M.1 26 → 0 ≤ homeK K t ∧ homeK K t < M.1 129) (L1 : M.1 149 ≤ 40) (h : RTM K M) (hq : JR K M) : RR (whl (kfb_pw_run_49 n b) (0, K)) (whl (rfb_run_46 n b') (0, M)) (fun e f => (RTM e f ∧ (f.1 128 = M.1 128 ∧ f.1 129 = M.1 129) ∧ ∀ g, e.2 106 g < 128) ∧ JR e f) := by
  obtain ⟨hS, hS2⟩ := hP.2.2.2.2.1
  have h26 := hP.2.2.2.2.2.1
  refine RR_whl (I := fun s t => RTI K M n s t ∧ JR s.2 t.2 ∧ fr pgF rA_doFirst M t.2 ∧ t.2.1 149 ≤ 40) (fun s t hs => ?_) ⟨⟨rfl, ⟨Int.le_refl _, n0⟩, fr_0, h, ⟨hc.1, by show M.1 152 ≤ M.1 152 + 0; omega⟩, rfl, rfl, rfl, h6⟩, hq, fr_0, L1⟩
  obtain ⟨hs, hQ, fM, hL⟩ := hs
  refine RR_w (run_b (b := b) (b' := b') n1 hS hS2 hc hm hrow hs) (fun u v huv => ?_)
  obtain ⟨-, -, fK, hR, ⟨c0, c1⟩, m48, m29, m28, h6s⟩ := id hs
  rcases huv with ⟨-, rfl, rfl⟩ | ⟨s1, y, M', m, W', rfl, rfl, hy, hI, hw, hmm, eW⟩
  · exact ⟨⟨hR, ⟨m28, m29⟩, h6s⟩, hQ⟩
  · obtain ⟨r2, r3, r4, r5, r6, r7, r8, hT⟩ := id hR
    obtain ⟨-, -, -, hR', ⟨c0', c1'⟩, -, m29', -, -⟩ := id hI
    have hT' := hR'.2.2.2.2.2.2.2
    have e26 : t.2.1 26 = M.1 26 := fr1 fM 26 (by decide +kernel)
    have hh : ∀ t', homeK s.2 t' = homeK K t' := fun t' => home_c (fr1 fK 225 rfl) (fr2 fK 55 rfl) (fr2 fK 59 rfl)
    have e152 : M'.1 152 = t.2.1 152 + 1 := by rcases hmm with ⟨-, z, -, q⟩ | ⟨-, q⟩ <;> rw [q] <;> rfl
    have hT' : TMv (M'.1 129) (M'.1 152) (M'.1 151) (M'.1 150) (skp y.2) (M'.2 167) := hT'
    have m29' : M'.1 129 = M.1 129 := m29'
    have m29 : t.2.1 129 = M.1 129 := m29
    rw [e152, m29', eW, ← m29] at hT'
    have hP' : RPL s.2 t.2 := RPL_f hP fK fM (by decide +kernel) (by decide +kernel) (by decide +kernel) (by decide +kernel)
    have w01 := hT.1
    have Q := stp_p hP' (by rw [fr1 fK 225 rfl]; exact h225) r8 (fun t' t0 t1 => by
      rw [e26] at t1
      exact GVQ_f (hG t' t0 t1) fK fM (by decide +kernel) (by decide +kernel) (by decide +kernel)) (fun t' t0 t1 => by rw [hh, m29]; exact hH t' t0 (by rw [e26] at t1; exact t1)) hT hT' r7 hL (by
        have : t.2.1 148 = M.1 148 := m48
        omega) r2 r3 r5 r6 (fun hp => by
        have : t.2.1 148 = M.1 148 := m48
        have e7 : s.2.2 107 = K.2 107 := fr2 fK 107 rfl
        have e3 : s.2.1 232 = K.1 232 := fr1 fK 232 rfl
        have w01' : 0 ≤ t.2.1 151 ∧ t.2.1 151 ≤ t.2.1 150 := w01
        rw [e7]
        exact hrow _ (by omega) (by omega) (by omega)) hw hmm hy hQ eW
    refine ⟨hI, Q, ?_, ?_⟩
    · have f0 : fr pgF rA_doFirst t.2 m := by
        rcases hw with ⟨-, q⟩ | ⟨-, -, -, q⟩ <;> rw [q]
        · exact fr_0
        · exact fr_m fr_0 rfl rfl
      have f1 : fr pgF rA_doFirst m M' := by
        rcases hmm with ⟨-, z, hz, q⟩ | ⟨-, q⟩ <;> rw [q]
        · exact fr_m (fr_s (u_rf_doFirst m z hz) fr_0 (by decide +kernel) (by decide +kernel)) rfl rfl
        · exact fr_m fr_0 rfl rfl
      exact fr_s f1 (fr_s f0 fM (by decide +kernel) (by decide +kernel)) (by decide +kernel) (by decide +kernel)
    · have m149 : m.1 149 = t.2.1 149 := by rcases hw with ⟨-, q⟩ | ⟨-, -, -, q⟩ <;> rw [q] <;> rfl
      show M'.1 149 ≤ 40
      rcases hmm with ⟨p, z, hz, q⟩ | ⟨p, q⟩
      · have w : M'.1 149 = cut (m.1 149 - 1) := by
          rw [q]
          exact (df_0 m z hz).1.1
        rw [w, cut_i (by omega) (by omega)]
        omega
      · have w : M'.1 149 = m.1 149 := by rw [q]; rfl
        omega
end PKH

section LDP
variable {et so cs cg ex et' so' cs' cg' ex' : Int → Int} {de d k : Int}
def CGL (et so cs cg ex et' so' cs' cg' ex' : Int → Int) : Prop := ∀ j, 0 ≤ j → et' j = et j ∧ so' j = so j ∧ cs' j = cs j ∧ cg' j = cg j ∧ ex' j = ex j
set_option maxHeartbeats 1000000 in
theorem Ld_p (e : CGL et so cs cg ex et' so' cs' cg' ex') (d0 : 0 ≤ d) (h : Ld et so cs cg d k) : Ld et' so' cs' cg' d k := by
  obtain ⟨e1, -, e3, -, -⟩ := e d d0
  unfold Ld LdK at h ⊢
  rw [e1, e3]
  rcases h with ⟨h1, h2⟩ | ⟨c, c0, c1, c2, c3⟩
  · exact Or.inl ⟨h1, by rw [(e _ h1).2.1]; exact h2⟩
  · refine Or.inr ⟨c, c0, c1, ?_⟩
    rw [(e c (by omega)).2.2.2.1]
    exact ⟨c2, by rw [(e _ c2).2.1]; exact c3⟩
set_option maxHeartbeats 1000000 in
theorem CGL_y (e : CGL et so cs cg ex et' so' cs' cg' ex') : CGL et' so' cs' cg' ex' et so cs cg ex := fun j j0 => by
  obtain ⟨e1, e2, e3, e4, e5⟩ := e j j0
  exact ⟨e1.symm, e2.symm, e3.symm, e4.symm, e5.symm⟩
set_option maxHeartbeats 1000000 in
theorem NR_p (e : CGL et so cs cg ex et' so' cs' cg' ex') (d0 : 0 ≤ d) (h : NR et so cs cg ex de d) : NR et' so' cs' cg' ex' de d := by
  obtain ⟨C, h1, h2, h3⟩ := h
  refine ⟨C, fun k k0 k1 q => h1 k k0 k1 (Ld_p (CGL_y e) d0 q), fun k j k0 k1 j0 j1 c q r => ?_, h3⟩
  rw [(e k k0).2.2.2.2] at q
  exact h2 k j k0 k1 j0 j1 c q (Ld_p (CGL_y e) k0 r)
end LDP

def PGr (K M : mR) : Prop := RPP K M ∧ LSm K M ∧ UQT K ∧ M.1 26 ≤ 8 ∧ (∀ t, 0 ≤ t → t < M.1 26 → TBp t K M) ∧ K.1 217 = M.1 22 ∧ (∀ t, 0 ≤ t → t < M.1 26 → 0 ≤ M.2 53 t ∧ M.2 53 t ≤ 8) ∧ ∀ t, 0 ≤ t → t < M.1 26 → GVQ t K M
section PKI
variable {K M : mR}
set_option maxHeartbeats 1000000 in
theorem PG_read {a b : Int} {y z : mR} (h : RD2 a y b z) (cM : Cn z) (h22 : ∀ j, 0 ≤ j → 0 ≤ y.2 22 j ∧ y.2 22 j ≤ 64) (h512 : ∀ g, 0 ≤ g → g < z.1 19 → z.2 30 g ≤ 512) (hAc : ∀ a, 0 ≤ a → a < z.1 25 → z.2 109 a + z.2 50 a ≤ z.1 99) (h99 : z.1 99 ≤ 4000) (h58 : ∀ t, 0 ≤ t → t < z.1 26 → z.2 58 t ≠ 0 → z.2 54 t ≤ 16) (hNR : ∀ q, 0 ≤ q → q < z.1 24 → 0 < z.2 41 q ∨ NR (z.2 44) (z.2 38) (z.2 42) (z.2 45) (z.2 41) (z.1 24) q) : PGr y z := by
  obtain ⟨⟨-, ⟨hP, hA, hN, hD, hC, hO, hG, hT, ⟨k225, m27, m27', hS⟩, hE⟩, -⟩, ⟨⟨xa, xt, xs, xd⟩, ⟨xo1, xo2⟩, xo3⟩, xc, h38, uq⟩ := h
  obtain ⟨⟨⟨c1, c2, c3, c4, c5, c6, c7, c8⟩, ⟨r1, r1'⟩, ⟨r2, r2'⟩, ⟨r3, r3'⟩, ⟨r4, r4'⟩, ⟨r5, r5'⟩, ⟨r6, r6'⟩, ⟨r7, r7'⟩, ⟨r8, r8'⟩, -⟩, -, hHD, -, hIN, hME, hPA⟩ := hP
  have R : ∀ (k : Nat) (j : Int), lg k = true → R64 (z.2 k j) := fun k j q => by
    have w := cM.2 k j
    rw [q] at w
    exact w
  have tb : ∀ t, 0 ≤ t → t < z.1 26 → TBp t y z := fun t t0 t1 => by
    obtain ⟨t2, t3, -, t5, -⟩ := hT t t0 t1
    obtain ⟨x1, x2, x3⟩ := xt t t0 t1
    refine ⟨⟨t0, by omega, t1⟩, t2, x1, x2, x3, t5, fun q q0 q1 => ?_, fun q q0 q1 => (t3.2.2.2 q q0 q1).2.2⟩
    obtain ⟨-, w1, w2⟩ := t3.2.2.2 q q0 q1
    obtain ⟨-, p1, p2, p3, -⟩ := hPA _ w1 w2
    exact ⟨w1, p2, fun i i0 i1 => ⟨by have := (p3 i i0 i1).2.1; omega, (p3 i i0 i1).2.2.1⟩⟩
  have m29 : ∀ i, 0 ≤ i → i < z.1 20 → z.2 29 (z.2 34 i) ≤ 16 := fun i i0 i1 => by
    obtain ⟨-, q1, q2⟩ := hIN i i0 i1
    exact (hHD.1 _ q1 q2).2.1
  have hH : HIm y z := ⟨⟨r2, r2'⟩, r1', hHD, hIN, fun h h0 h1 => ⟨xo3 h h0 h1, h512 h h0 h1⟩⟩
  refine ⟨⟨⟨hN, ⟨fun j => R 68 j rfl, fun j => R 97 j rfl, h22⟩, ⟨fun i i0 i1 => (hME.1 i i0 i1).2, fun i f i0 i1 f0 f1 => ?_⟩, hH, ⟨⟨r6, by omega, r5'⟩, c6, hG, xd, xs, fun s s0 s1 => ?_⟩, r3'⟩, ⟨r3, hME.2⟩, hNR, xo2, ⟨hH, hE⟩, ⟨⟨hN, hA, r2', r3', r4', m29⟩, fun ac a0 a1 => ?_, r7', fun j => R 115 j rfl, ⟨m27, m27'⟩, fun s s0 s1 => ?_⟩, k225⟩, fun t t0 t1 => ?_, uq, r8', tb, c4, fun t t0 t1 => ?_, fun t t0 t1 => ⟨⟨t0, by omega⟩, hT t t0 t1, fun x x0 x1 => ?_, ⟨r7, r7'⟩, h58 t t0 t1⟩⟩
  · obtain ⟨-, q1, q2⟩ := hIN i i0 i1
    obtain ⟨-, w1, w2, -⟩ := (hHD.1 _ q1 q2).2.2.2.1 f f0 f1
    exact ⟨w1, w2⟩
  · rcases hO.1 s s0 s1 with ⟨-, w1, -⟩ | ⟨-, w⟩
    · have := h38 s s0 s1
      omega
    · exact w
  · obtain ⟨w1, w2, w3, w4, w5⟩ := hC ac a0 a1
    obtain ⟨p0, p1, p2, p3, -⟩ := hPA ac a0 a1
    have q := hAc ac a0 a1
    refine ⟨⟨w1, w2, by omega⟩, ⟨w3, w4, w5⟩, ⟨p0, p1, p2⟩, fun i i0 i1 => ⟨(p3 i i0 i1).1, (p3 i i0 i1).2.1, (p3 i i0 i1).2.2.1⟩, fun d d0 d1 => ⟨DE_at hD (by omega) (by omega), xa ac a0 a1 d d0 d1⟩⟩
  · obtain ⟨s52, s53, s54, s55, par, cs⟩ := hS s s0 s1
    obtain ⟨xc1, xc2⟩ := xc s s0 s1
    refine ⟨⟨s52, s53, s54, s55⟩, ?_, ?_⟩
    · rcases par with ⟨q, -⟩ | ⟨q1, q2, -⟩
      · exact Or.inl q
      · exact Or.inr ⟨q1, q2⟩
    · rcases cs with ⟨q, -, -, q1, q2, q3⟩ | ⟨q, -, -, q1⟩ | ⟨q, ⟨q1, q2⟩, -⟩
      · have x := xc1 q
        rw [q1] at x
        exact Or.inl ⟨q, q1, DE_at hD q2 q3, x⟩
      · exact Or.inr (Or.inl ⟨q, q1, (xc2 q).1⟩)
      · exact Or.inr (Or.inr ⟨q, tb _ q1 q2⟩)
  · obtain ⟨-, t3, -⟩ := hT t t0 t1
    exact ⟨t3.1, fun i i0 i1 => (t3.2.2.2 i i0 i1).1⟩
  · obtain ⟨-, t3, -⟩ := hT t t0 t1
    exact ⟨t3.2.1, t3.2.2.1⟩
  · obtain ⟨p1, p2, p3, p4, -⟩ := hPA x x0 x1
    exact ⟨p1, p2, p3, fun j j0 j1 => ⟨(p4 j j0 j1).1, (p4 j j0 j1).2.1, (p4 j j0 j1).2.2.1⟩⟩

set_option maxHeartbeats 1000000 in
theorem PG_f {K' M' : mR} {F A G C : List Nat} (h : PGr K M) (fK : fr F A K K') (fM : fr G C M M') (c1 : chk [217, 218, 219, 220, 221, 225] F = true) (c2 : chk pgK A = true) (c3 : chk pgN G = true) (c4 : chk pgM C = true) : PGr K' M' := by
  obtain ⟨h1, h2, h3, h4, h5, h6, h7, h8⟩ := h
  have d1 : chk [218, 219, 220, 221, 225] F = true := chk_s c1 rfl
  have e26 : M'.1 26 = M.1 26 := fr1 fM 26 (chk_1 c3 (by decide))
  refine ⟨RPP_k h1 fK fM d1 c2 c3 c4, ?_, ?_, by rw [e26]; exact h4, fun t t0 t1 => TBp_k (h5 t t0 (by rw [e26] at t1; exact t1)) fK fM d1 c2 c3 c4, ?_, by rw [e26, fr2 fM 53 (chk_1 c4 (by decide))]; exact h7, fun t t0 t1 => GVQ_f (h8 t t0 (by rw [e26] at t1; exact t1)) fK fM (chk_s c2 rfl) (chk_s c3 rfl) (chk_s c4 rfl)⟩
  · unfold LSm
    rw [e26, fr2 fM 53 (chk_1 c4 (by decide)), fr2 fM 114 (chk_1 c4 (by decide)), fr2 fK 73 (chk_1 c2 (by decide)), fr2 fK 83 (chk_1 c2 (by decide))]
    exact h2
  · unfold UQT
    rw [fr1 fK 225 (chk_1 c1 (by decide)), fr2 fK 55 (chk_1 c2 (by decide))]
    exact h3
  · rw [fr1 fK 217 (chk_1 c1 (by decide)), fr1 fM 22 (chk_1 c3 (by decide))]
    exact h6

set_option maxHeartbeats 1000000 in
theorem RPL_g (h : PGr K M) (hL : LYS K M) (s : 1 ≤ M.1 129 ∧ M.1 129 ≤ 12) : RPL K M := ⟨h.1, h.2.1, hL, h.2.2.1, s, h.2.2.2.1, h.2.2.2.2.1⟩
end PKI

section PKJ
variable {K M : mR} {d ac a r s t : Int}
set_option maxHeartbeats 1000000 in
theorem SLX_of (hN : NDR_nx K M) (m20 : M.1 20 ≤ 12) (m21 : M.1 21 ≤ 16) (h : XE K ac a r) : SLX K a r := fun _ => by
  have n8 := NDR_8 hN
  obtain ⟨a0, a1, a2⟩ := h.1
  refine ⟨⟨a0, by omega⟩, fun i i0 i1 e => ?_⟩
  have w := (hN.2 i (by omega) (by have := hN.1; omega)).2.2.2 e
  rcases w.1 with ⟨q1, q2⟩ | ⟨q1, q2, -⟩ <;> omega
set_option maxHeartbeats 1000000 in
theorem SLD_of (gp : PGm K M) (hD : DEd d K M) (hX : XDm ac d K M) : SLD K d := by
  obtain ⟨gN, gA, m20, m21, m22, m29⟩ := gp
  obtain ⟨x1, x2, x3⟩ := hX
  have no : ∀ {a : Int}, SLX K a (-1) := fun {a} q => absurd rfl q
  rcases hD with ⟨-, e2, hp, e47, e49, he⟩ | ⟨-, e2, hp, h47, he, e51⟩ | ⟨-, e2, h46, h47, he, he2⟩ | ⟨e1, e2, ⟨i0, i1, h46⟩, e47, e49, e51⟩ | ⟨-, e2, h46, e47, e49, e51⟩
  · have s := PLS_s hp m20 m29
    refine ⟨by rw [e49]; exact no, SLX_of gN m20 m21 (x1 e2).1, Or.inl e47, Or.inr ⟨by have := s.2.1; omega, by have := s.2.2; omega⟩, fun q => by omega, fun _ => by have := s.2.1; omega⟩
  · have s := PLS_s hp m20 m29
    obtain ⟨q1, q2, q3⟩ := h47
    refine ⟨SLX_of gN m20 m21 (x2 e2).1, by rw [e51]; exact no, Or.inr ⟨by omega, by omega⟩, Or.inr ⟨by have := s.2.1; omega, by have := s.2.2; omega⟩, fun q => by omega, fun _ => by have := s.2.1; omega⟩
  · obtain ⟨q1, q2, q3⟩ := h47
    exact ⟨SLX_of gN m20 m21 (x3 e2).1, SLX_of gN m20 m21 (x3 e2).2.1, Or.inr ⟨by omega, by omega⟩, Or.inl h46, fun q => by omega, fun q => by omega⟩
  · exact ⟨by rw [e49]; exact no, by rw [e51]; exact no, Or.inl e47, Or.inr ⟨by omega, by omega⟩, fun _ => by omega, fun q => by omega⟩
  · exact ⟨by rw [e49]; exact no, by rw [e51]; exact no, Or.inl e47, Or.inr ⟨by omega, by omega⟩, fun q => by omega, fun q => by omega⟩
set_option maxHeartbeats 1000000 in
theorem SLA_of (gp : PGm K M) (hA : ACm K M) (a0 : 0 ≤ a) (a1 : a < M.1 25) : SLA K a := by
  obtain ⟨⟨p1, p2, p2'⟩, ⟨p3, p4, p5⟩, -, -, p8⟩ := hA a a0 a1
  refine ⟨by rw [p3]; exact ⟨p4, p5⟩, by rw [p1]; exact ⟨p2, p2'⟩, fun i i0 i1 => ?_⟩
  obtain ⟨d1, d2⟩ := p8 (K.2 43 a + i) (by omega) (by omega)
  exact SLD_of gp d1 d2
set_option maxHeartbeats 1000000 in
theorem SLs_of (hG : GTp K M) (hl : LSm K M) (h53 : ∀ t, 0 ≤ t → t < M.1 26 → 0 ≤ M.2 53 t ∧ M.2 53 t ≤ 8) (s0 : 0 ≤ s) (s1 : s < M.1 27) : SLs K s ∧ (K.2 52 s = 2 → 0 ≤ K.2 55 s) := by
  obtain ⟨gp, hA, h25, -, h27, hS⟩ := hG
  obtain ⟨gN, gA, m20, m21, m22, m29⟩ := id gp
  obtain ⟨⟨e52, e53, e54, e55⟩, hpar, hst⟩ := hS s s0 s1
  rcases hst with ⟨k, e56, d1, d2⟩ | ⟨k, he, hE⟩ | ⟨k, hT⟩
  · rw [← e56] at d1 d2
    exact ⟨Or.inr (Or.inl ⟨e52.trans k, SLD_of gp d1 d2⟩), fun q => by omega⟩
  · exact ⟨Or.inl ⟨e52.trans k, SLX_of gN m20 m21 hE⟩, fun q => by omega⟩
  · rw [← e55] at hT
    obtain ⟨⟨t0, t7, t26⟩, hk, xk, -, -, ⟨k74, d0, d1⟩, lp, l25⟩ := hT
    obtain ⟨w1, w2⟩ := hl _ t0 t26
    obtain ⟨k72, n0, n4, -, -⟩ := hk
    refine ⟨Or.inr (Or.inr ⟨e52.trans k, ⟨by omega, by omega⟩, ?_, fun i i0 i1 => SLX_of gN m20 m21 (xk i i0 (by omega)).1, SLA_of gp hA (by omega) (by omega), fun i i0 i1 => ?_⟩), fun _ => t0⟩
    · rw [w1]
      exact h53 _ t0 t26
    · rw [w2 i i0 (by omega)]
      exact SLA_of gp hA (lp i i0 (by omega)).1 (l25 i i0 (by omega))
set_option maxHeartbeats 1000000 in
theorem LY2_f {F A : List Nat} {K1 : mR} {s' : Int} {H : Int → Int} (h : LY2 s s' K H) (f : fr F A K K1) (c : chk stF A = true) : LY2 s s' K1 H := by
  obtain ⟨h1, h2, h3, h4⟩ := h
  refine ⟨fun x w q => h1 x ((WRs_f f c).mp w) (q.imp (RDs_f f c).mp (WRs_f f c).mp), fun x w q => h2 x ((RDs_f f c).mp w) ((WRs_f f c).mp q), fun q => h3 (by rw [fr2 f 53 (chk_1 c (by decide))] at q; exact q), fun j w q => h4 j (w.imp (RDs_f f c).mp (WRs_f f c).mp) (q.imp (RDs_f f c).mp (WRs_f f c).mp)⟩

set_option maxHeartbeats 1000000 in
theorem lay_u {v1 v2 v3 : Int} (hG : PGr K M) : RP (kf_pw_lay v1 v2 v3 K) (fun y => (y.1 = 0 → (∀ s, 0 ≤ s → s < K.1 225 → 0 ≤ y.2.2.2 59 s) ∧ ∀ s s', 0 ≤ s → s < s' → s' < K.1 225 → LY2 s s' K (y.2.2.2 59)) ∧ ((y.1 = 1 ∨ y.1 = 2) → y.2.2 = K)) := by
  obtain ⟨⟨-, -, -, -, -, hT, k225⟩, hl, -, -, -, -, h53, -⟩ := hG
  have h27 := hT.2.2.2.2.1
  unfold kf_pw_lay kfl_pw_lay_20 kfl_pw_lay_49
  refine RP_ite (fun _ => RP_some ⟨fun q => absurd (show (2 : Int) = 0 from q) (by decide), fun _ => rfl⟩) (fun _ => RP_ite (fun _ => RP_ite (fun _ => RP_some ⟨fun q => absurd (show (1 : Int) = 0 from q) (by decide), fun _ => rfl⟩) (fun _ => RP_ite (fun _ => RP_some ⟨fun q => absurd (show (1 : Int) = 0 from q) (by decide), fun _ => rfl⟩) (fun g => RP_ite (fun _ => RP_some ⟨fun q => absurd (show (1 : Int) = 0 from q) (by decide), fun _ => rfl⟩) (fun _ => RP_ite (fun _ => ?_) (fun _ => RP_some ⟨fun q => absurd (show (1 : Int) = 0 from q) (by decide), fun _ => rfl⟩))))) (fun _ => RP_some ⟨fun q => absurd (show (2 : Int) = 0 from q) (by decide), fun _ => rfl⟩))
  refine RP_bnd (settle_u (by omega) (by omega) (by omega) (fun s s0 s1 => SLs_of hT hl h53 s0 (by omega))) (fun y hy => RP_ite (fun e => RP_some ⟨fun _ => ?_, fun q => ?_⟩) (fun e => RP_some ⟨fun q => absurd (show (3 : Int) = 0 from q) (by decide), fun q => ?_⟩))
  · obtain ⟨-, b, g⟩ := hy e
    exact ⟨fun s s0 s1 => (b s s0 s1).1, g⟩
  · exact q.elim (fun q => absurd (show (0 : Int) = 1 from q) (by decide)) (fun q => absurd (show (0 : Int) = 2 from q) (by decide))
  · exact q.elim (fun q => absurd (show (3 : Int) = 1 from q) (by decide)) (fun q => absurd (show (3 : Int) = 2 from q) (by decide))
end PKJ

section PKK
variable {K M : mR}
def W71 (K : mR) : Prop := ∀ p, 0 ≤ p → p < 512 → K.2 71 p = 0
def Z138 (m : mR) : Prop := ∀ p, 0 ≤ p → p < 512 → m.2 138 p = 0
set_option maxHeartbeats 1000000 in
theorem W71_f {F A : List Nat} {y : mR} (h : W71 K) (f : fr F A K y) (c : chk [71] A = true) : W71 y := by
  unfold W71
  rw [fr2 f 71 (chk_1 c (by decide))]
  exact h
set_option maxHeartbeats 1000000 in
theorem Z138_f {F A : List Nat} {m : mR} (h : Z138 M) (f : fr F A M m) (c : chk [138] A = true) : Z138 m := by
  unfold Z138
  rw [fr2 f 138 (chk_1 c (by decide))]
  exact h
set_option maxHeartbeats 1000000 in
theorem fill71_k : RP (kf_Arrays_fill1_b71 0 K) (fun z => W71 z.2) := by
  unfold kf_Arrays_fill1_b71
  refine RP_bnd (P := fun e : mR => W71 e) (RP_whl (I := fun s : Int × mR => (0 ≤ s.1 ∧ s.1 ≤ 512) ∧ ∀ i, 0 ≤ i → i < s.1 → s.2.2 71 i = 0) (fun s hs => ?_) ⟨⟨Int.le_refl _, show (0 : Int) ≤ 512 by decide⟩, fun i i0 i1 => by have i1 : i < 0 := i1; omega⟩) (fun e he => RP_some he)
  obtain ⟨⟨a0, a1⟩, a2⟩ := hs
  unfold kfb_Arrays_fill1_b71_6
  refine RP_ite (fun g => RP_some (fun i i0 i1 => a2 i i0 (by omega))) (fun g => ?_)
  rw [cut_i (z := s.1 + 1) (by omega) (by omega)]
  refine RP_some ⟨⟨show 0 ≤ s.1 + 1 by omega, show s.1 + 1 ≤ 512 by omega⟩, fun i i0 i1 => ?_⟩
  have i1 : i < s.1 + 1 := i1
  show upI (s.2.2 71) s.1 0 i = 0
  by_cases e : i = s.1
  · rw [e, upI_s]
  · rw [upI_n e]
    exact a2 i i0 (by omega)
set_option maxHeartbeats 1000000 in
theorem clearpi_w : RP (kf_pi_clear K) (fun z => W71 z.2) := by
  unfold kf_pi_clear
  refine RP_bnd fill71_k (fun y1 h1 => RP_bnd (uw_kfb_pi_clear_30 _) (fun e h2 => RP_some ?_))
  exact W71_f h1 h2 rfl
set_option maxHeartbeats 1000000 in
theorem read_71 : RP (kf_pw_read K) (fun y => W71 y.2.2) := by
  unfold kf_pw_read
  refine RP_bnd clear_pr_nx (fun y1 _ => RP_bnd clearpi_w (fun y2 z2 => ?_))
  refine RP_bnd (u_kf_tx_open _ _) (fun y3 h3 => ?_)
  have z3 : W71 y3.2.2 := W71_f z2 h3 rfl
  refine RP_ite (fun _ => RP_bnd (uw_kfb_pw_read_46 _) (RP_sl (fun e he => ?_) (fun e he => RP_some (W71_f z3 he rfl)))) (fun _ => RP_some z3)
  exact RP_w (u_kfl_pw_read_202 e) (fun w hw => W71_f (W71_f z3 he rfl) hw rfl)
set_option maxHeartbeats 1000000 in
theorem beg_w (m : mR) : RP (rf_begin m) (fun z => Z138 z.2) := by
  unfold rf_begin
  refine RP_bnd (P := fun e : mR => Z138 e) (RP_whl (I := fun s : Int × mR => (0 ≤ s.1 ∧ s.1 ≤ 512) ∧ ∀ t, 0 ≤ t → t < s.1 → s.2.2 138 t = 0) (fun s hs => ?_) ⟨⟨Int.le_refl _, show (0 : Int) ≤ 512 by decide⟩, fun t t0 t1 => by have t1 : t < 0 := t1; omega⟩) (fun e he => ?_)
  · obtain ⟨⟨a0, a1⟩, a2⟩ := hs
    unfold rfb_begin_12
    refine RP_ite (fun g => RP_some (fun t t0 t1 => a2 t t0 (by omega))) (fun g => ?_)
    rw [cut_i (z := s.1 + 1) (by omega) (by omega)]
    refine RP_some ⟨⟨show 0 ≤ s.1 + 1 by omega, show s.1 + 1 ≤ 512 by omega⟩, fun t t0 t1 => ?_⟩
    have t1 : t < s.1 + 1 := t1
    show upI (s.2.2 138) s.1 0 t = 0
    by_cases e : t = s.1
    · rw [e, upI_s]
    · rw [upI_n e]
      exact a2 t t0 (by omega)
  · unfold rfl_begin_32
    refine RP_bnd (P := fun e : mR => Z138 e) (RP_whl (I := fun s : Int × mR => Z138 s.2) (fun s hs => ?_) he) (fun q hq => ?_)
    · unfold rfb_begin_34
      exact RP_ite (fun _ => RP_some hs) (fun _ => RP_some hs)
    · unfold rfl_begin_53
      exact RP_some hq
set_option maxHeartbeats 1000000 in
theorem read_w : RP (rf_read M) (fun z => Z138 z.2) := by
  unfold rf_read
  refine RP_bndT (fun e => ?_)
  unfold rfl_read_41
  refine RP_bndT (fun g => ?_)
  unfold rfl_read_107
  refine RP_bnd (beg_w _) (fun b hb => ?_)
  unfold rfl_read_156
  refine RP_bnd (u_rf_next b.2) (fun x hx => ?_)
  refine RP_bnd (P := fun w : mR => Z138 w) (RP_whl (I := fun w : mR => Z138 w) (fun s hs => ?_) (Z138_f hb hx.1 rfl)) (fun w hw => ?_)
  · unfold rfb_read_160 rfl_read_171
    refine RP_ite (fun _ => RP_bnd (u_rf_takeOne s) (fun y hy => ?_)) (fun _ => RP_some hs)
    have f := Z138_f hs hy.1 rfl
    exact RP_ite (fun _ => RP_some f) (fun _ => RP_some f)
  · exact RP_w (rd182_u w) (fun z hz => Z138_f hw hz.1 rfl)


def ZR (K M : mR) : Prop := (∀ t, 0 ≤ t → t < M.1 26 → K.2 78 t = 0 ∧ M.2 139 t = 0) ∧ W71 K ∧ Z138 M ∧ M.1 149 = 0 ∧ M.1 150 = 0 ∧ M.1 151 = 0
def PJ (K M : mR) : Prop := (M.1 127 = 1 → PGr K M) ∧ (M.1 127 = 1 → M.1 128 = 0 → ZR K M) ∧ (M.1 128 = 1 → LYS K M ∧ (1 ≤ M.1 129 ∧ M.1 129 ≤ 12) ∧ JR K M)

set_option maxHeartbeats 1000000 in
theorem JR_0 (hP : PGr K M) (h : ZR K M) : JR K M := by
  have hG := hP.2.2.2.2.2.2.2
  obtain ⟨h1, h2, h3, e149, e150, e151⟩ := h
  have q22 := hP.1.2.2.2.2.2.1.1
  have h22 : M.1 22 ≤ 8 := q22.2.2.2.2.1
  unfold JR
  rw [e150, e151]
  refine ⟨fun _ => M.2, fun _ => M.2 138, fun _ => M, fun _ _ => M.2 138, fun _ => M.2 138, fun _ _ _ _ _ => rfl, fun t t0 t1 => ?_, ⟨fun k k0 k1 => by omega, fun k k0 k1 => by omega, fun t t0 t1 => ⟨0, ⟨⟨Int.le_refl _, Int.le_refl _⟩, fun k k0 k1 => by omega, fun k k0 k1 => by omega⟩, ?_⟩⟩, fun q q0 q1 => by omega, ⟨fun k k0 k1 => by omega, fun b b0 b1 => ⟨0, ⟨⟨Int.le_refl _, Int.le_refl _⟩, fun k k0 k1 => by omega, fun k k0 k1 => by omega⟩, fun i i0 i1 => ?_⟩⟩, fun p _ _ => rfl, fun b i b0 b1 i0 i1 => ?_, fun k k0 k1 k2 => by omega⟩
  · have g := (hG t t0 t1).2.1.2.2.2.2.1
    refine ⟨?_, fun e e0 e1 => ?_⟩
    · unfold TOK
      rw [(h1 t t0 t1).2]
      exact ⟨⟨by decide, by decide⟩, fun _ => by omega⟩
    · rw [(h1 t t0 t1).2] at e1
      omega
  · have g := (hG t t0 t1).2.1.2.2.2.2.1
    have e : (wT M M.2).2 139 t = 0 := (h1 t t0 t1).2
    unfold TQ
    rw [e]
    refine ⟨(h1 t t0 t1).1, ⟨by decide, by decide⟩, fun _ => ?_, fun x x0 x1 => by omega, fun x x' x0 x1 x2 => by omega⟩
    show 0 ≤ M.2 54 t
    omega
  · show K.2 71 (64 * b + i) = M.2 138 (64 * b + i)
    rw [h2 _ (by omega) (by omega), h3 _ (by omega) (by omega)]
  · rw [h3 _ (by omega) (by omega)]
    exact VW_le (VW_01 (Or.inl rfl)) (q22.2.1 b b0 b1).2.1
end PKK


def RWF (r : Int) (K K' : mR) : Prop := RWE r K K' ∧ (K'.2 93 r = K.2 93 r ∧ K'.2 99 r = K.2 99 r) ∧ ∀ j, 0 ≤ j → j < 896 → K'.2 100 (65536 * r + j) = K.2 100 (65536 * r + j)
set_option maxHeartbeats 1000000 in
theorem RWF_e {r : Int} {K K' : mR} (h : RWF r K K') : opE K K' r := by
  obtain ⟨⟨⟨e91, -, -, e95, e96, e97, -⟩, -, -, -, e103⟩, -, -⟩ := h
  exact ⟨e91, e95, e96, e97, e103⟩
section PKL
variable {K K1 M M1 : mR} {F A G C : List Nat} {W E S : Int} {a x D : Int → Int} {HT : Int → Nat → Int → Int} {HW : Int → Int → Int} {HV : Int → mR} {HX : Int → XSt} {HU_nx : Int → Int → Int}
def tbK : List Nat := [78, 85, 86, 87, 88, 89]
set_option maxHeartbeats 1000000 in
theorem PQg_R (h : PQg K M W E a x HT) (hG : ∀ t, 0 ≤ t → t < M.1 26 → GVQ t K M) (fK : fr F A K K1) (c2 : chk tbK A = true) (fM : fr G C M M1) (c3 : chk pgN G = true) (c4 : chk pgM C = true) (ho : ∀ k, W ≤ k → k < E → opE K K1 (k % 128)) : PQg K1 M1 W E a x HT := by
  obtain ⟨g1, g2, g3⟩ := h
  have e26 : M1.1 26 = M.1 26 := fr1 fM 26 (chk_1 c3 (by decide))
  refine ⟨fun k k0 k1 => ?_, fun k k0 k1 kn kx => ?_, fun t t0 t1 => ?_⟩
  · obtain ⟨o1, o2, -⟩ := ho k k0 k1
    obtain ⟨q1, q2⟩ := g1 k k0 k1
    unfold OPk STPc at *
    rw [o1, o2, e26]
    exact ⟨q1, q2⟩
  · have oe := ho k k0 k1
    obtain ⟨o1, o2, -⟩ := id oe
    rw [o1] at kn
    rw [o2] at kx
    obtain ⟨m0, o, m, p1, p2, p3, p4, p5, p6⟩ := g2 k k0 k1 kn kx
    exact ⟨m0, o, m, p1, by rw [o2]; exact PGq_t p2 (PGq_f fM (chk_s c3 rfl) (chk_s c4 rfl)), OPQ_p p3 oe, by rw [o1, o2]; exact p4, p5, p6⟩
  · rw [e26] at t1
    obtain ⟨n, n1, n4⟩ := g3 t t0 t1
    have g := hG t t0 t1
    refine ⟨n, n1, TQ_f n4 (by rw [fr2 fK 78 (chk_1 c2 (by decide))]) (fun j _ _ => ?_) rfl (fun _ _ _ => ⟨rfl, rfl⟩) (fun _ _ _ => ⟨rfl, rfl, rfl⟩) g.2.1.1.2.2.1 (GVQ_4 g) (congrFun (fr2 fM 51 (chk_1 c4 (by decide))) t) (fun i _ => congrFun (fr2 fM 46 (chk_1 c4 (by decide))) i) (fun i _ => congrFun (fr2 fM 49 (chk_1 c4 (by decide))) i) (congrFun (fr2 fM 54 (chk_1 c4 (by decide))) t) (congrFun (fr2 fM 58 (chk_1 c4 (by decide))) t) (fr1 fM 25 (chk_1 c3 (by decide)))⟩
    rw [fr2 fK 85 (chk_1 c2 (by decide)), fr2 fK 86 (chk_1 c2 (by decide)), fr2 fK 87 (chk_1 c2 (by decide)), fr2 fK 88 (chk_1 c2 (by decide)), fr2 fK 89 (chk_1 c2 (by decide))]
    exact ⟨rfl, rfl, rfl, rfl, rfl⟩
def sdM : List Nat := [138, 139, 140, 141, 142, 143, 144, 163, 164, 165, 166, 167, 168, 169]
set_option maxHeartbeats 1000000 in
theorem JX_R (hP : RPL K M) (h : JX K M W E S a x D HT HW HV HX HU_nx) (hG : ∀ t, 0 ≤ t → t < M.1 26 → GVQ t K M) (fK : fr F A K K1) (c1 : chk [218, 219, 220, 221, 225] F = true) (c2 : chk (59 :: 71 :: pgK) A = true) (c2' : chk tbK A = true) (fM : fr G C M M1) (c3 : chk pgN G = true) (c4 : chk pgM C = true) (c4' : chk sdM C = true) (rows : ∀ k, 0 ≤ k → W - 64 ≤ k → (k < E ∨ k < W) → RWF (k % 128) K K1) (w0 : 0 ≤ W) (line : ∀ q, 0 ≤ q → q < M1.1 149 → LNQ K1 M1 q ((E + q) % 128) ∧ LNP K1 M1 q ((E + q) % 128)) : JX K1 M1 W E S a x D HT HW HV HX HU_nx := by
  obtain ⟨h1, h2, h3, h4, ⟨p1, p2⟩, h6, h7, h8⟩ := h
  have e26 : M1.1 26 = M.1 26 := fr1 fM 26 (chk_1 c3 (by decide))
  have e22 : M1.1 22 = M.1 22 := fr1 fM 22 (chk_1 c3 (by decide))
  have hE : EMm K M := hP.1.2.2.2.2.1
  have f0 : fr ([] : List Nat) ([] : List Nat) M M := fr_0
  have sde : ∀ r, SDE r M M1 := fun r => by
    unfold SDE
    rw [fr2 fM 163 (chk_1 c4' (by decide)), fr2 fM 164 (chk_1 c4' (by decide)), fr2 fM 165 (chk_1 c4' (by decide)), fr2 fM 166 (chk_1 c4' (by decide)), fr2 fM 168 (chk_1 c4' (by decide)), fr2 fM 169 (chk_1 c4' (by decide))]
    exact ⟨⟨rfl, rfl, rfl, rfl⟩, fun _ _ _ => rfl, fun _ _ _ => rfl⟩
  refine ⟨fun k k0 k1 i i0 => ?_, fun t t0 t1 => ?_, PQg_R h3 hG fK c2' fM c3 c4 (fun k k0 k1 => RWF_e (rows k (by omega) (by omega) (Or.inl k1))), line, ⟨fun k k0 k1 => ⟨(p1 k k0 k1).1, ?_⟩, fun b b0 b1 => ?_⟩, fun p q0 q1 => ?_, fun b i b0 b1 i0 i1 => ?_, fun k k0 k1 k2 => ?_⟩
  · rw [h1 k k0 k1 i i0]
    have kk : k = 139 ∨ k = 140 ∨ k = 141 ∨ k = 142 ∨ k = 143 ∨ k = 144 := by omega
    rcases kk with rfl | rfl | rfl | rfl | rfl | rfl
    · rw [fr2 fM 139 (chk_1 c4' (by decide))]
    · rw [fr2 fM 140 (chk_1 c4' (by decide))]
    · rw [fr2 fM 141 (chk_1 c4' (by decide))]
    · rw [fr2 fM 142 (chk_1 c4' (by decide))]
    · rw [fr2 fM 143 (chk_1 c4' (by decide))]
    · rw [fr2 fM 144 (chk_1 c4' (by decide))]
  · rw [e26] at t1
    have w := h2 t t0 t1
    unfold TOK TRm TRe at w ⊢
    rw [fr2 fM 139 (chk_1 c4' (by decide)), fr2 fM 58 (chk_1 c4 (by decide)), fr2 fM 54 (chk_1 c4 (by decide)), fr2 fM 141 (chk_1 c4' (by decide)), fr2 fM 142 (chk_1 c4' (by decide)), fr2 fM 143 (chk_1 c4' (by decide)), fr2 fM 144 (chk_1 c4' (by decide)), fr2 fM 46 (chk_1 c4 (by decide)), fr2 fM 49 (chk_1 c4 (by decide)), fr2 fM 51 (chk_1 c4 (by decide)), fr2 fM 53 (chk_1 c4 (by decide)), fr2 fM 114 (chk_1 c4 (by decide))]
    exact w
  · exact OPp_f (OPp_m (p1 k k0 k1).2 fM c3 c4 (sde _) hE) fK c1 (chk_s c2 rfl) (rows k (by omega) (by omega) (Or.inl k1)).1
  · rw [e22] at b1
    rw [hbA_f fK (chk_s c1 rfl) (chk_s c2 rfl), fr2 fK 71 (chk_1 c2 (by decide))]
    exact p2 b b0 b1
  · rw [h6 p q0 q1, fr2 fM 138 (chk_1 c4' (by decide))]
  · rw [e22] at b1
    rw [fr2 fM 138 (chk_1 c4' (by decide)), fr2 fM 36 (chk_1 c4 (by decide))]
    exact h7 b i b0 b1 i0 i1
  · obtain ⟨⟨⟨e91, e92, e94, e95, e96, e97, e98⟩, -, e101, e102, -⟩, ⟨e93, e99⟩, e100⟩ := rows k k0 k1 (Or.inr k2)
    have w := OUTr_M (h8 k k0 k1 k2) (sde _) (congrFun (fr2 fM 167 (chk_1 c4' (by decide))) (k % 128))
    obtain ⟨w1, w2, w3⟩ := w
    unfold OUTr
    rw [e91, e98, e99, e92, e101 206 (by decide) (by decide)]
    refine ⟨w1, ?_, fun q s s0 s1 => by rw [e102 s s0 s1]; exact w3 q s s0 s1⟩
    rcases w2 with ⟨a1, a2, a3, a4, a5, a6⟩ | w2
    · refine Or.inl ⟨a1, a2, a3, a4, a5, fun i i0 i1 => ?_⟩
      rw [e100 i i0 (by omega)]
      exact a6 i i0 i1
    · exact Or.inr w2
set_option maxHeartbeats 1000000 in
theorem RWF_0 {r : Int} (f : fr F A K K1) (c : chk [91, 92, 93, 94, 95, 96, 97, 98, 99, 100, 101, 102, 103, 104, 105] A = true) : RWF r K K1 := by
  unfold RWF RWE
  rw [fr2 f 91 (chk_1 c (by decide)), fr2 f 92 (chk_1 c (by decide)), fr2 f 93 (chk_1 c (by decide)), fr2 f 94 (chk_1 c (by decide)), fr2 f 95 (chk_1 c (by decide)), fr2 f 96 (chk_1 c (by decide)), fr2 f 97 (chk_1 c (by decide)), fr2 f 98 (chk_1 c (by decide)), fr2 f 99 (chk_1 c (by decide)), fr2 f 100 (chk_1 c (by decide)), fr2 f 101 (chk_1 c (by decide)), fr2 f 102 (chk_1 c (by decide)), fr2 f 103 (chk_1 c (by decide)), fr2 f 104 (chk_1 c (by decide)), fr2 f 105 (chk_1 c (by decide))]
  exact ⟨⟨⟨rfl, rfl, rfl, rfl, rfl, rfl, rfl⟩, fun _ _ _ => rfl, fun _ _ _ => rfl, fun _ _ _ => rfl, fun _ _ _ => ⟨rfl, rfl, rfl⟩⟩, ⟨rfl, rfl⟩, fun _ _ _ => rfl⟩

set_option maxHeartbeats 1000000 in
theorem LN_R {q row : Int} (h : LNQ K M q row ∧ LNP K M q row) (e : RWF row K K1) : LNQ K1 M q row ∧ LNP K1 M q row := by
  obtain ⟨⟨⟨e91, e92, e94, e95, e96, e97, e98⟩, e100, e101, e102, e103⟩, ⟨e93, e99⟩, -⟩ := e
  obtain ⟨⟨b1, b2, b3⟩, hp⟩ := h
  refine ⟨⟨by rw [e91]; exact b1, b2, fun z => ?_⟩, LNP_K hp ⟨e92, e93⟩ e100⟩
  obtain ⟨c1, c2, c3, c4⟩ := b3 z
  refine ⟨by rw [e95]; exact c1, by rw [e96]; exact c2, by rw [e97]; exact c3, fun i i0 i1 => ?_⟩
  obtain ⟨q1, q2, q3⟩ := e103 i i0 i1
  rw [q1, q2, q3]
  exact c4 i i0 i1
end PKL
