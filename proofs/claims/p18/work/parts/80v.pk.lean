

def RPP (K M : mR) : Prop := RPg K M ∧ (3 ≤ M.1 21 ∧ ∀ i, 0 ≤ i → i < 3 → M.2 35 i = 16) ∧ (∀ q, 0 ≤ q → q < M.1 24 → 0 < M.2 41 q ∨ NR (M.2 44) (M.2 38) (M.2 42) (M.2 45) (M.2 41) (M.1 24) q) ∧ (0 < M.1 24 → M.2 39 0 = 0) ∧ EMm K M ∧ GTp K M ∧ K.1 225 = M.1 27

def VWw (M : mR) : Prop := ∀ b i, 0 ≤ b → b < M.1 22 → 0 ≤ i → i < 64 → VW (M.2 138 (64 * b + i)) (M.2 36 b)
section PK7
variable {K K' M M' : mR} {F A G C : List Nat} {r : Int}
set_option maxHeartbeats 1000000 in
theorem RPP_k (h : RPP K M) (fK : fr F A K K') (fM : fr G C M M') (c1 : chk [218, 219, 220, 221, 225] F = true) (c2 : chk pgK A = true) (c3 : chk pgN G = true) (c4 : chk pgM C = true) : RPP K' M' := by
  obtain ⟨⟨h1, ⟨h2, h3, h4⟩, h5, h6, ⟨h7, h8, h9, h10, h11, h12⟩, h13⟩, p2, p3, p4, ⟨p5, p6⟩, p7, p8⟩ := h
  have hH : HIm K' M' := HIm_f h6 fK fM (chk_s c2 rfl) (chk_s c3 rfl) (chk_s c4 rfl)
  refine ⟨⟨NDR_f_nx fK fM (chk_s c1 rfl) (chk_s c2 rfl) (chk_s c3 rfl) (chk_s c4 rfl) h1, ⟨?_, ?_, ?_⟩, ?_, hH, ⟨?_, ?_, SGd_f2_nx h9 fK fM (chk_s c2 rfl) (chk_s c3 rfl) (chk_s c4 rfl), ?_, XSa_f h11 fK (chk_s c1 rfl) (chk_s c2 rfl), ?_⟩, ?_⟩, ?_, ?_, ?_, ⟨hH, ?_⟩, GTp_k p7 fK fM c1 c2 c3 c4, ?_⟩
  · rw [fr2 fM 68 (chk_1 c4 (by decide))]; exact h2
  · rw [fr2 fM 97 (chk_1 c4 (by decide))]; exact h3
  · rw [fr2 fK 22 (chk_1 c2 (by decide))]; exact h4
  · unfold WBm at h5 ⊢
    rw [fr1 fM 20 (chk_1 c3 (by decide)), fr1 fM 21 (chk_1 c3 (by decide)), fr2 fM 29 (chk_1 c4 (by decide)), fr2 fM 33 (chk_1 c4 (by decide)), fr2 fM 34 (chk_1 c4 (by decide)), fr2 fM 35 (chk_1 c4 (by decide))]
    exact h5
  · rw [fr1 fM 23 (chk_1 c3 (by decide)), fr1 fM 24 (chk_1 c3 (by decide))]; exact h7
  · rw [fr1 fK 221 (chk_1 c1 (by decide)), fr1 fM 23 (chk_1 c3 (by decide))]; exact h8
  · unfold XTd XTq XTa XTe XTc at h10 ⊢
    rw [fr2 fK 22 (chk_1 c2 (by decide)), fr2 fK 27 (chk_1 c2 (by decide)), fr2 fK 28 (chk_1 c2 (by decide)), fr2 fK 29 (chk_1 c2 (by decide)), fr2 fK 31 (chk_1 c2 (by decide)), fr2 fK 32 (chk_1 c2 (by decide)), fr1 fM 20 (chk_1 c3 (by decide)), fr1 fM 24 (chk_1 c3 (by decide)), fr1 fM 28 (chk_1 c3 (by decide)), fr2 fM 39 (chk_1 c4 (by decide)), fr2 fM 41 (chk_1 c4 (by decide)), fr2 fM 42 (chk_1 c4 (by decide)), fr2 fM 94 (chk_1 c4 (by decide)), fr2 fM 95 (chk_1 c4 (by decide)), fr2 fM 96 (chk_1 c4 (by decide)), fr2 fM 97 (chk_1 c4 (by decide)), fr2 fM 98 (chk_1 c4 (by decide))]
    exact h10
  · rw [fr1 fM 23 (chk_1 c3 (by decide)), fr1 fM 24 (chk_1 c3 (by decide)), fr2 fM 38 (chk_1 c4 (by decide)), fr2 fM 39 (chk_1 c4 (by decide))]; exact h12
  · rw [fr1 fM 21 (chk_1 c3 (by decide))]; exact h13
  · rw [fr1 fM 21 (chk_1 c3 (by decide)), fr2 fM 35 (chk_1 c4 (by decide))]; exact p2
  · rw [fr1 fM 24 (chk_1 c3 (by decide)), fr2 fM 38 (chk_1 c4 (by decide)), fr2 fM 41 (chk_1 c4 (by decide)), fr2 fM 42 (chk_1 c4 (by decide)), fr2 fM 44 (chk_1 c4 (by decide)), fr2 fM 45 (chk_1 c4 (by decide))]; exact p3
  · rw [fr1 fM 24 (chk_1 c3 (by decide)), fr2 fM 39 (chk_1 c4 (by decide))]; exact p4
  · unfold EMx_nx at p6 ⊢
    rw [fr1 fK 218 (chk_1 c1 (by decide)), fr2 fK 17 (chk_1 c2 (by decide)), fr1 fM 125 (chk_1 c3 (by decide)), fr1 fM 20 (chk_1 c3 (by decide)), fr2 fM 124 (chk_1 c4 (by decide))]
    exact p6
  · rw [fr1 fK 225 (chk_1 c1 (by decide)), fr1 fM 27 (chk_1 c3 (by decide))]; exact p8

def PKF (K : mR) (at' len ext : Int) (u : Int → Int) (XF : XSt) (z : mR) : Prop := (∀ s, 0 ≤ s → s < 48 → z.2 169 (48 * at' + s) = XF 2 s) ∧ ((XF 0 220 ≠ 0 ∧ z.2 164 at' = 1 ∧ z.2 165 at' = -1 ∧ z.2 166 at' = -1) ∨ (XF 0 220 = 0 ∧ z.2 164 at' = 0 ∧ z.2 165 at' = cut (XF 0 206) ∧ z.2 166 at' = olq K (XF 0) (K.1 218).toNat len ext ∧ ∀ i, 0 ≤ i → i < olq K (XF 0) (K.1 218).toNat len ext → z.2 168 (896 * at' + i) = obt K (XF 0) u (K.1 218).toNat ext i))

def SDo (at' : Int) (M z : mR) : Prop := (∀ v, v ≠ at' → z.2 163 v = M.2 163 v ∧ z.2 164 v = M.2 164 v ∧ z.2 165 v = M.2 165 v ∧ z.2 166 v = M.2 166 v) ∧ (∀ j, j < 896 * at' ∨ 896 * at' + 896 ≤ j → z.2 168 j = M.2 168 j) ∧ ∀ j, j < 48 * at' ∨ 48 * at' + 48 ≤ j → z.2 169 j = M.2 169 j

def PKE (r : Int) (K M y z : mR) : Prop := (z.2 163 r = 0 ∧ SDo r M z) ∧ ((y.2 98 r = 2 ∧ (z.2 164 r = 2 ∧ z.2 165 r = -1 ∧ z.2 166 r = -1) ∧ (∀ s, 0 ≤ s → s < 48 → z.2 169 (48 * r + s) = -1) ∧ z.2 138 = M.2 138) ∨ (y.2 98 r = 0 ∧ (0 ≤ y.2 94 r ∧ y.2 94 r ≤ K.2 92 r) ∧ ∃ X0, ((∀ s, 0 ≤ s → s ≤ 220 → y.2 101 (65536 * r + s) = X0 0 s) ∧ (∀ s, 0 ≤ s → s < 48 → X0 2 s = -1) ∧ X0 1 = M.2 138) ∧ PKF K r (K.2 92 r) (y.2 94 r) (M.2 159) (pgo (fun s => astep K (lkK (vtb K M)) (s : Int)) (M.1 27).toNat X0) z ∧ (∀ p, 0 ≤ p → p < 512 → z.2 138 p = pgo (fun s => astep K (lkK (vtb K M)) (s : Int)) (M.1 27).toNat X0 1 p) ∧ VWw z))
set_option maxHeartbeats 1000000 in
theorem ent_p (hP : RPP K M) (hk : PKw r K M) (hw : VWw M) (hT : ∀ t, 0 ≤ t → t < M.1 26 → TOK t M ∧ TRm t M) (a0 : 0 ≤ M.1 150) (ea : (M.1 150) % 128 = r) (hk0 : M.2 153 0 = 0) (L0 : 1 ≤ M.1 149) (L1 : M.1 149 ≤ 40) : RR (kf_op_enter r K) (rf_doFirst M) (fun y z => PKE r K M y.2 z.2 ∧ fr [] enK K y.2 ∧ rowC 101 r K y.2 ∧ rowC 102 r K y.2 ∧ (∀ v, v ≠ r → y.2.2 94 v = K.2 94 v ∧ y.2.2 98 v = K.2 98 v) ∧ ∀ s, 0 ≤ s → s < 48 → y.2.2 102 (65536 * r + s) = -1) := fun y z hy hz => by
  obtain ⟨m0, m1, u, ⟨fm, ⟨e163, e165, e166⟩, d0, r0⟩, hrd, hc⟩ := dfp_r a0 ea (by omega) L0 L1 z hz
  have r127 : 0 ≤ r ∧ r ≤ 127 := by omega
  have hP0 : RPP K m0 := RPP_k hP (fr_0 (u := []) (v := []) (x := K)) fm rfl rfl rfl rfl
  have hk0' : PKw r K m0 := by
    unfold PKw BYr at hk ⊢
    rw [fr2 fm 154 rfl, fr2 fm 155 rfl, fr2 fm 159 rfl]
    exact hk
  have hw0 : VWw m0 := by
    unfold VWw at hw ⊢
    rw [fr1 fm 22 rfl, fr2 fm 36 rfl, fr2 fm 138 rfl]
    exact hw
  obtain ⟨hg, h35, hNR, hO, hE, hG, k225⟩ := id hP0
  obtain ⟨⟨n1, n2, n3, n4, n5, n6⟩, hq⟩ := enter_q hk0' hg h35 hNR hO hw0 y (u, m1) hy hrd
  have n2 : fr enF enM m0 m1 := n2
  have z163 : z.2.2 163 = upI (M.2 163) r (M.2 153 0) := by
    rcases hc with ⟨-, -, q, -⟩ | ⟨-, g, m2, -, ⟨q, -, -⟩, -⟩
    · rw [q]; exact e163
    · rw [q]; exact e163
  refine ⟨?_, n1, n3, n4, n5, n6⟩
  rcases hq with ⟨u1, y98, hR⟩ | ⟨u0, y98⟩
  · have u1 : u = 1 := u1
    rcases hc with ⟨u0, -⟩ | ⟨-, g, m2, hgt, ⟨-, z169, z138⟩, hc⟩
    · omega
   
    have fM1 : fr (176 :: 177 :: []) (171 :: 172 :: 173 :: 175 :: dpA) M m1 := fr_s n2 (fr_s fm fr_0 rfl rfl) rfl rfl
    have vt : vtb K m1 = vtb K M := by
      unfold vtb
      rw [fr2 fM1 139 rfl, fr2 fM1 140 rfl, fr2 fM1 141 rfl, fr2 fM1 142 rfl, fr2 fM1 143 rfl, fr2 fM1 144 rfl]
    have hT1 : ∀ t, 0 ≤ t → t < m1.1 26 → TOK t m1 ∧ TRm t m1 := fun t t0 t1 => by
      rw [fr1 fM1 26 rfl] at t1
      have w := hT t t0 t1
      unfold TOK TRm TRe at w ⊢
      rw [fr2 fM1 139 rfl, fr2 fM1 141 rfl, fr2 fM1 142 rfl, fr2 fM1 143 rfl, fr2 fM1 144 rfl, fr2 fM1 46 rfl, fr2 fM1 49 rfl, fr2 fM1 51 rfl, fr2 fM1 53 rfl, fr2 fM1 54 rfl, fr2 fM1 58 rfl, fr2 fM1 114 rfl]
      exact w
    have hP1 : RPP K m1 := RPP_k hP0 (fr_0 (u := []) (v := []) (x := K)) n2 rfl rfl rfl rfl
    obtain ⟨hg1, -, -, -, hE1, hG1, -⟩ := id hP1
    obtain ⟨hN1, ⟨h68, -, -⟩, hW1, hH1, -, -⟩ := id hg1
    have gt : GTm (vtb K m1) m1 := GTm_v hG1 hT1
    have rg : RGs (vtb K m1) m1 := ⟨⟨NDR_f_nx (vtb_f (K := K) (M := m1)) (fr_0 (u := []) (v := []) (x := m1)) rfl rfl rfl rfl hN1, h68, hR.2.2.2.2.1, hH1.1.2, fun i i0 i1 => (HIm_i hH1 i0 i1).2.1.2, hW1⟩, hR.2.2.2.2.2⟩
    obtain ⟨t1, t2, t3, t4⟩ := goThrough_r rg gt r127.1 r127.2 (g, m2) hgt
    have t1 : XPE (XSm r m2) (pgo (fun s => astep (vtb K m1) (lkK (vtb K m1)) (s : Int)) (m1.1 27).toNat (XSm r m1)) := t1
    have t3 : fr gtF gtA m1 m2 := t3
    have t4 : rowM r m1 m2 := t4
    rw [pgo_e (st := fun s => astep K (lkK (vtb K M)) (s : Int)) (fun s _ x => by
      show astep (vtb K m1) (lkK (vtb K m1)) (s : Int) x = astep K (lkK (vtb K M)) (s : Int) x
      rw [astep_g (vtb_f (K := K) (M := m1)) rfl, vt]), show m1.1 27 = M.1 27 from fr1 fM1 27 rfl] at t1
    obtain ⟨XF, eXF⟩ : ∃ XF, XF = pgo (fun s => astep K (lkK (vtb K M)) (s : Int)) (M.1 27).toNat (XSm r m1) := ⟨_, rfl⟩
    rw [← eXF] at t1
    obtain ⟨x0, x1, x2⟩ := t1
    have x0 : ∀ s, 0 ≤ s → s ≤ 220 → smM m2 s = XF 0 s := x0
    have x1 : ∀ p, 0 ≤ p → p < 512 → m2.2 138 p = XF 1 p := x1
    have x2 : ∀ s, 0 ≤ s → s < 48 → m2.2 169 (48 * r + s) = XF 2 s := x2
    have e154 : m2.2 154 = M.2 154 := (fr2 t3 154 rfl).trans (fr2 fM1 154 rfl)
    have e159 : m2.2 159 = M.2 159 := (fr2 t3 159 rfl).trans (fr2 fM1 159 rfl)
    have e176 : m2.1 176 = m1.1 176 := fr1 t3 176 rfl
    obtain ⟨-, ⟨y94, b0, b1⟩, ⟨y92, l0, l1⟩, hBY, -, -⟩ := id hR
    have y92' : y.2.2 92 r = K.2 92 r := by rw [fr2 n1 92 rfl]
    have m154 : m1.2 154 = M.2 154 := fr2 fM1 154 rfl
    have k92 : K.2 92 r = M.2 154 0 := hk.2.1.1
    rw [m154] at b1 l0 l1
    have od : XF 0 220 = if m2.1 177 = 0 then 0 else 1 := by
      rw [← x0 220 (by decide) (by decide)]
      unfold smM
      rw [if_pos rfl]
    have sd169 : ∀ j, j < 48 * r ∨ 48 * r + 48 ≤ j → z.2.2 169 j = M.2 169 j := fun j hj => by
      rw [z169, t4 j hj, fr2 n2 169 rfl]
      exact r0 j hj
    have c165 : m2.2 165 = upI (M.2 165) r (-1) := (fr2 t3 165 rfl).trans ((fr2 n2 165 rfl).trans e165)
    have c166 : m2.2 166 = upI (M.2 166) r (-1) := (fr2 t3 166 rfl).trans ((fr2 n2 166 rfl).trans e166)
    have c168 : m2.2 168 = M.2 168 := (fr2 t3 168 rfl).trans (fr2 fM1 168 rfl)
    have vw : VWw z.2 := by
      have q := t2.1.2.2.1.2.2
      intro b i b0' b1' i0 i1
      have q1 := q b i b0' (show b < m2.1 22 by
        rw [fr1 t3 22 rfl, fr1 fM1 22 rfl]
        have e22 : z.2.1 22 = M.1 22 := fr1 (u_rf_doFirst M z hz) 22 (by decide +kernel)
        omega) i0 i1
      have e36 : z.2.2 36 = M.2 36 := fr2 (u_rf_doFirst M z hz) 36 (by decide +kernel)
      rw [z138, e36]
      rw [show m2.2 36 = M.2 36 from (fr2 t3 36 rfl).trans (fr2 fM1 36 rfl)] at q1
      exact q1
    have pk : PKF K r (K.2 92 r) (y.2.2 94 r) (M.2 159) XF z.2 ∧ SDo r M z.2 := by
      rcases hc with ⟨w, z164, z165, z166, z168⟩ | ⟨w, z164, m3, hm3, z165, z166, z168⟩
      · refine ⟨⟨fun s s0 s1 => by rw [z169]; exact x2 s s0 s1, Or.inl ⟨by rw [od, if_neg w]; decide, by rw [z164, upI_s], by rw [z165, e165, upI_s], by rw [z166, e166, upI_s]⟩⟩, fun v hv => ⟨by rw [z163, upI_n hv], by rw [z164, upI_n hv], by rw [z165, e165, upI_n hv], by rw [z166, e166, upI_n hv]⟩, fun j _ => by rw [z168], sd169⟩
      · obtain ⟨m4, e4⟩ : ∃ m4, m4 = mO m2 [] [(164, upI (m2.2 164) r 0)] := ⟨_, rfl⟩
        rw [← e4] at hm3
        have f4 : fr gtF (164 :: gtA) m1 m4 := by rw [e4]; exact fr_m (fr_s t3 fr_0 rfl rfl) rfl rfl
        have s4 : smM m4 = smM m2 := by rw [e4]; rfl
        have E4 : EMm K m4 := (RPP_k hP1 (fr_0 (u := []) (v := []) (x := K)) f4 rfl rfl rfl rfl).2.2.2.2.1
        have a176 : m4.1 176 = m1.1 176 := fr1 f4 176 rfl
        have a154 : m4.2 154 = M.2 154 := (fr2 f4 154 rfl).trans m154
        have a159 : m4.2 159 = M.2 159 := by rw [e4]; exact e159
        have a125 : m4.1 125 = K.1 218 := (fr1 f4 125 rfl).trans hE1.2.1.1.symm
        obtain ⟨w1, w165, w166, w168, w168o⟩ := writeP_r E4 r127.1 r127.2 (by rw [a176]; exact b0) (by rw [a176, a154]; exact b1) (by rw [a154]; exact l1) m3 hm3
        have ews : wis K (smM m2) (K.1 218).toNat = wis K (XF 0) (K.1 218).toNat := wis_c hE1 (fun s s0 s1 => x0 s s0 (by omega)) _ (by have := hE1.2.1; omega)
        have eo : olq K (smM m4) (m4.1 125).toNat (m4.2 154 0) (m4.1 176) = olq K (XF 0) (K.1 218).toNat (K.2 92 r) (y.2.2 94 r) := by
          unfold olq
          rw [s4, a125, a154, a176, ews, k92, y94]
        have eb : ∀ i, obt K (smM m4) (m4.2 159) (m4.1 125).toNat (m4.1 176) i = obt K (XF 0) (M.2 159) (K.1 218).toNat (y.2.2 94 r) i := fun i => by
          unfold obt
          rw [s4, a125, a176, a159, ews, y94]
        rw [eo] at w166 w168
        have d165 : m4.2 165 = upI (M.2 165) r (-1) := by rw [e4]; exact c165
        have d166 : m4.2 166 = upI (M.2 166) r (-1) := by rw [e4]; exact c166
        have d168 : m4.2 168 = M.2 168 := by rw [e4]; exact c168
        have d172 : m4.2 172 2 = XF 0 206 := by
          rw [← x0 206 (by decide) (by decide), e4]
          rfl
        refine ⟨⟨fun s s0 s1 => by rw [z169]; exact x2 s s0 s1, Or.inr ⟨by rw [od, if_pos w], by rw [z164, upI_s], by rw [z165, w165, upI_s, d172], by rw [z166, w166, upI_s], fun i i0 i1 => by rw [z168, w168 i i0 i1, eb]⟩⟩, fun v hv => ⟨by rw [z163, upI_n hv], by rw [z164, upI_n hv], by rw [z165, w165, upI_n hv, d165, upI_n hv], by rw [z166, w166, upI_n hv, d166, upI_n hv]⟩, fun j hj => by rw [z168, w168o j hj, d168], sd169⟩
    refine ⟨⟨by rw [z163, upI_s]; exact hk0, pk.2⟩, Or.inr ⟨y98, ⟨by rw [y94]; exact b0, by rw [y94, k92]; exact b1⟩, XSm r m1, ⟨hR.1, fun s s0 s1 => ?_, ?_⟩, ?_, fun p p0 p1 => ?_, vw⟩⟩
    · show m1.2 169 (48 * r + s) = -1
      rw [fr2 n2 169 rfl]
      exact d0 s s0 s1
    · show m1.2 138 = M.2 138
      exact fr2 fM1 138 rfl
    · rw [← eXF]; exact pk.1
    · rw [← eXF, z138]; exact x1 p p0 p1
  · have u0 : u = 0 := u0
    rcases hc with ⟨-, z164, -, z165, z166, z168, z169, z138⟩ | ⟨w, -⟩
    · refine ⟨⟨by rw [z163, upI_s]; exact hk0, fun v hv => ⟨by rw [z163, upI_n hv], by rw [z164, upI_n hv], by rw [z165, e165, upI_n hv], by rw [z166, e166, upI_n hv]⟩, fun j _ => by rw [z168], fun j hj => by rw [z169]; exact r0 j hj⟩, Or.inl ⟨y98, ⟨by rw [z164, upI_s], by rw [z165, e165, upI_s], by rw [z166, e166, upI_s]⟩, fun s s0 s1 => by rw [z169]; exact d0 s s0 s1, z138⟩⟩
    · exact absurd u0 w
end PK7


def tch (K : mR) (b s : Int) : Prop := ∃ j, 64 * b ≤ j ∧ j < 64 * b + 64 ∧ (RDs K s 1 j ∨ WRs K s 1 j)

noncomputable def hbP (P : Int → Prop) (H : Int → Int) : Int := @dite Int (∃ s, P s) (Classical.propDecidable _) (fun h => H (Classical.choose h)) (fun _ => 0)
noncomputable def hbA (K : mR) (b : Int) : Int := hbP (fun s => 0 ≤ s ∧ s < K.1 225 ∧ tch K b s) (K.2 59)

def PGs (K : mR) (nb g : Int) : PS9 := fun k j => (k = 0 ∧ 0 ≤ j ∧ j ≤ 220) ∨ (k = 2 ∧ 0 ≤ j ∧ j < 48) ∨ (k = 1 ∧ ∃ b, 0 ≤ b ∧ b < nb ∧ hbA K b = g ∧ 64 * b ≤ j ∧ j < 64 * b + 64)

def LYS (K M : mR) : Prop := (∀ s, 0 ≤ s → s < K.1 225 → 0 ≤ K.2 59 s ∧ K.2 59 s < M.1 129) ∧ ∀ s s', 0 ≤ s → s < s' → s' < K.1 225 → LY2 s s' K (K.2 59)
section PK8
set_option maxHeartbeats 1000000 in
theorem hbA_f {F A : List Nat} {K K1 : mR} (f : fr F A K K1) (c1 : chk [225] F = true) (c : chk (59 :: stF) A = true) (b : Int) : hbA K1 b = hbA K b := by
  have e : (fun s => 0 ≤ s ∧ s < K1.1 225 ∧ tch K1 b s) = (fun s => 0 ≤ s ∧ s < K.1 225 ∧ tch K b s) := by
    funext s
    have w : tch K1 b s ↔ tch K b s := by
      unfold tch
      constructor
      · rintro ⟨j, j0, j1, h⟩
        exact ⟨j, j0, j1, h.imp (RDs_f f (chk_s c rfl)).mp (WRs_f f (chk_s c rfl)).mp⟩
      · rintro ⟨j, j0, j1, h⟩
        exact ⟨j, j0, j1, h.imp (RDs_f f (chk_s c rfl)).mpr (WRs_f f (chk_s c rfl)).mpr⟩
    rw [fr1 f 225 (chk_1 c1 (by decide))]
    exact propext ⟨fun q => ⟨q.1, q.2.1, w.mp q.2.2⟩, fun q => ⟨q.1, q.2.1, w.mpr q.2.2⟩⟩
  unfold hbA
  rw [e, fr2 f 59 (chk_1 c (by decide))]
variable {K M : mR} {s d b g : Int} {lk : Int → (Int → Int) → Int × (Int → Int)}
set_option maxHeartbeats 1000000 in
theorem rdd_w {j j' : Int} (h : RDD K d 1 j) (h0 : 64 * b ≤ j ∧ j < 64 * b + 64) (h1 : 64 * b ≤ j' ∧ j' < 64 * b + 64) : RDD K d 1 j' := by
  rcases h with q | q | ⟨q, -⟩ | ⟨-, q1, q2, q3⟩
  · exact absurd q.1 (by decide)
  · exact absurd q.1 (by decide)
  · exact absurd q (by decide)
  · exact Or.inr (Or.inr (Or.inr ⟨rfl, q1, by omega, by omega⟩))
set_option maxHeartbeats 1000000 in
theorem wrd_w {j j' : Int} (h : WRD K d 1 j) (h0 : 64 * b ≤ j ∧ j < 64 * b + 64) (h1 : 64 * b ≤ j' ∧ j' < 64 * b + 64) : WRD K d 1 j' := by
  rcases h with ⟨q, -⟩ | ⟨-, q1, q2, q3⟩
  · exact absurd q (by decide)
  · exact Or.inr ⟨rfl, q1, by omega, by omega⟩
set_option maxHeartbeats 1000000 in
theorem tch_w {j' : Int} (h : tch K b s) (h1 : 64 * b ≤ j' ∧ j' < 64 * b + 64) : RDs K s 1 j' ∨ WRs K s 1 j' := by
  obtain ⟨j, j0, j1, h⟩ := h
  rcases h with h | h
  · refine Or.inl ?_
    rcases h with ⟨-, q⟩ | ⟨k, q⟩ | ⟨k, q⟩ | ⟨q, -⟩
    · exact absurd q.1 (by decide)
    · exact Or.inr (Or.inl ⟨k, rdd_w q ⟨j0, j1⟩ h1⟩)
    · rcases q with ⟨i, -, -, q⟩ | ⟨a, ha, i, i0, i1, q⟩
      · exact absurd q.1 (by decide)
      · exact Or.inr (Or.inr (Or.inl ⟨k, Or.inr ⟨a, ha, i, i0, i1, rdd_w q ⟨j0, j1⟩ h1⟩⟩))
    · exact absurd q (by decide)
  · refine Or.inr ?_
    rcases h with ⟨k, q⟩ | ⟨k, a, ha, i, i0, i1, q⟩ | ⟨q, -⟩
    · exact Or.inl ⟨k, wrd_w q ⟨j0, j1⟩ h1⟩
    · exact Or.inr (Or.inl ⟨k, a, ha, i, i0, i1, wrd_w q ⟨j0, j1⟩ h1⟩)
    · exact absurd q (by decide)

set_option maxHeartbeats 1000000 in
theorem hbA_s (hL : LYS K M) (s0 : 0 ≤ s) (s1 : s < K.1 225) (h : tch K b s) : K.2 59 s = hbA K b := by
  have ex : ∃ s, (fun s => 0 ≤ s ∧ s < K.1 225 ∧ tch K b s) s := ⟨s, s0, s1, h⟩
  unfold hbA hbP
  rw [dif_pos ex]
  obtain ⟨c0, c1, c2⟩ := Classical.choose_spec ex
  obtain ⟨c, ec⟩ : ∃ c, c = Classical.choose ex := ⟨_, rfl⟩
  rw [← ec] at c0 c1 c2 ⊢
  have a := tch_w h (j' := 64 * b) ⟨by omega, by omega⟩
  have a' := tch_w c2 (j' := 64 * b) ⟨by omega, by omega⟩
  rcases Int.lt_trichotomy s c with q | q | q
  · exact (hL.2 s c s0 q c1).2.2.2 _ a a'
  · rw [q]
  · exact ((hL.2 c s c0 q s1).2.2.2 _ a' a).symm
set_option maxHeartbeats 1000000 in
theorem hbA_r (hL : LYS K M) (hS : 1 ≤ M.1 129) : 0 ≤ hbA K b ∧ hbA K b < M.1 129 := by
  unfold hbA hbP
  by_cases ex : ∃ s, (fun s => 0 ≤ s ∧ s < K.1 225 ∧ tch K b s) s
  · rw [dif_pos ex]
    obtain ⟨c0, c1, -⟩ := Classical.choose_spec ex
    exact hL.1 _ c0 c1
  · rw [dif_neg ex]
    omega

set_option maxHeartbeats 1000000 in
theorem rde_P {k : Nat} {j ac a r : Int} (hN : NDR_nx K M) (m20 : M.1 20 ≤ 12) (m21 : M.1 21 ≤ 16) (m29 : ∀ i, 0 ≤ i → i < M.1 20 → M.2 29 (M.2 34 i) ≤ 16) (h : XE K ac a r) (q : RDE K a r k j) : k = 0 ∧ 0 ≤ j ∧ j ≤ 220 := by
  obtain ⟨q1, q2, i, i0, i1, e18, e19⟩ := q
  have n8 := NDR_8 hN
  have r8 := h.1.2.2
  have a0 := h.1.1
  obtain ⟨-, hk⟩ := hN
  obtain ⟨-, -, -, n4⟩ := hk i (by omega) (by omega)
  obtain ⟨v, -⟩ := n4 e18
  rw [e19] at v
  refine ⟨q1, ?_, ?_⟩
  · rcases v with ⟨v1, v2⟩ | ⟨v1, v2, -⟩ <;> omega
  · rcases v with ⟨v1, v2⟩ | ⟨v1, v2, -⟩ <;> omega
set_option maxHeartbeats 1000000 in
theorem rdd_P {k : Nat} {j ac : Int} (gp : PGm K M) (hD : DEd d K M) (hX : XDm ac d K M) (q : RDD K d k j) : (k = 0 ∧ 0 ≤ j ∧ j ≤ 220) ∨ (k = 1 ∧ (0 ≤ K.2 47 d ∧ K.2 47 d < M.1 22) ∧ 64 * K.2 47 d ≤ j ∧ j < 64 * K.2 47 d + 64) := by
  obtain ⟨gN, gA, m20, m21, m22, m29⟩ := gp
  obtain ⟨x1, x2, x3⟩ := hX
  have no : ∀ {a : Int}, RDE K a (-1) k j → False := fun w => w.2.1 rfl
  rcases hD with ⟨-, e2, hp, e47, e49, he⟩ | ⟨-, e2, hp, h47, he, e51⟩ | ⟨-, e2, h46, h47, he, he2⟩ | ⟨e1, e2, ⟨i0, i1, h46⟩, e47, e49, e51⟩ | ⟨-, e2, h46, e47, e49, e51⟩
  · have s := PLS_s hp m20 m29
    rcases q with q | q | ⟨q1, q2, q3, q4⟩ | ⟨q1, q2, -⟩
    · rw [e49] at q; exact absurd q no
    · exact Or.inl (rde_P gN m20 m21 m29 (x1 e2).1 q)
    · exact Or.inl ⟨q1, by omega, by omega⟩
    · exact absurd e47 q2
  · have s := PLS_s hp m20 m29
    obtain ⟨w1, w2, w3⟩ := h47
    rcases q with q | q | ⟨q1, q2, q3, q4⟩ | ⟨q1, q2, q3, q4⟩
    · exact Or.inl (rde_P gN m20 m21 m29 (x2 e2).1 q)
    · rw [e51] at q; exact absurd q no
    · exact Or.inl ⟨q1, by omega, by omega⟩
    · exact Or.inr ⟨q1, by omega, q3, q4⟩
  · obtain ⟨w1, w2, w3⟩ := h47
    rcases q with q | q | ⟨q1, q2, q3, q4⟩ | ⟨q1, q2, q3, q4⟩
    · exact Or.inl (rde_P gN m20 m21 m29 (x3 e2).1 q)
    · exact Or.inl (rde_P gN m20 m21 m29 (x3 e2).2.1 q)
    · omega
    · exact Or.inr ⟨q1, by omega, q3, q4⟩
  · rcases q with q | q | ⟨q1, q2, q3, q4⟩ | ⟨q1, q2, -⟩
    · rw [e49] at q; exact absurd q no
    · rw [e51] at q; exact absurd q no
    · rcases e1 with e1 | e1 <;> omega
    · exact absurd e47 q2
  · rcases q with q | q | ⟨q1, q2, q3, q4⟩ | ⟨q1, q2, -⟩
    · rw [e49] at q; exact absurd q no
    · rw [e51] at q; exact absurd q no
    · omega
    · exact absurd e47 q2
set_option maxHeartbeats 1000000 in
theorem wrd_P {k : Nat} {j : Int} (gp : PGm K M) (hD : DEd d K M) (q : WRD K d k j) : k = 0 ∨ (k = 1 ∧ (0 ≤ K.2 47 d ∧ K.2 47 d < M.1 22) ∧ 64 * K.2 47 d ≤ j ∧ j < 64 * K.2 47 d + 64) := by
  rcases q with ⟨q1, -⟩ | ⟨q1, q2, q3, q4⟩
  · exact Or.inl q1
  · refine Or.inr ⟨q1, ?_, q3, q4⟩
    rcases hD with ⟨-, -, -, e47, -⟩ | ⟨-, -, -, h47, -⟩ | ⟨-, -, -, h47, -⟩ | ⟨-, -, -, e47, -⟩ | ⟨-, -, -, e47, -⟩
    · exact absurd e47 q2
    · obtain ⟨w1, w2, w3⟩ := h47; omega
    · obtain ⟨w1, w2, w3⟩ := h47; omega
    · exact absurd e47 q2
    · exact absurd e47 q2

set_option maxHeartbeats 1000000 in
theorem acts_A (hq : TBp (K.2 55 s) K M) (hL : K.2 73 (K.2 55 s) = M.2 53 (K.2 55 s) ∧ ∀ i, 0 ≤ i → i < M.2 53 (K.2 55 s) → K.2 83 (65536 * K.2 55 s + i) = M.2 114 (8 * K.2 55 s + i)) {a : Int} (h : ACTS K s a) : 0 ≤ a ∧ a < M.1 25 := by
  obtain ⟨-, -, -, -, -, ⟨h74, h57, h57'⟩, h7, h8⟩ := hq
  rcases h with h | ⟨i, i0, i1, h⟩
  · rw [h]; omega
  · rw [hL.1] at i1
    rw [hL.2 i i0 i1] at h
    rw [← h]
    exact ⟨(h7 i i0 i1).1, h8 i i0 i1⟩

def LSm (K M : mR) : Prop := ∀ t, 0 ≤ t → t < M.1 26 → K.2 73 t = M.2 53 t ∧ ∀ i, 0 ≤ i → i < M.2 53 t → K.2 83 (65536 * t + i) = M.2 114 (8 * t + i)
set_option maxHeartbeats 1000000 in
theorem RDs_P {k : Nat} {j : Int} (hG : GTp K M) (hl : LSm K M) (hL : LYS K M) (k225 : K.1 225 = M.1 27) (s0 : 0 ≤ s) (s1 : s < K.1 225) (q : RDs K s k j) : PGs K (M.1 22) (K.2 59 s) k j := by
  obtain ⟨gp, hA, h25, -, h27, hS⟩ := hG
  obtain ⟨gN, gA, m20, m21, m22, m29⟩ := id gp
  obtain ⟨⟨e52, e53, e54, e55⟩, hpar, hst⟩ := hS s s0 (by omega)
  have word : ∀ {d ac : Int}, DEd d K M → XDm ac d K M → RDD K d k j → (∀ j', RDD K d 1 j' → RDs K s 1 j') → PGs K (M.1 22) (K.2 59 s) k j := fun {d ac} d1 d2 q w => by
    rcases rdd_P gp d1 d2 q with c | ⟨c1, c2, c3, c4⟩
    · exact Or.inl c
    · subst c1
      exact Or.inr (Or.inr ⟨rfl, K.2 47 d, c2.1, c2.2, (hbA_s hL s0 s1 ⟨j, c3, c4, Or.inl (w j q)⟩).symm, c3, c4⟩)
  have q0 := q
  rcases q with ⟨k1, q⟩ | ⟨k1, q⟩ | ⟨k1, q⟩ | ⟨q1, q2, q3⟩
  · rcases hst with ⟨k, -⟩ | ⟨k, -, hE⟩ | ⟨k, -⟩
    · omega
    · exact Or.inl (rde_P gN m20 m21 m29 hE q)
    · omega
  · rcases hst with ⟨kk, e56, d1, d2⟩ | ⟨kk, -⟩ | ⟨kk, -⟩
    · rw [← e56] at d1 d2
      exact word d1 d2 q (fun j' w => Or.inr (Or.inl ⟨k1, w⟩))
    · omega
    · omega
  · rcases hst with ⟨kk, -⟩ | ⟨kk, -⟩ | ⟨kk, hT⟩
    · omega
    · omega
    · rw [← e55] at hT
      rcases q with ⟨i, i0, i1, q⟩ | ⟨a, ha, i, i0, i1, q⟩
      · have hk := hT.2.1.1
        exact Or.inl (rde_P gN m20 m21 m29 (hT.2.2.1 i i0 (by omega)).1 q)
      · obtain ⟨a0, a1⟩ := acts_A hT (hl _ hT.1.1 hT.1.2.2) ha
        obtain ⟨⟨p1, -, -⟩, ⟨p3, -, -⟩, -, -, p8⟩ := hA a a0 a1
        obtain ⟨d1, d2⟩ := p8 (K.2 43 a + i) (by omega) (by omega)
        exact word d1 d2 q (fun j' w => Or.inr (Or.inr (Or.inl ⟨k1, Or.inr ⟨a, ha, i, i0, i1, w⟩⟩)))
  · subst q1
    refine Or.inr (Or.inl ⟨rfl, ?_⟩)
    rw [q3]
    rcases hpar with w | w
    · exact absurd (e53.trans w) q2
    · omega
set_option maxHeartbeats 1000000 in
theorem WRs_P {j : Int} (hG : GTp K M) (hl : LSm K M) (hL : LYS K M) (k225 : K.1 225 = M.1 27) (s0 : 0 ≤ s) (s1 : s < K.1 225) (b0 : 0 ≤ b) (h0 : 64 * b ≤ j ∧ j < 64 * b + 64) (q : WRs K s 1 j) : K.2 59 s = hbA K b := hbA_s hL s0 s1 ⟨j, h0.1, h0.2, Or.inr q⟩

set_option maxHeartbeats 1000000 in
theorem SWF_of (hG : GTp K M) (hl : LSm K M) (k225 : K.1 225 = M.1 27) (s0 : 0 ≤ s) (s1 : s < K.1 225) (ha : K.2 52 s = 2 → ∀ ks, ACTS K s (lk (K.2 55 s) ks).1) : SWF K lk s := by
  obtain ⟨gp, hA, h25, -, h27, hS⟩ := hG
  obtain ⟨⟨e52, e53, e54, e55⟩, hpar, hst⟩ := hS s s0 (by omega)
  rcases hst with ⟨k, e56, d1, d2⟩ | ⟨k, he, hE⟩ | ⟨k, hT⟩
  · rw [← e56] at d1 d2
    exact Or.inl ⟨e52.trans k, (DWF_of gp d1 d2).1⟩
  · exact Or.inr (Or.inl ⟨e52.trans k, by have := he.2.1; omega, -1, XRa_of gp.1 hE⟩)
  · rw [← e55] at hT
    refine Or.inr (Or.inr ⟨e52.trans k, fun i i0 i1 => ?_, ha (e52.trans k), fun a h i i0 i1 => ?_⟩)
    · have hk := hT.2.1
      obtain ⟨-, r0, -⟩ := hk.2.2.2.1 i i0 (by have := hk.1; omega)
      exact ⟨by omega, -1, XRa_of gp.1 (hT.2.2.1 i i0 (by have := hk.1; omega)).1⟩
    · obtain ⟨a0, a1⟩ := acts_A hT (hl _ hT.1.1 hT.1.2.2) h
      obtain ⟨⟨p1, -, -⟩, ⟨p3, -, -⟩, -, -, p8⟩ := hA a a0 a1
      obtain ⟨d1, d2⟩ := p8 (K.2 43 a + i) (by omega) (by omega)
      exact (DWF_of gp d1 d2).1

set_option maxHeartbeats 1000000 in
theorem ago_pg {x : XSt} (hG : GTp K M) (hl : LSm K M) (hL : LYS K M) (k225 : K.1 225 = M.1 27) (ha : ∀ s, 0 ≤ s → s < K.1 225 → K.2 52 s = 2 → ∀ ks, ACTS K s (lk (K.2 55 s) ks).1) : ago (fun s => astep K lk (s : Int)) (fun s => (K.2 59 (s : Int)).toNat) (K.1 225).toNat (M.1 129).toNat x = pgo (fun s => astep K lk (s : Int)) (K.1 225).toNat x := by
  refine ago_p (I := fun _ => True) (fun _ _ _ => trivial) (fun s hs => ?_) (fun s s' hs hs' hh x _ => ?_) trivial
  · have := hL.1 s (by omega) (by omega)
    omega
  · have a := hL.1 s (by omega) (by omega)
    have b := hL.1 s' (by omega) (by omega)
    obtain ⟨-, -, -, -, -, hS⟩ := id hG
    obtain ⟨⟨-, e53, -, -⟩, hpar, -⟩ := hS s (by omega) (by omega)
    exact astep_l (SWF_of hG hl k225 (by omega) (by omega) (ha s (by omega) (by omega))) (SWF_of hG hl k225 (by omega) (by omega) (ha s' (by omega) (by omega))) (by omega) (by rw [e53]; omega) (hL.2 s s' (by omega) (by omega) (by omega)) (by omega) x

set_option maxHeartbeats 1000000 in
theorem home_1 (hU : UQT K) (s0 : 0 ≤ s) (s1 : s < K.1 225) (h : 0 ≤ K.2 55 s) : homeK K (K.2 55 s) = K.2 59 s := by
  have f : fnda (K.2 55) (K.2 55 s) (K.1 225).toNat = s := by
    have z : ∀ n : Nat, (n : Int) ≤ s → fnda (K.2 55) (K.2 55 s) n = -1 := by
      intro n
      induction n with
      | zero => intro _; rfl
      | succ n ih =>
        intro hn
        show (if fnda (K.2 55) (K.2 55 s) n = -1 then (if K.2 55 (n : Int) = K.2 55 s then (n : Int) else -1) else fnda (K.2 55) (K.2 55 s) n) = -1
        rw [if_pos (ih (by omega)), if_neg (fun e => by
          have := hU n s (by omega) (by omega) s1 e
          omega)]
    have q := fnda_s (f := K.2 55) (t := K.2 55 s) (s := s.toNat) (z _ (by omega)) (by rw [show ((s.toNat : Nat) : Int) = s by omega]) ((K.1 225).toNat - s.toNat - 1)
    rw [show s.toNat + 1 + ((K.1 225).toNat - s.toNat - 1) = (K.1 225).toNat by omega] at q
    rw [q]
    omega
  unfold homeK
  rw [f, if_neg (by omega)]
end PK8


def VPR (K M V : mR) (T : Nat → Int → Int) : Prop := (V.2 39 = K.2 39 ∧ V.2 72 = K.2 72 ∧ V.2 74 = K.2 74 ∧ V.2 81 = K.2 81 ∧ V.2 84 = K.2 84) ∧ ∀ t, 0 ≤ t → t < M.1 26 → TQ1 t V (wT M T) ∧ ∀ ks, (lkK V t ks).1 = K.2 74 t ∨ ∃ i, 0 ≤ i ∧ i < K.2 73 t ∧ K.2 83 (65536 * t + i) = (lkK V t ks).1
def stV (K V : mR) : Nat → XSt → XSt := fun s => astep K (lkK V) (s : Int)
def hhK (K : mR) : Nat → Nat := fun s => (K.2 59 (s : Int)).toNat

def PKa (K M : mR) (r : Int) (D : Nat) (X0 : XSt) (V : mR) (u w w' : Int → Int) : Prop := K.2 98 r = 0 ∧ (0 ≤ K.2 94 r ∧ K.2 94 r ≤ K.2 92 r ∧ K.2 92 r ≤ 128) ∧ BYr r (K.2 92 r) u K ∧ (∀ s, 0 ≤ s → s ≤ 220 → K.2 101 (65536 * r + s) = ago (stV K V) (hhK K) (K.1 225).toNat D X0 0 s) ∧ (∀ s, 0 ≤ s → s < 48 → K.2 102 (65536 * r + s) = ago (stV K V) (hhK K) (K.1 225).toNat D X0 2 s) ∧ PKF K r (K.2 92 r) (K.2 94 r) u (pgo (stV K V) (K.1 225).toNat X0) M ∧ (∀ p, 0 ≤ p → p < 512 → X0 1 p = w p) ∧ ∀ p, 0 ≤ p → p < 512 → w' p = pgo (stV K V) (K.1 225).toNat X0 1 p
def PKj (K M : mR) (r : Int) (w w' : Int → Int) : Prop := K.2 98 r = 2 ∧ (M.2 164 r = 2 ∧ M.2 165 r = -1 ∧ M.2 166 r = -1) ∧ (∀ s, 0 ≤ s → s < 48 → M.2 169 (48 * r + s) = -1 ∧ K.2 102 (65536 * r + s) = -1) ∧ ∀ p, 0 ≤ p → p < 512 → w' p = w p

def PNO (K M : mR) (T : Nat → Int → Int) (r : Int) : Prop := ∃ m0 o m, (∀ k, 139 ≤ k → k ≤ 144 → ∀ i, 0 ≤ i → m0.2 k i = T k i) ∧ PGq (K.2 95 r) M m0 ∧ OPQ r K m0 ∧ srvM (K.2 95 r) (K.2 91 r) m0 = some (o, m) ∧ M.2 164 r = if o = 0 then 1 else 0
def PKn (K M : mR) (r D : Int) (T : Nat → Int → Int) (w w' : Int → Int) : Prop := (M.2 165 r = -1 ∧ M.2 166 r = -1 ∧ ∀ p, 0 ≤ p → p < 512 → w' p = w p) ∧ (homeK K (K.2 95 r) < D → K.2 98 r = M.2 164 r) ∧ (D ≤ homeK K (K.2 95 r) → PNO K M T r)
def OPp (K M : mR) (r D : Int) (X0 : XSt) (V : mR) (u w w' : Int → Int) (T : Nat → Int → Int) : Prop := K.2 91 r = M.2 163 r ∧ ((K.2 91 r = 0 ∧ ((PKa K M r D.toNat X0 V u w w' ∧ VPR K M V T) ∨ PKj K M r w w')) ∨ (K.2 91 r ≠ 0 ∧ PKn K M r D T w w'))

def NXD (W E : Int) (D : Int → Int) (h n : Int) : Prop := (W ≤ n ∧ n ≤ E) ∧ (∀ k, W ≤ k → k < n → h < D k) ∧ ∀ k, n ≤ k → k < E → D k ≤ h
def PKg (K M : mR) (W E : Int) (D : Int → Int) (HT : Int → Nat → Int → Int) (HW : Int → Int → Int) (HV : Int → mR) (HX : Int → XSt) (HU_nx : Int → Int → Int) : Prop := (∀ k, W ≤ k → k < E → 0 ≤ D k ∧ OPp K M (k % 128) (D k) (HX k) (HV k) (HU_nx k) (HW k) (HW (k + 1)) (HT k)) ∧ ∀ b, 0 ≤ b → b < M.1 22 → ∃ n, NXD W E D (hbA K b) n ∧ ∀ i, 0 ≤ i → i < 64 → K.2 71 (64 * b + i) = HW n (64 * b + i)

def RWE (r : Int) (K K' : mR) : Prop := (K'.2 91 r = K.2 91 r ∧ K'.2 92 r = K.2 92 r ∧ K'.2 94 r = K.2 94 r ∧ K'.2 95 r = K.2 95 r ∧ K'.2 96 r = K.2 96 r ∧ K'.2 97 r = K.2 97 r ∧ K'.2 98 r = K.2 98 r) ∧ (∀ j, 0 ≤ j → j < 128 → K'.2 100 (65536 * r + j) = K.2 100 (65536 * r + j)) ∧ (∀ j, 0 ≤ j → j ≤ 220 → K'.2 101 (65536 * r + j) = K.2 101 (65536 * r + j)) ∧ (∀ j, 0 ≤ j → j < 48 → K'.2 102 (65536 * r + j) = K.2 102 (65536 * r + j)) ∧ ∀ j, 0 ≤ j → j < 4 → K'.2 103 (65536 * r + j) = K.2 103 (65536 * r + j) ∧ K'.2 104 (65536 * r + j) = K.2 104 (65536 * r + j) ∧ K'.2 105 (65536 * r + j) = K.2 105 (65536 * r + j)
section PK9
variable {K K' M M' : mR} {F A G C : List Nat} {r D : Int} {X0 : XSt} {V : mR} {u w w' : Int → Int} {T : Nat → Int → Int}
set_option maxHeartbeats 1000000 in
theorem stV_f (f : fr F A K K') (c : chk prA A = true) : stV K' V = stV K V := by
  funext s x
  exact astep_g f c
set_option maxHeartbeats 1000000 in
theorem hhK_f (f : fr F A K K') (c : nin A 59 = true) : hhK K' = hhK K := by
  funext s
  unfold hhK
  rw [fr2 f 59 c]
set_option maxHeartbeats 1000000 in
theorem obt_f {sl : Int → Int} {E : Nat} {e : Int} (f : fr F A K K') (c : chk pgK A = true) : obt K' sl u E e = obt K sl u E e := by
  unfold obt
  rw [wis_f f (chk_s c rfl)]
set_option maxHeartbeats 1000000 in
theorem olq_f {sl : Int → Int} {E : Nat} {l e : Int} (f : fr F A K K') (c : chk pgK A = true) : olq K' sl E l e = olq K sl E l e := by
  unfold olq
  rw [wis_f f (chk_s c rfl)]

set_option maxHeartbeats 1000000 in
theorem OPp_f (h : OPp K M r D X0 V u w w' T) (f : fr F A K K') (c1 : chk [218, 219, 220, 221, 225] F = true) (c2 : chk (59 :: pgK) A = true) (e : RWE r K K') : OPp K' M r D X0 V u w w' T := by
  obtain ⟨⟨e91, e92, e94, e95, e96, e97, e98⟩, e100, e101, e102, e103⟩ := e
  obtain ⟨h0, h⟩ := h
  have cp : chk pgK A = true := chk_s c2 rfl
  have cr : chk prA A = true := chk_s c2 rfl
  have k225 : K'.1 225 = K.1 225 := fr1 f 225 (chk_1 c1 (by decide))
  have k218 : K'.1 218 = K.1 218 := fr1 f 218 (chk_1 c1 (by decide))
  have hm : ∀ t, homeK K' t = homeK K t := fun t => home_c k225 (fr2 f 55 (chk_1 c2 (by decide))) (fr2 f 59 (chk_1 c2 (by decide)))
  refine ⟨by rw [e91]; exact h0, ?_⟩
  rw [e91]
  rcases h with ⟨k, h⟩ | ⟨k, h⟩
  · refine Or.inl ⟨k, ?_⟩
    rcases h with ⟨⟨a1, a2, a3, a4, a5, a6, a7, a8⟩, b1, b2⟩ | ⟨a1, a2, a3, a4⟩
    · refine Or.inl ⟨⟨by rw [e98]; exact a1, by rw [e92, e94]; exact a2, fun i i0 i1 => ?_, fun s s0 s1 => ?_, fun s s0 s1 => ?_, ?_, a7, ?_⟩, ⟨?_, ?_⟩⟩
      · rw [e92] at i1
        rw [e100 i i0 (by omega)]
        exact a3 i i0 i1
      · rw [e101 s s0 s1, stV_f f cr, hhK_f f (chk_1 c2 (by decide)), k225]
        exact a4 s s0 s1
      · rw [e102 s s0 s1, stV_f f cr, hhK_f f (chk_1 c2 (by decide)), k225]
        exact a5 s s0 s1
      · unfold PKF at a6 ⊢
        rw [olq_f f cp, k218, k225, e92, e94, stV_f f cr]
        refine ⟨a6.1, ?_⟩
        rcases a6.2 with q | ⟨q1, q2, q3, q4, q5⟩
        · exact Or.inl q
        · exact Or.inr ⟨q1, q2, q3, q4, fun i i0 i1 => by rw [obt_f f cp]; exact q5 i i0 i1⟩
      · rw [k225, stV_f f cr]
        exact a8
      · rw [fr2 f 39 (chk_1 c2 (by decide)), fr2 f 72 (chk_1 c2 (by decide)), fr2 f 74 (chk_1 c2 (by decide)), fr2 f 81 (chk_1 c2 (by decide)), fr2 f 84 (chk_1 c2 (by decide))]
        exact b1
      · rw [fr2 f 73 (chk_1 c2 (by decide)), fr2 f 74 (chk_1 c2 (by decide)), fr2 f 83 (chk_1 c2 (by decide))]
        exact b2
    · exact Or.inr ⟨by rw [e98]; exact a1, a2, fun s s0 s1 => ⟨(a3 s s0 s1).1, by rw [e102 s s0 s1]; exact (a3 s s0 s1).2⟩, a4⟩
  · refine Or.inr ⟨k, ?_⟩
    obtain ⟨a1, a2, a3⟩ := h
    refine ⟨a1, fun q => ?_, fun q => ?_⟩
    · rw [e95, hm] at q
      rw [e98]
      exact a2 q
    · rw [e95, hm] at q
      obtain ⟨m0, o, m, p1, p2, p3, p4, p5⟩ := a3 q
      refine ⟨m0, o, m, p1, by rw [e95]; exact p2, ?_, by rw [e95, e91]; exact p4, p5⟩
      obtain ⟨q1, q2, q3, q4, q5⟩ := p3
      refine ⟨by rw [e91]; exact q1, by rw [e95]; exact q2, by rw [e96]; exact q3, by rw [e97]; exact q4, fun i i0 i1 => ?_⟩
      obtain ⟨w1, w2, w3⟩ := e103 i i0 i1
      rw [w1, w2, w3]
      exact q5 i i0 i1
set_option maxHeartbeats 1000000 in
theorem olq_b (h : EMm K M) (sl : Int → Int) {len ext : Int} (e0 : 0 ≤ ext) (e1 : ext ≤ len) (l1 : len ≤ 128) : 0 ≤ olq K sl (K.1 218).toNat len ext ∧ olq K sl (K.1 218).toNat len ext ≤ 896 := by
  obtain ⟨k218, E0, E1⟩ := h.2.1
  obtain ⟨b1, b2, b3, b4, b5⟩ := wis_r h sl (K.1 218).toNat (by omega)
  unfold olq
  omega

def SDE (r : Int) (M M' : mR) : Prop := (M'.2 163 r = M.2 163 r ∧ M'.2 164 r = M.2 164 r ∧ M'.2 165 r = M.2 165 r ∧ M'.2 166 r = M.2 166 r) ∧ (∀ j, 0 ≤ j → j < 896 → M'.2 168 (896 * r + j) = M.2 168 (896 * r + j)) ∧ ∀ j, 0 ≤ j → j < 48 → M'.2 169 (48 * r + j) = M.2 169 (48 * r + j)
set_option maxHeartbeats 1000000 in
theorem SDE_o {v : Int} (h : SDo v M M') (ne : r ≠ v) : SDE r M M' := ⟨h.1 r ne, fun j j0 j1 => h.2.1 _ (by omega), fun j j0 j1 => h.2.2 _ (by omega)⟩
set_option maxHeartbeats 1000000 in
theorem TQ1_m {t : Int} (h : TQ1 t V (wT M T)) (f : fr G C M M') (c3 : chk pgN G = true) (c4 : chk pgM C = true) : TQ1 t V (wT M' T) := by
  have e : ∀ k, k ∈ [46, 49, 51, 54, 58] → (wT M' T).2 k = (wT M T).2 k := fun k hk => by
    have q : ¬ (139 ≤ k ∧ k ≤ 144) := by
      simp only [List.mem_cons, List.not_mem_nil, or_false] at hk
      omega
    show (if 139 ≤ k ∧ k ≤ 144 then T k else M'.2 k) = (if 139 ≤ k ∧ k ≤ 144 then T k else M.2 k)
    rw [if_neg q, if_neg q]
    refine fr2 f k (chk_1 c4 ?_)
    simp only [List.mem_cons, List.not_mem_nil, or_false] at hk
    unfold pgM
    rcases hk with rfl | rfl | rfl | rfl | rfl <;> decide
  have e1 : (wT M' T).1 25 = (wT M T).1 25 := fr1 f 25 (chk_1 c3 (by decide))
  have e2 : ∀ k, 139 ≤ k → k ≤ 144 → (wT M' T).2 k = (wT M T).2 k := fun k k0 k1 => by
    show (if 139 ≤ k ∧ k ≤ 144 then T k else M'.2 k) = (if 139 ≤ k ∧ k ≤ 144 then T k else M.2 k)
    rw [if_pos ⟨k0, k1⟩, if_pos ⟨k0, k1⟩]
  unfold TQ1 TR2
  rw [e 46 (by decide), e 49 (by decide), e 51 (by decide), e 54 (by decide), e 58 (by decide), e1, e2 139 (by decide) (by decide), e2 140 (by decide) (by decide), e2 141 (by decide) (by decide), e2 142 (by decide) (by decide), e2 143 (by decide) (by decide), e2 144 (by decide) (by decide)]
  exact h

set_option maxHeartbeats 1000000 in
theorem OPp_m (h : OPp K M r D X0 V u w w' T) (f : fr G C M M') (c3 : chk pgN G = true) (c4 : chk pgM C = true) (e : SDE r M M') (hE : EMm K M) : OPp K M' r D X0 V u w w' T := by
  obtain ⟨⟨e163, e164, e165, e166⟩, e168, e169⟩ := e
  obtain ⟨h0, h⟩ := h
  refine ⟨by rw [e163]; exact h0, ?_⟩
  rcases h with ⟨k, h⟩ | ⟨k, h⟩
  · refine Or.inl ⟨k, ?_⟩
    rcases h with ⟨⟨a1, a2, a3, a4, a5, a6, a7, a8⟩, b1, b2⟩ | ⟨a1, a2, a3, a4⟩
    · refine Or.inl ⟨⟨a1, a2, a3, a4, a5, ?_, a7, a8⟩, b1, fun t t0 t1 => ?_⟩
      · obtain ⟨q0, q⟩ := a6
        refine ⟨fun s s0 s1 => by rw [e169 s s0 s1]; exact q0 s s0 s1, ?_⟩
        rw [e164, e165, e166]
        rcases q with q | ⟨q1, q2, q3, q4, q5⟩
        · exact Or.inl q
        · refine Or.inr ⟨q1, q2, q3, q4, fun i i0 i1 => ?_⟩
          have := (olq_b hE (pgo (stV K V) (K.1 225).toNat X0 0) a2.1 a2.2.1 a2.2.2).2
          rw [e168 i i0 (by omega)]
          exact q5 i i0 i1
      · rw [fr1 f 26 (chk_1 c3 (by decide))] at t1
        exact ⟨TQ1_m (b2 t t0 t1).1 f c3 c4, (b2 t t0 t1).2⟩
    · exact Or.inr ⟨a1, by rw [e164, e165, e166]; exact a2, fun s s0 s1 => ⟨by rw [e169 s s0 s1]; exact (a3 s s0 s1).1, (a3 s s0 s1).2⟩, a4⟩
  · refine Or.inr ⟨k, ?_⟩
    obtain ⟨⟨a1, a1', a1''⟩, a2, a3⟩ := h
    refine ⟨⟨by rw [e165]; exact a1, by rw [e166]; exact a1', a1''⟩, fun q => by rw [e164]; exact a2 q, fun q => ?_⟩
    obtain ⟨m0, o, m, p1, p2, p3, p4, p5⟩ := a3 q
    exact ⟨m0, o, m, p1, PGq_t p2 (PGq_f f (chk_s c3 rfl) (chk_s c4 rfl)), p3, p4, by rw [e164]; exact p5⟩
end PK9
