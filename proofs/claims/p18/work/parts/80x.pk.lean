

def CY3 (K y : mR) : Prop := ∃ K1 K2 K3 e, ((kopi (K.2 106) (K.2 107) (cut (K.1 226 - 1)) < 0 ∧ K1 = K) ∨ (0 ≤ kopi (K.2 106) (K.2 107) (cut (K.1 226 - 1)) ∧ ∃ w, kf_op_leave (kopi (K.2 106) (K.2 107) (cut (K.1 226 - 1))) (K.1 235) K = some w ∧ K1 = mO w.2 [(234, cut (w.2.1 234 + 1))] [])) ∧ fr [] [106] K1 K2 ∧ ((K2.1 232 ≤ K2.1 233 ∧ fr [] [106] K2 K3) ∨ (K2.1 233 < K2.1 232 ∧ kopn (K2.2 107) ((K2.1 233).tmod 128) < 0) ∨ (K2.1 233 < K2.1 232 ∧ ∃ K2' w, fr [] [106] K2 K2' ∧ kf_op_enter (kopn (K2.2 107) ((K2.1 233).tmod 128)) K2' = some w ∧ K3 = mO w.2 [(233, cut (w.2.1 233 + 1))] [])) ∧ whl (kfb_pi_cycle_133 (cut (K.1 226 - 1))) (0, K3) = some e ∧ y = mO e [(235, cut (e.1 235 + 1))] []
section PKD
variable {K M : mR}
set_option maxHeartbeats 1000000 in
theorem cy3_0 : RP (kf_pi_cycle K) (fun y => CY3 K y.2) := fun y hy => by
  have B : ∀ (K1 : mR), kfl_pi_cycle_46 (cut (K.1 226 - 1)) K1 = some y → ∃ K2 K3 e, fr [] [106] K1 K2 ∧ ((K2.1 232 ≤ K2.1 233 ∧ fr [] [106] K2 K3) ∨ (K2.1 233 < K2.1 232 ∧ kopn (K2.2 107) ((K2.1 233).tmod 128) < 0) ∨ (K2.1 233 < K2.1 232 ∧ ∃ K2' w, fr [] [106] K2 K2' ∧ kf_op_enter (kopn (K2.2 107) ((K2.1 233).tmod 128)) K2' = some w ∧ K3 = mO w.2 [(233, cut (w.2.1 233 + 1))] [])) ∧ whl (kfb_pi_cycle_133 (cut (K.1 226 - 1))) (0, K3) = some e ∧ y.2 = mO e [(235, cut (e.1 235 + 1))] [] := fun K1 h => by
    unfold kfl_pi_cycle_46 at h
    cases hw : whl (kfb_pi_cycle_48 (cut (K.1 226 - 1))) (cut (K.1 226 - 1), K1) with
    | none => rw [hw] at h; cases h
    | some K2 =>
      rw [hw, bnd_some] at h
      have f2 := uw_kfb_pi_cycle_48 _ _ K2 hw
      have f2 : fr [] [106] K1 K2 := fr_s f2 fr_0 rfl rfl
      have L : ∀ K3 : mR, kfl_pi_cycle_130 (cut (K.1 226 - 1)) K3 = some y → ∃ e, whl (kfb_pi_cycle_133 (cut (K.1 226 - 1))) (0, K3) = some e ∧ y.2 = mO e [(235, cut (e.1 235 + 1))] [] := fun K3 h3 => by
        unfold kfl_pi_cycle_130 kfl_pi_cycle_174 at h3
        cases h9 : whl (kfb_pi_cycle_133 (cut (K.1 226 - 1))) (0, K3) with
        | none => rw [h9] at h3; cases h3
        | some e =>
          rw [h9, bnd_some] at h3
          cases h3
          exact ⟨e, rfl, rfl⟩
      unfold kfl_pi_cycle_72 at h
      by_cases q : K2.1 232 ≤ K2.1 233
      · rw [if_pos q] at h
        unfold kfl_pi_cycle_100 at h
        rw [if_pos (by decide)] at h
        obtain ⟨e, e1, e2⟩ := L _ h
        exact ⟨K2, _, e, f2, Or.inl ⟨q, fr_m fr_0 rfl rfl⟩, e1, e2⟩
      · rw [if_neg q] at h
        unfold kfl_pi_cycle_100 at h
        by_cases q2 : kopn (K2.2 107) ((K2.1 233).tmod 128) < 0
        · rw [if_pos q2] at h
          obtain ⟨e, e1, e2⟩ := L _ h
          exact ⟨K2, _, e, f2, Or.inr (Or.inl ⟨by omega, q2⟩), e1, e2⟩
        · rw [if_neg q2] at h
          cases hk : kf_op_enter (kopn (K2.2 107) ((K2.1 233).tmod 128)) (mO K2 [] [(106, upI (K2.2 106) 0 (kopn (K2.2 107) ((K2.1 233).tmod 128)))]) with
          | none => rw [hk] at h; cases h
          | some w =>
            rw [hk, bnd_some] at h
            obtain ⟨e, e1, e2⟩ := L _ h
            exact ⟨K2, _, e, f2, Or.inr (Or.inr ⟨by omega, _, w, fr_m fr_0 rfl rfl, hk, rfl⟩), e1, e2⟩
  unfold kf_pi_cycle at hy
  by_cases q : kopi (K.2 106) (K.2 107) (cut (K.1 226 - 1)) < 0
  · rw [if_pos q] at hy
    obtain ⟨K2, K3, e, h⟩ := B K hy
    exact ⟨K, K2, K3, e, Or.inl ⟨q, rfl⟩, h⟩
  · rw [if_neg q] at hy
    cases hk : kf_op_leave (kopi (K.2 106) (K.2 107) (cut (K.1 226 - 1))) (K.1 235) K with
    | none => rw [hk] at hy; cases hy
    | some w =>
      rw [hk, bnd_some] at hy
      obtain ⟨K2, K3, e, h⟩ := B _ hy
      exact ⟨_, K2, K3, e, Or.inr ⟨by omega, w, hk, rfl⟩, h⟩

set_option maxHeartbeats 1000000 in
theorem dfe_r {at' : Int} (a0 : 0 ≤ M.1 150) (ea : (M.1 150) % 128 = at') (hk : 0 < M.2 153 0) (L0 : 1 ≤ M.1 149) (L1 : M.1 149 ≤ 40) (hV : GVM (M.2 156 0) M ∧ TOK (M.2 156 0) M ∧ OPR M ∧ LPm (M.2 156 0) M ∧ TRm (M.2 156 0) M) : RP (rf_doFirst M) (fun z => ∃ m0 o m, (fr [] dpA M m0 ∧ (∀ s, 0 ≤ s → s < 48 → m0.2 169 (48 * at' + s) = -1) ∧ rowM at' M m0) ∧ srvM (M.2 156 0) (M.2 153 0) m0 = some (o, m) ∧ TRm (M.2 156 0) m ∧ (z.2.2 163 = upI (M.2 163) at' (M.2 153 0) ∧ z.2.2 164 = upI (M.2 164) at' (if o = 0 then 1 else 0) ∧ z.2.2 165 = upI (M.2 165) at' (-1) ∧ z.2.2 166 = upI (M.2 166) at' (-1) ∧ z.2.2 168 = M.2 168 ∧ z.2.2 169 = m0.2 169 ∧ z.2.2 138 = M.2 138) ∧ fr [] svG m0 m ∧ ofR (M.2 156 0) m0 m ∧ ∀ k, k ∈ tbL → z.2.2 k = m.2 k) := by
  have et : (M.1 150).tmod 128 = at' := by rw [Int.tmod_eq_emod_of_nonneg a0]; exact ea
  obtain ⟨v1, v2, v3, v4, v5⟩ := hV
  unfold rf_doFirst
  rw [et]
  refine RP_bnd (d49_r (at' := at') (by omega) (by omega)) (fun m0 hm => ?_)
  obtain ⟨f0, d0, r0⟩ := hm
  have fm : fr [] dpA M m0 := fr_s f0 (fr_m fr_0 rfl rfl) rfl rfl
  have e163 : m0.2 163 = upI (M.2 163) at' (M.2 153 0) := fr2 f0 163 rfl
  have e165 : m0.2 165 = upI (M.2 165) at' (-1) := fr2 f0 165 rfl
  have e166 : m0.2 166 = upI (M.2 166) at' (-1) := fr2 f0 166 rfl
  have e156 : m0.2 156 = M.2 156 := fr2 fm 156 rfl
  rw [d73 hk, e156]
  have gv : GVM (M.2 156 0) m0 := GVM_f v1 fm rfl
  have tk : TOK (M.2 156 0) m0 := by
    unfold TOK
    rw [fr2 fm 139 rfl, fr2 fm 58 rfl, fr2 fm 54 rfl]
    exact v2
  have op : OPR m0 := by
    unfold OPR
    rw [fr2 fm 160 rfl, fr2 fm 161 rfl, fr2 fm 162 rfl]
    exact v3
  have lp : LPm (M.2 156 0) m0 := by
    unfold LPm
    rw [fr2 fm 46 rfl, fr2 fm 49 rfl, fr2 fm 53 rfl, fr2 fm 114 rfl]
    exact v4
  have tr : TRm (M.2 156 0) m0 := by
    unfold TRm TRe
    rw [fr2 fm 139 rfl, fr2 fm 141 rfl, fr2 fm 142 rfl, fr2 fm 143 rfl, fr2 fm 144 rfl, fr2 fm 46 rfl, fr2 fm 49 rfl, fr2 fm 51 rfl, fr2 fm 53 rfl, fr2 fm 114 rfl]
    exact v5
  refine RP_bnd (RP_and (RP_se _) (RP_and (srv_of gv tk op) (srv_t gv tk op lp tr))) (fun w hw => ?_)
  obtain ⟨hs, ⟨so1, so2, so3⟩, st⟩ := hw
  have so1 : fr [] svG m0 w.2 := so1
  unfold rfl_doFirst_154
  refine RP_w (mv_214 (m := mO w.2 [] [(164, upI (w.2.2 164) at' (if w.1 = 0 then 1 else 0))]) (by show 1 ≤ w.2.1 149; rw [fr1 so1 149 rfl, fr1 fm 149 rfl]; exact L0) (by show w.2.1 149 ≤ 40; rw [fr1 so1 149 rfl, fr1 fm 149 rfl]; exact L1)) (fun z hz => ?_)
  have fz := hz.2.2.1
  refine ⟨m0, w.1, w.2, ⟨fm, d0, fun j hj => r0 j hj⟩, hs, st, ⟨?_, ?_, ?_, ?_, ?_, ?_, ?_⟩, so1, so2, fun k hk' => ?_⟩
  · rw [fr2 fz 163 rfl]
    show w.2.2 163 = _
    rw [fr2 so1 163 rfl]
    exact e163
  · rw [fr2 fz 164 rfl]
    show upI (w.2.2 164) at' _ = _
    rw [fr2 so1 164 rfl, fr2 fm 164 rfl]
  · rw [fr2 fz 165 rfl]
    show w.2.2 165 = _
    rw [fr2 so1 165 rfl]
    exact e165
  · rw [fr2 fz 166 rfl]
    show w.2.2 166 = _
    rw [fr2 so1 166 rfl]
    exact e166
  · rw [fr2 fz 168 rfl]
    show w.2.2 168 = _
    rw [fr2 so1 168 rfl, fr2 fm 168 rfl]
  · rw [fr2 fz 169 rfl]
    show w.2.2 169 = _
    rw [fr2 so1 169 rfl]
  · rw [fr2 fz 138 rfl]
    show w.2.2 138 = _
    rw [fr2 so1 138 rfl, fr2 fm 138 rfl]
  · rw [fr2 fz k (chk_1 (l := tbL) rfl hk')]
    unfold tbL at hk'
    simp only [List.mem_cons, List.not_mem_nil, or_false] at hk'
    exact mO2_n (by omega)

def LNP (K M : mR) (q row : Int) : Prop := M.2 153 q = 0 → (K.2 92 row = M.2 154 q ∧ 0 ≤ M.2 154 q ∧ M.2 154 q ≤ 128) ∧ K.2 93 row = M.2 155 q ∧ ∀ i, 0 ≤ i → i < M.2 154 q → K.2 100 (65536 * row + i) = sbt (M.2 159 (128 * q + i)) ∧ 0 ≤ M.2 159 (128 * q + i) ∧ M.2 159 (128 * q + i) ≤ 255

def JX (K M : mR) (W E S : Int) (a x D : Int → Int) (HT : Int → Nat → Int → Int) (HW : Int → Int → Int) (HV : Int → mR) (HX : Int → XSt) (HU_nx : Int → Int → Int) : Prop := (∀ k, 139 ≤ k → k ≤ 144 → ∀ i, 0 ≤ i → HT E k i = M.2 k i) ∧ (∀ t, 0 ≤ t → t < M.1 26 → TOK t M ∧ TRm t M) ∧ PQg K M W E a x HT ∧ (∀ q, 0 ≤ q → q < M.1 149 → LNQ K M q ((E + q) % 128) ∧ LNP K M q ((E + q) % 128)) ∧ PKg K M W E D HT HW HV HX HU_nx ∧ (∀ p, 0 ≤ p → p < 512 → HW E p = M.2 138 p) ∧ VWw M ∧ ∀ k, 0 ≤ k → W - 64 ≤ k → k < W → OUTr K M (k % 128) S
set_option maxHeartbeats 1000000 in
theorem OUTr_K {r S : Int} {K' : mR} {F A : List Nat} (h : OUTr K M r S) (f : fr F A K K') (c : chk [91] A = true) (e : K'.2 92 r = K.2 92 r ∧ K'.2 98 r = K.2 98 r ∧ K'.2 99 r = K.2 99 r) (e100 : ∀ j, 0 ≤ j → j < 896 → K'.2 100 (65536 * r + j) = K.2 100 (65536 * r + j)) (e101 : ∀ j, 0 ≤ j → j ≤ 220 → K'.2 101 (65536 * r + j) = K.2 101 (65536 * r + j)) (e102 : ∀ j, 0 ≤ j → j < 48 → K'.2 102 (65536 * r + j) = K.2 102 (65536 * r + j)) : OUTr K' M r S := by
  obtain ⟨h1, h2, h3⟩ := h
  obtain ⟨e92, e98, e99⟩ := e
  have e91 : K'.2 91 = K.2 91 := fr2 f 91 (chk_1 c (by decide))
  unfold OUTr
  rw [e91, e98, e99, e92, e101 206 (by decide) (by decide)]
  refine ⟨h1, ?_, fun q s s0 s1 => by rw [e102 s s0 s1]; exact h3 q s s0 s1⟩
  rcases h2 with ⟨a1, a2, a3, a4, a5, a6⟩ | h2
  · refine Or.inl ⟨a1, a2, a3, a4, a5, fun i i0 i1 => ?_⟩
    rw [e100 i i0 (by omega)]
    exact a6 i i0 i1
  · exact Or.inr h2
set_option maxHeartbeats 1000000 in
theorem OUTr_M {r S : Int} {M' : mR} (h : OUTr K M r S) (e : SDE r M M') (e167 : M'.2 167 r = M.2 167 r) : OUTr K M' r S := by
  obtain ⟨h1, h2, h3⟩ := h
  obtain ⟨⟨e163, e164, e165, e166⟩, e168, e169⟩ := e
  unfold OUTr
  rw [e163, e164, e165, e166, e167]
  refine ⟨h1, ?_, fun q s s0 s1 => by rw [e169 s s0 s1]; exact h3 q s s0 s1⟩
  rcases h2 with ⟨a1, a2, a3, a4, a5, a6⟩ | h2
  · refine Or.inl ⟨a1, a2, a3, a4, a5, fun i i0 i1 => ?_⟩
    rw [e168 i i0 (by omega)]
    exact a6 i i0 i1
  · exact Or.inr h2
end PKD

section PKE9
variable {K K1 M m : mR} {W E C S : Int} {a x D : Int → Int} {HT : Int → Nat → Int → Int} {HW : Int → Int → Int} {HV : Int → mR} {HX : Int → XSt} {HU_nx : Int → Int → Int}

set_option maxHeartbeats 1000000 in
theorem LNP_K {q row : Int} (h : LNP K M q row) (e : K1.2 92 row = K.2 92 row ∧ K1.2 93 row = K.2 93 row) (e100 : ∀ j, 0 ≤ j → j < 128 → K1.2 100 (65536 * row + j) = K.2 100 (65536 * row + j)) : LNP K1 M q row := fun z => by
  obtain ⟨h1, h2, h3⟩ := h z
  refine ⟨by rw [e.1]; exact h1, by rw [e.2]; exact h2, fun i i0 i1 => ?_⟩
  rw [e100 i i0 (by omega)]
  exact h3 i i0 i1

set_option maxHeartbeats 1000000 in
theorem JX_m {F : List Nat} (h : JX K M W E S a x D HT HW HV HX HU_nx) (hG : ∀ t, 0 ≤ t → t < M.1 26 → GVQ t K M) (f : fr F [] M m) (c : chk (149 :: pgN) F = true) (cp : sbl F pgF = true) : JX K m W E S a x D HT HW HV HX HU_nx := by
  obtain ⟨h1, h2, h3, h4, h5, h6, h7, h8⟩ := h
  have em : m.2 = M.2 := funext (fun k => fr2 f k rfl)
  have c3 : chk pgN F = true := chk_s c rfl
  have e26 : m.1 26 = M.1 26 := fr1 f 26 (chk_1 c (by decide))
  have fp : fr pgF rA_doFirst M m := fr_s f fr_0 cp rfl
  refine ⟨by rw [em]; exact h1, fun t t0 t1 => ?_, PQg_M h3 hG fp, fun q q0 q1 => ?_, ?_, by rw [em]; exact h6, ?_, fun k k0 k1 k2 => ?_⟩
  · rw [e26] at t1
    have w := h2 t t0 t1
    unfold TOK TRm TRe at w ⊢
    rw [em]
    exact w
  · rw [fr1 f 149 (chk_1 c (by decide))] at q1
    obtain ⟨w1, w2⟩ := h4 q q0 q1
    refine ⟨LNQ_m w1 f (chk_s c rfl), ?_⟩
    unfold LNP at w2 ⊢
    rw [em]
    exact w2
  · obtain ⟨p1, p2⟩ := h5
    refine ⟨fun k q0 q1 => ⟨(p1 k q0 q1).1, ?_⟩, ?_⟩
    · have w := (p1 k q0 q1).2
      obtain ⟨w0, w⟩ := w
      refine ⟨by rw [em]; exact w0, ?_⟩
      rcases w with ⟨w1, w⟩ | ⟨w1, w⟩
      · refine Or.inl ⟨w1, ?_⟩
        rcases w with ⟨w2, w3⟩ | w
        · refine Or.inl ⟨?_, w3.1, fun t t0 t1 => ?_⟩
          · unfold PKa PKF at w2 ⊢
            rw [em]
            exact w2
          · rw [e26] at t1
            exact ⟨TQ1_m (w3.2 t t0 t1).1 f c3 rfl, (w3.2 t t0 t1).2⟩
        · unfold PKj at w ⊢
          rw [em]
          exact Or.inr w
      · refine Or.inr ⟨w1, ?_⟩
        obtain ⟨w2, w3, w4⟩ := w
        refine ⟨by rw [em]; exact w2, by rw [em]; exact w3, fun q => ?_⟩
        obtain ⟨m0, o, m9, s1, s2, s3, s4, s5⟩ := w4 q
        exact ⟨m0, o, m9, s1, PGq_t s2 (PGq_f f (chk_s c3 rfl) rfl), s3, s4, by rw [em]; exact s5⟩
    · rw [fr1 f 22 (chk_1 c (by decide))]
      exact p2
  · unfold VWw at h7 ⊢
    rw [em, fr1 f 22 (chk_1 c (by decide))]
    exact h7
  · have w := h8 k k0 k1 k2
    unfold OUTr at w ⊢
    rw [em]
    exact w

set_option maxHeartbeats 1000000 in
theorem JX_k {F A : List Nat} (h : JX K M W E S a x D HT HW HV HX HU_nx) (hG : ∀ t, 0 ≤ t → t < M.1 26 → GVQ t K M) (f : fr F A K K1) (c1 : chk [218, 219, 220, 221, 225] F = true) (c2 : sbl A [106] = true) : JX K1 M W E S a x D HT HW HV HX HU_nx := by
  have f' : fr F [106] K K1 := ⟨f.1, fun k hk => f.2 k (sbl_nin _ _ c2 k hk)⟩
  obtain ⟨h1, h2, h3, h4, h5, h6, h7, h8⟩ := h
  refine ⟨h1, h2, PQg_K h3 hG f' rfl, fun q q0 q1 => ?_, ?_, h6, h7, fun k k0 k1 k2 => ?_⟩
  · obtain ⟨w1, w2⟩ := h4 q q0 q1
    exact ⟨LNQ_K w1 f' rfl (fun i _ _ => by rw [fr2 f' 103 rfl, fr2 f' 104 rfl, fr2 f' 105 rfl]; exact ⟨rfl, rfl, rfl⟩), LNP_K w2 (by rw [fr2 f' 92 rfl, fr2 f' 93 rfl]; exact ⟨rfl, rfl⟩) (fun j _ _ => by rw [fr2 f' 100 rfl])⟩
  · obtain ⟨p1, p2⟩ := h5
    refine ⟨fun k q0 q1 => ⟨(p1 k q0 q1).1, OPp_f (p1 k q0 q1).2 f' c1 rfl ⟨by rw [fr2 f' 91 rfl, fr2 f' 92 rfl, fr2 f' 94 rfl, fr2 f' 95 rfl, fr2 f' 96 rfl, fr2 f' 97 rfl, fr2 f' 98 rfl]; exact ⟨rfl, rfl, rfl, rfl, rfl, rfl, rfl⟩, fun _ _ _ => by rw [fr2 f' 100 rfl], fun _ _ _ => by rw [fr2 f' 101 rfl], fun _ _ _ => by rw [fr2 f' 102 rfl], fun _ _ _ => by rw [fr2 f' 103 rfl, fr2 f' 104 rfl, fr2 f' 105 rfl]; exact ⟨rfl, rfl, rfl⟩⟩⟩, fun b b0 b1 => ?_⟩
    rw [hbA_f f' (chk_s c1 rfl) rfl, fr2 f' 71 rfl]
    exact p2 b b0 b1
  · exact OUTr_K (h8 k k0 k1 k2) f' rfl (by rw [fr2 f' 92 rfl, fr2 f' 98 rfl, fr2 f' 99 rfl]; exact ⟨rfl, rfl, rfl⟩) (fun _ _ _ => by rw [fr2 f' 100 rfl]) (fun _ _ _ => by rw [fr2 f' 101 rfl]) (fun _ _ _ => by rw [fr2 f' 102 rfl])

set_option maxHeartbeats 1000000 in
theorem JX_l {w : Int × mR} (hP : RPL K M) (h : JX K M W E (M.1 129) a x D HT HW HV HX HU_nx) (hG : ∀ t, 0 ≤ t → t < M.1 26 → GVQ t K M) (hE : W < E) (w0 : 0 ≤ W) (hL : E + M.1 149 - W ≤ 64) (L0 : 0 ≤ M.1 149) (ea : a = M.2 167) (hx : ∀ t, 0 ≤ t → t < M.1 26 → a (W % 128) < x t) (hD : D W = M.1 129) (hop : OPk K M (W % 128)) (hc : M.2 167 (W % 128) + M.1 129 = C) (hH : ∀ t, 0 ≤ t → t < M.1 26 → 0 ≤ homeK K t ∧ homeK K t < M.1 129) (hy : kf_op_leave (W % 128) C K = some w) : JX w.2 M (W + 1) E (M.1 129) a x D HT HW HV HX HU_nx := by
  obtain ⟨h1, h2, h3, h4, ⟨p1, p2⟩, h6, h7, h8⟩ := h
  obtain ⟨d0, op⟩ := p1 W (Int.le_refl _) hE
  rw [hD] at op
  obtain ⟨o1, o2, o3, o4⟩ := out_l hP op (fun q => (hH _ (hop.2 q).1 (hop.2 q).2).2) hc hy
  have rowe : ∀ k, W - 64 ≤ k → k < E + M.1 149 → k ≠ W → k % 128 ≠ W % 128 := fun k q0 q1 ne => by omega
  refine ⟨h1, h2, PQg_K (PQg_W h3 hE hx) hG o2 rfl, fun q q0 q1 => ?_, ⟨fun k q0 q1 => ⟨(p1 k (by omega) q1).1, ?_⟩, fun b b0 b1 => ?_⟩, h6, h7, fun k k0 k1 k2 => ?_⟩
  · have rn := rowe (E + q) (by omega) (by omega) (by omega)
    obtain ⟨w1, w2⟩ := h4 q q0 q1
    exact ⟨LNQ_K w1 o2 rfl (fun i _ _ => by rw [fr2 o2 103 rfl, fr2 o2 104 rfl, fr2 o2 105 rfl]; exact ⟨rfl, rfl, rfl⟩), LNP_K w2 ⟨(o3 _ rn).1, by rw [fr2 o2 93 rfl]⟩ (fun j j0 j1 => o4 _ (rw_o rn j0 (by omega)))⟩
  · have rn := rowe k (by omega) (by omega) (by omega)
    obtain ⟨e92, e98, -⟩ := o3 _ rn
    exact OPp_f (p1 k (by omega) q1).2 o2 rfl rfl ⟨⟨by rw [fr2 o2 91 rfl], e92, by rw [fr2 o2 94 rfl], by rw [fr2 o2 95 rfl], by rw [fr2 o2 96 rfl], by rw [fr2 o2 97 rfl], e98⟩, fun j j0 j1 => o4 _ (rw_o rn j0 (by omega)), fun _ _ _ => by rw [fr2 o2 101 rfl], fun _ _ _ => by rw [fr2 o2 102 rfl], fun _ _ _ => by rw [fr2 o2 103 rfl, fr2 o2 104 rfl, fr2 o2 105 rfl]; exact ⟨rfl, rfl, rfl⟩⟩
  · obtain ⟨n, ⟨⟨n0, n1⟩, n2, n3⟩, n4⟩ := p2 b b0 b1
    have hb := hbA_r (K := K) (M := M) (b := b) hP.2.2.1 hP.2.2.2.2.1.1
    rw [hbA_f o2 rfl rfl, fr2 o2 71 rfl]
    refine ⟨n, ⟨⟨?_, n1⟩, fun k q0 q1 => n2 k (by omega) q1, n3⟩, n4⟩
    rcases Int.lt_or_le W n with z | z
    · omega
    · have := n3 W (by omega) hE
      omega
  · by_cases ek : k = W
    · rw [ek]
      exact o1
    · have rn := rowe k (by omega) (by omega) ek
      obtain ⟨e92, e98, e99⟩ := o3 _ rn
      exact OUTr_K (h8 k k0 (by omega) (by omega)) o2 rfl ⟨e92, e98, e99⟩ (fun j j0 j1 => o4 _ (rw_o rn j0 (by omega))) (fun _ _ _ => by rw [fr2 o2 101 rfl]) (fun _ _ _ => by rw [fr2 o2 102 rfl])
end PKE9

def upH {α : Type} (H : Int → α) (n : Int) (v : α) : Int → α := fun k => if k = n then v else H k
section PKF9
variable {K m : mR} {W E C S : Int} {a x D : Int → Int} {HT : Int → Nat → Int → Int} {HW : Int → Int → Int} {HV : Int → mR} {HX : Int → XSt} {HU_nx : Int → Int → Int}
set_option maxHeartbeats 1000000 in
theorem upH_s {α : Type} {H : Int → α} {n : Int} {v : α} : upH H n v n = v := if_pos rfl
set_option maxHeartbeats 1000000 in
theorem upH_n {α : Type} {H : Int → α} {n k : Int} {v : α} (h : k ≠ n) : upH H n v k = H k := if_neg h
set_option maxHeartbeats 1000000 in
theorem PNO_c {M : mR} {T T0 : Nat → Int → Int} {r : Int} (h : PNO K M T r) (e : ∀ k, 139 ≤ k → k ≤ 144 → ∀ i, 0 ≤ i → T0 k i = T k i) : PNO K M T0 r := by
  obtain ⟨m0, o, m, p1, p⟩ := h
  exact ⟨m0, o, m, fun k k0 k1 i i0 => (p1 k k0 k1 i i0).trans (e k k0 k1 i i0).symm, p⟩
set_option maxHeartbeats 1000000 in
theorem TQ1_T {V M : mR} {T T0 : Nat → Int → Int} {t : Int} (t0 : 0 ≤ t) (h : TQ1 t V (wT M T)) (h51 : M.2 51 t ≤ 4) (h46 : ∀ a, 0 ≤ a → a < M.1 25 → M.2 46 a ≤ 4) (e : ∀ k, 139 ≤ k → k ≤ 144 → ∀ i, 0 ≤ i → T0 k i = T k i) : TQ1 t V (wT M T0) := by
  obtain ⟨h1, h2, h3, h4, -⟩ := h
  have w : ∀ (U : Nat → Int → Int) (k : Nat), 139 ≤ k → k ≤ 144 → (wT M U).2 k = U k := fun U k k0 k1 => if_pos ⟨k0, k1⟩
  have e139 := e 139 (by decide) (by decide) t t0
  rw [w T 139 (by decide) (by decide)] at h1 h2 h3 h4
  have h4 : ∀ e, 0 ≤ e → e < T 139 t → TR2 t e e V (wT M T) := h4
  refine ⟨?_, ?_, ?_, fun f f0 f1 => ?_, trivial⟩
  · rw [w T0 139 (by decide) (by decide), e139]; exact h1
  · rw [w T0 139 (by decide) (by decide), e139]; exact h2
  · rw [w T0 139 (by decide) (by decide), e139]; exact h3
  · rw [w T0 139 (by decide) (by decide), e139] at f1
    obtain ⟨r1, r2, r3, r4, r5⟩ := h4 f f0 f1
    have r4 : 0 ≤ T 141 (96 * t + f) ∧ T 141 (96 * t + f) < M.1 25 := r4
    have i141 := e 141 (by decide) (by decide) (96 * t + f) (by omega)
    refine ⟨fun i i0 i1 => ?_, ?_, ?_, ?_, fun i i0 i1 => ?_⟩
    · show V.2 85 _ = T0 142 _ ∧ V.2 86 _ = T0 143 _ ∧ and64 (T0 142 _) (T0 143 _) = T0 142 _
      rw [e 142 (by decide) (by decide) _ (by omega), e 143 (by decide) (by decide) _ (by omega)]
      exact r1 i i0 i1
    · show V.2 88 _ = T0 140 _
      rw [e 140 (by decide) (by decide) _ (by omega)]
      exact r2
    · show V.2 89 _ = T0 141 _
      rw [i141]
      exact r3
    · show 0 ≤ T0 141 _ ∧ T0 141 _ < M.1 25
      rw [i141]
      exact r4
    · have i1 : i < M.2 46 (T0 141 (96 * t + f)) := i1
      rw [i141] at i1
      show V.2 87 _ = T0 144 _ ∧ VW (T0 144 _) (M.2 49 (4 * T0 141 (96 * t + f) + i))
      rw [i141, e 144 (by decide) (by decide) _ (by omega)]
      exact r5 i i0 i1

set_option maxHeartbeats 1000000 in
theorem VPR_n {M' K' : mR} (hP : RPL K m) (hT : ∀ t, 0 ≤ t → t < m.1 26 → TOK t m ∧ TRm t m) (fK : fr [] enK K K') (fM : fr rF_doFirst rA_doFirst m M') (h1 : ∀ k, 139 ≤ k → k ≤ 144 → ∀ i, 0 ≤ i → HT E k i = m.2 k i) : VPR K' M' (vtb K m) (HT E) := by
  obtain ⟨hR, hl, hL, hU, hS, h26, hTB⟩ := hP
  have hA := hR.2.2.2.2.2.1.2.1
  refine ⟨?_, fun t t0 t1 => ?_⟩
  · rw [fr2 fK 39 rfl, fr2 fK 72 rfl, fr2 fK 74 rfl, fr2 fK 81 rfl, fr2 fK 84 rfl]
    exact ⟨rfl, rfl, rfl, rfl, rfl⟩
  · rw [fr1 fM 26 rfl] at t1
    obtain ⟨b1, b2, b3, b4, b5, b6, b7, b8⟩ := hTB t t0 t1
    obtain ⟨q1, q2⟩ := hT t t0 t1
    have Q : TQ1 t (vtb K m) m := vtb_Q t0 q1 q2 b2.2.2.1 b7 b8
    have Q1 : TQ1 t (vtb K m) (wT m m.2) := by
      have e : wT m m.2 = m := by
        unfold wT
        have : (fun k => if 139 ≤ k ∧ k ≤ 144 then m.2 k else m.2 k) = m.2 := by
          funext k
          split <;> rfl
        rw [this]
      rw [e]
      exact Q
    refine ⟨TQ1_m (TQ1_T t0 Q1 b2.2.2.1 (fun a a0 a1 => (hA a a0 a1).2.2.1.2.2) (fun k k0 k1 i i0 => h1 k k0 k1 i i0)) fM (by decide +kernel) (by decide +kernel), fun ks => ?_⟩
    rw [fr2 fK 73 rfl, fr2 fK 74 rfl, fr2 fK 83 rfl]
    obtain ⟨br, -, -⟩ := mtk_r (vtb K m) t ks ((vtb K m).2 78 t).toNat
    unfold lkK
    by_cases bn : (mtk (vtb K m) t ks ((vtb K m).2 78 t).toNat).1 = -1
    · rw [if_pos bn]
      exact Or.inl rfl
    · rw [if_neg bn]
      have k78 : (vtb K m).2 78 t = m.2 139 t := rfl
      have nb := q1.1
      obtain ⟨-, ⟨q, c0, c1, c2⟩, -⟩ := q2 (mtk (vtb K m) t ks ((vtb K m).2 78 t).toNat).1 (by omega) (by omega)
      obtain ⟨l1, l2⟩ := hl t t0 t1
      refine Or.inr ⟨q, c0, by omega, ?_⟩
      rw [l2 q c0 c1, c2]
      show _ = m.2 141 (96 * ((65536 * t + (mtk (vtb K m) t ks ((vtb K m).2 78 t).toNat).1) / 65536) + (65536 * t + (mtk (vtb K m) t ks ((vtb K m).2 78 t).toNat).1) % 65536)
      exact congrArg (m.2 141) (by omega)
set_option maxHeartbeats 1000000 in
theorem JX_e {w z : Int × mR} (hP : RPL K m) (h : JX K m W E S a x D HT HW HV HX HU_nx) (hG : ∀ t, 0 ≤ t → t < m.1 26 → GVQ t K m) (eE : m.1 150 = E) (e0 : 0 ≤ E ∧ E ≤ 1000000) (eC : m.1 152 = C) (L0 : 1 ≤ m.1 149) (L1 : m.1 149 ≤ 40) (w0 : 0 ≤ W) (hWE : W ≤ E ∧ E - W ≤ 12) (ea : a = m.2 167) (hx : ∀ t, 0 ≤ t → t < m.1 26 → x t ≤ C) (hH : ∀ t, 0 ≤ t → t < m.1 26 → 0 ≤ homeK K t) (hw : kf_op_enter (E % 128) K = some w) (hz : rf_doFirst m = some z) : ∃ X0, JX w.2 z.2 W (E + 1) S (upI a (E % 128) C) x (upH D E 0) (upH HT (E + 1) z.2.2) (upH HW (E + 1) (z.2.2 138)) (upH HV E (vtb K m)) (upH HX E X0) (upH HU_nx E (m.2 159)) := by
  obtain ⟨h1, h2, h3, h4, ⟨p1, p2⟩, h6, h7, h8⟩ := h
  obtain ⟨hR, hl, hL, hU, hS, h26, hTB⟩ := id hP
  obtain ⟨-, z167, fz⟩ := df_0 m z hz
  rw [eE, eC, Int.tmod_eq_emod_of_nonneg e0.1] at z167
  obtain ⟨l0, l0'⟩ := h4 0 (Int.le_refl _) (by omega)
  rw [Int.add_zero] at l0 l0'
  have hd : DFT m z := df2_0 L0 L1 (fun q => by
    obtain ⟨-, -, b⟩ := l0
    obtain ⟨⟨b1, b2, b3⟩, -, -, b4⟩ := b (by omega)
    refine ⟨GVQ_M (hG _ b2 b3), (h2 _ b2 b3).1, fun i i0 i1 => ?_⟩
    have w := (b4 i i0 i1).2
    rw [show 4 * 0 + i = i by omega] at w
    exact w) z hz
  obtain ⟨n1, n2, n3, n4⟩ := df_new hG h26 l0 hd (fun t t0 t1 => (h2 t t0 t1).1) fz
  have f1 : fr pgF rA_doFirst m z.2 := fr_s fz fr_0 (by decide +kernel) (by decide +kernel)
  have e26 : z.2.1 26 = m.1 26 := fr1 fz 26 (by decide +kernel)
  have e22 : z.2.1 22 = m.1 22 := fr1 fz 22 (by decide +kernel)
  have m22 := hR.2.2.2.2.2.1.1.2.2.2.2.1
  have c3 : chk pgN rF_doFirst = true := by decide +kernel
  have c4 : chk pgM rA_doFirst = true := by decide +kernel
 
  have key : ∃ X0, (fr [] enK K w.2 ∧ rowC 101 (E % 128) K w.2 ∧ rowC 102 (E % 128) K w.2 ∧ ∀ v, v ≠ E % 128 → w.2.2 94 v = K.2 94 v ∧ w.2.2 98 v = K.2 98 v) ∧ SDo (E % 128) m z.2 ∧ OPp w.2 z.2 (E % 128) 0 X0 (vtb K m) (m.2 159) (HW E) (z.2.2 138) (HT E) ∧ VWw z.2 ∧ ∀ t, 0 ≤ t → t < z.2.1 26 → TRm t z.2 := by
    by_cases hk : m.2 153 0 = 0
    ·
      have k91 : K.2 91 (E % 128) = 0 := l0.1.trans hk
      obtain ⟨q1, q2, q3⟩ := l0' hk
      have pk : PKw (E % 128) K m := ⟨k91, q1, q2, fun i i0 i1 => by
        have := q3 i i0 i1
        rw [show 128 * 0 + i = i by omega] at this
        exact this⟩
      obtain ⟨⟨⟨z163, sd⟩, pe⟩, c1, c2, c3', c4', c5⟩ := ent_p hR pk h7 h2 (by omega) (by rw [eE]) hk L0 L1 w z hw hz
      have tr : ∀ t, 0 ≤ t → t < z.2.1 26 → TRm t z.2 := fun t t0 t1 => by
        rw [e26] at t1
        obtain ⟨-, d⟩ := hd
        rcases d with ⟨-, d⟩ | ⟨d, -⟩
        · have q := (h2 t t0 t1).2
          unfold TRm TRe at q ⊢
          rw [d 139 (by decide), d 141 (by decide), d 142 (by decide), d 143 (by decide), d 144 (by decide), fr2 fz 46 (by decide +kernel), fr2 fz 49 (by decide +kernel), fr2 fz 51 (by decide +kernel), fr2 fz 53 (by decide +kernel), fr2 fz 114 (by decide +kernel)]
          exact q
        · omega
      have vwz : z.2.2 138 = m.2 138 → VWw z.2 := fun e => by
        unfold VWw at h7 ⊢
        rw [e, e22, fr2 fz 36 (by decide +kernel)]
        exact h7
      have o91 : w.2.2 91 (E % 128) = z.2.2 163 (E % 128) := by rw [fr2 c1 91 rfl, k91, z163]
      have k91' : w.2.2 91 (E % 128) = 0 := by rw [fr2 c1 91 rfl]; exact k91
      rcases pe with ⟨y98, s1, s2, s3⟩ | ⟨y98, s1, X0, ⟨x1, x2, x3⟩, s2, s3, s4⟩
      · exact ⟨fun _ _ => 0, ⟨c1, c2, c3', c4'⟩, sd, ⟨o91, Or.inl ⟨k91', Or.inr ⟨y98, s1, fun s s0 s1 => ⟨s2 s s0 s1, c5 s s0 s1⟩, fun p p0 p1 => by rw [s3]; exact (h6 p p0 p1).symm⟩⟩⟩, vwz s3, tr⟩
      · have e27 : m.1 27 = K.1 225 := hR.2.2.2.2.2.2.symm
        rw [e27] at s2 s3
        have cp : chk pgK enK = true := rfl
        refine ⟨X0, ⟨c1, c2, c3', c4'⟩, sd, ⟨o91, Or.inl ⟨k91', Or.inl ⟨⟨y98, ?_, ?_, x1, fun s s0 s1 => ?_, ?_, fun p p0 p1 => by rw [x3]; exact (h6 p p0 p1).symm, ?_⟩, VPR_n hP h2 c1 fz h1⟩⟩⟩, s4, tr⟩
        · rw [fr2 c1 92 rfl, q1.1]
          rw [q1.1] at s1
          exact ⟨s1.1, s1.2, q1.2.2⟩
        · intro i i0 i1
          rw [fr2 c1 92 rfl, q1.1] at i1
          rw [fr2 c1 100 rfl]
          exact pk.2.2.2 i i0 i1
        · show _ = X0 2 s
          rw [c5 s s0 s1, x2 s s0 s1]
        · unfold PKF at s2 ⊢
          rw [olq_f c1 cp, fr1 c1 218 rfl, fr1 c1 225 rfl, fr2 c1 92 rfl, stV_f c1 rfl]
          refine ⟨s2.1, ?_⟩
          rcases s2.2 with q | ⟨u1, u2, u3, u4, u5⟩
          · exact Or.inl q
          · exact Or.inr ⟨u1, u2, u3, u4, fun i i0 i1 => by rw [obt_f c1 cp]; exact u5 i i0 i1⟩
        · intro p p0 p1
          rw [fr1 c1 225 rfl, stV_f c1 rfl]
          exact s3 p p0 p1
    ·
      obtain ⟨b1, b2, b3⟩ := l0
      obtain ⟨⟨d1, d2, d3⟩, d4, d5, d6⟩ := b3 hk
      have k91 : K.2 91 (E % 128) ≠ 0 := by rw [b1]; exact hk
      have g0 := hG _ d2 d3
      obtain ⟨-, -, -, -, -, -, t7, t8⟩ := hTB _ d2 d3
      have opr : OPR m := fun i i0 i1 => by
        have w := (d6 i i0 i1).2
        rw [show 4 * 0 + i = i by omega] at w
        exact w
      obtain ⟨m0, o, m9, ⟨s0, s1, s2⟩, s3, s4, ⟨z163, z164, z165, z166, z168, z169, z138⟩, s5, s6, s7⟩ := dfe_r (M := m) (by omega) (by rw [eE]) (by omega) L0 L1 ⟨GVQ_M g0, (h2 _ d2 d3).1, opr, t7, (h2 _ d2 d3).2⟩ z hz
      unfold kf_op_enter at hw
      rw [if_neg k91] at hw
      have hw : w.2 = mO K [] [(98, upI (K.2 98) (E % 128) 0)] := by cases hw; rfl
      have c1 : fr [] enK K w.2 := by rw [hw]; exact fr_m fr_0 rfl rfl
      have c98 : fr [] [98] K w.2 := by rw [hw]; exact fr_m fr_0 rfl rfl
      have sd : SDo (E % 128) m z.2 := ⟨fun v hv => ⟨by rw [z163, upI_n hv], by rw [z164, upI_n hv], by rw [z165, upI_n hv], by rw [z166, upI_n hv]⟩, fun j _ => by rw [z168], fun j hj => by rw [z169]; exact s2 j hj⟩
      refine ⟨fun _ _ => 0, ⟨c1, fun j _ => by rw [fr2 c98 101 rfl], fun j _ => by rw [fr2 c98 102 rfl], fun v hv => ⟨by rw [fr2 c98 94 rfl], by rw [hw]; exact upI_n hv⟩⟩, sd, ⟨?_, Or.inr ⟨by rw [fr2 c98 91 rfl]; exact k91, ⟨by rw [z165, upI_s], by rw [z166, upI_s], fun p p0 p1 => by rw [z138]; exact (h6 p p0 p1).symm⟩, fun q => ?_, fun _ => ?_⟩⟩, ?_, fun t t0 t1 => ?_⟩
      · rw [fr2 c98 91 rfl, z163, upI_s]
        exact b1
      · have hm : homeK w.2 (w.2.2 95 (E % 128)) = homeK K (K.2 95 (E % 128)) := by
          rw [fr2 c98 95 rfl]
          exact home_c (fr1 c98 225 rfl) (fr2 c98 55 rfl) (fr2 c98 59 rfl)
        rw [hm, d1] at q
        have := hH _ d2 d3
        omega
      · refine ⟨m0, o, m9, fun k k0 k1 i i0 => ?_, ?_, ?_, ?_, ?_⟩
        · rw [h1 k k0 k1 i i0, fr2 s0 k (chk_1 (l := tbL) rfl (mem_tb k0 k1))]
        · rw [fr2 c98 95 rfl]
          exact PGq_t (PGq_f s0 rfl rfl) (PGq_f fz (by decide +kernel) (by decide +kernel))
        · refine ⟨?_, ?_, ?_, ?_, fun i i0 i1 => ?_⟩
          · rw [fr2 c98 91 rfl, fr2 s0 153 rfl]; exact b1
          · rw [fr2 c98 95 rfl, fr2 s0 156 rfl]; exact d1
          · rw [fr2 c98 96 rfl, fr2 s0 157 rfl]; exact d4
          · rw [fr2 c98 97 rfl, fr2 s0 158 rfl]; exact d5
          · rw [fr2 c98 103 rfl, fr2 c98 104 rfl, fr2 c98 105 rfl, fr2 s0 160 rfl, fr2 s0 161 rfl, fr2 s0 162 rfl]
            have w := d6 i i0 i1
            rw [show 4 * 0 + i = i by omega] at w
            exact w
        · rw [fr2 c98 95 rfl, fr2 c98 91 rfl, d1, b1]
          exact s3
        · rw [z164, upI_s]
      · unfold VWw at h7 ⊢
        rw [z138, e22, fr2 fz 36 (by decide +kernel)]
        exact h7
      · rw [e26] at t1
        obtain ⟨-, k2, -, -, -, -, k7, -⟩ := hTB t t0 t1
        have cz : TRm t m9 → TRm t z.2 := fun q => by
          unfold TRm TRe at q ⊢
          have s9 : fr [] (dpA ++ svG) m m9 := fr_s s5 (fr_s s0 fr_0 rfl (by decide +kernel)) rfl (by decide +kernel)
          rw [fr2 s9 46 rfl, fr2 s9 49 rfl, fr2 s9 51 rfl, fr2 s9 53 rfl, fr2 s9 114 rfl] at q
          rw [s7 139 (by decide), s7 141 (by decide), s7 142 (by decide), s7 143 (by decide), s7 144 (by decide), fr2 fz 46 (by decide +kernel), fr2 fz 49 (by decide +kernel), fr2 fz 51 (by decide +kernel), fr2 fz 53 (by decide +kernel), fr2 fz 114 (by decide +kernel)]
          exact q
        by_cases et : t = m.2 156 0
        · rw [et] at cz ⊢
          exact cz s4
        · refine cz (TRm_o (M := m0) d2 t0 ?_ s5 ?_ ?_ ?_ et s6)
          · have q := (h2 t t0 t1).2
            unfold TRm TRe at q ⊢
            rw [fr2 s0 139 rfl, fr2 s0 141 rfl, fr2 s0 142 rfl, fr2 s0 143 rfl, fr2 s0 144 rfl, fr2 s0 46 rfl, fr2 s0 49 rfl, fr2 s0 51 rfl, fr2 s0 53 rfl, fr2 s0 114 rfl]
            exact q
          · unfold LPm at k7 ⊢
            rw [fr2 s0 46 rfl, fr2 s0 49 rfl, fr2 s0 53 rfl, fr2 s0 114 rfl]
            exact k7
          · rw [fr2 s0 51 rfl]
            exact k2.2.2.1
          · rw [fr2 s0 139 rfl]
            have := (h2 t t0 t1).1.1.2
            omega
  obtain ⟨X0, ⟨c1, c101, c102, c94⟩, sd, op, vw, tr⟩ := key
  refine ⟨X0, ?_, fun t t0 t1 => ⟨n4 t t0 (by rw [e26] at t1; exact t1), tr t t0 t1⟩, ?_, fun q q0 q1 => ?_, ⟨fun k q0 q1 => ?_, fun b b0 b1 => ?_⟩, fun p p0 p1 => by rw [upH_s], vw, fun k k0 k1 k2 => ?_⟩
  · intro k k0 k1 i i0
    rw [upH_s]
  · have g := PQg_E (C := C) (T := z.2.2) h3 (by omega) hx n1 (fun t t0 t1 q => TEt_c t0 (n2 t t0 t1 q) h1) (fun q => PND_c (n3 q) h1)
    exact PQg_K (PQg_M g hG f1) (fun t t0 t1 => by
      rw [e26] at t1
      exact GVQ_f (hG t t0 t1) (fr_0 (u := []) (v := []) (x := K)) fz (by decide +kernel) (by decide +kernel) (by decide +kernel)) c1 rfl
  · obtain ⟨sh1, -, ⟨s3, s4, s5⟩, ⟨s6, s7, s8⟩, s9, s0, s1, s2⟩ := hd.1
    rw [sh1] at q1
    obtain ⟨w1, w2⟩ := h4 (q + 1) (by omega) (by omega)
    rw [show E + (q + 1) = E + 1 + q by omega] at w1 w2
    have rn : (E + 1 + q) % 128 ≠ E % 128 := by omega
    constructor
    · refine LNQ_K (K := K) ?_ c1 rfl (fun i _ _ => by rw [fr2 c1 103 rfl, fr2 c1 104 rfl, fr2 c1 105 rfl]; exact ⟨rfl, rfl, rfl⟩)
      unfold LNQ
      rw [s3.1 q q0 (by omega), s6.1 q q0 (by omega), s7.1 q q0 (by omega), s8.1 q q0 (by omega), e26]
      obtain ⟨v1, v2, v3⟩ := w1
      refine ⟨v1, v2, fun zz => ?_⟩
      obtain ⟨b1, b2, b3, b4⟩ := v3 zz
      refine ⟨b1, b2, b3, fun i i0 i1 => ?_⟩
      rw [s0.1 (4 * q + i) (by omega) (by omega), s1.1 (4 * q + i) (by omega) (by omega), s2.1 (4 * q + i) (by omega) (by omega), show 4 * q + i + 4 = 4 * (q + 1) + i by omega]
      exact b4 i i0 i1
    · refine LNP_K (K := K) ?_ (by rw [fr2 c1 92 rfl, fr2 c1 93 rfl]; exact ⟨rfl, rfl⟩) (fun j _ _ => by rw [fr2 c1 100 rfl])
      intro zz
      rw [s3.1 q q0 (by omega)] at zz
      obtain ⟨b1, b2, b3⟩ := w2 zz
      rw [s4.1 q q0 (by omega), s5.1 q q0 (by omega)]
      refine ⟨b1, b2, fun i i0 i1 => ?_⟩
      rw [s9.1 (128 * q + i) (by omega) (by omega), show 128 * q + i + 128 = 128 * (q + 1) + i by omega]
      exact b3 i i0 i1
  · by_cases ek : k = E
    · rw [ek, upH_s, upH_s, upH_s, upH_s, upH_n (show E ≠ E + 1 by omega), upH_s, upH_n (show E ≠ E + 1 by omega)]
      exact ⟨Int.le_refl _, op⟩
    · rw [upH_n ek, upH_n ek, upH_n ek, upH_n ek, upH_n (show k ≠ E + 1 by omega), upH_n (show k + 1 ≠ E + 1 by omega), upH_n (show k ≠ E + 1 by omega)]
      obtain ⟨d0, o⟩ := p1 k q0 (by omega)
      have rn : k % 128 ≠ E % 128 := by omega
      refine ⟨d0, OPp_m (OPp_f o c1 rfl rfl ⟨⟨by rw [fr2 c1 91 rfl], by rw [fr2 c1 92 rfl], (c94 _ rn).1, by rw [fr2 c1 95 rfl], by rw [fr2 c1 96 rfl], by rw [fr2 c1 97 rfl], (c94 _ rn).2⟩, fun _ _ _ => by rw [fr2 c1 100 rfl], fun j j0 j1 => c101 _ (rw_o rn j0 (by omega)), fun j j0 j1 => c102 _ (rw_o rn j0 (by omega)), fun _ _ _ => by rw [fr2 c1 103 rfl, fr2 c1 104 rfl, fr2 c1 105 rfl]; exact ⟨rfl, rfl, rfl⟩⟩) fz c3 c4 (SDE_o sd rn) (RPP_k hR c1 (fr_0 (u := []) (v := []) (x := m)) rfl rfl rfl rfl).2.2.2.2.1⟩
  · rw [e22] at b1
    obtain ⟨n, ⟨⟨q0, q1⟩, q2, q3⟩, q4⟩ := p2 b b0 b1
    rw [hbA_f c1 rfl rfl, fr2 c1 71 rfl]
    have hb := hbA_r (K := K) (M := m) (b := b) hL hS.1
    refine ⟨n, ⟨⟨q0, by omega⟩, fun k k0 k1 => by rw [upH_n (by omega)]; exact q2 k k0 k1, fun k k0 k1 => ?_⟩, fun i i0 i1 => by rw [upH_n (by omega)]; exact q4 i i0 i1⟩
    by_cases ek : k = E
    · rw [ek, upH_s]; omega
    · rw [upH_n ek]; exact q3 k k0 (by omega)
  · have rn : k % 128 ≠ E % 128 := by omega
    refine OUTr_M (M := m) (OUTr_K (h8 k k0 k1 k2) c1 rfl ⟨by rw [fr2 c1 92 rfl], (c94 _ rn).2, by rw [fr2 c1 99 rfl]⟩ (fun _ _ _ => by rw [fr2 c1 100 rfl]) (fun j j0 j1 => c101 _ (rw_o rn j0 (by omega))) (fun j j0 j1 => c102 _ (rw_o rn j0 (by omega)))) (SDE_o sd rn) (by rw [z167, upI_n rn])
end PKF9

def JR (K M : mR) : Prop := ∃ HT HW HV HX HU_nx, JX K M (M.1 151) (M.1 150) (M.1 129) (M.2 167) (fun t => M.1 152 - homeK K t) (fun k => M.1 152 - M.2 167 (k % 128)) HT HW HV HX HU_nx
section PKG9
variable {K M K' M' m : mR} {F A G C9 : List Nat}
set_option maxHeartbeats 1000000 in
theorem RPL_f (h : RPL K M) (fK : fr F A K K') (fM : fr G C9 M M') (c1 : chk [218, 219, 220, 221, 225] F = true) (c2 : chk (59 :: pgK) A = true) (c3 : chk (129 :: pgN) G = true) (c4 : chk pgM C9 = true) : RPL K' M' := by
  obtain ⟨h1, h2, h3, h4, h5, h6, h7⟩ := RPL_k h fK c1 c2
  have f0 : fr ([] : List Nat) ([] : List Nat) K' K' := fr_0
  have c3' : chk pgN G = true := chk_s c3 rfl
  have e26 : M'.1 26 = M.1 26 := fr1 fM 26 (chk_1 c3 (by decide))
  have e129 : M'.1 129 = M.1 129 := fr1 fM 129 (chk_1 c3 (by decide))
  refine ⟨RPP_k h1 f0 fM rfl rfl c3' c4, ?_, ?_, h4, by rw [e129]; exact h5, by rw [e26]; exact h6, fun t t0 t1 => TBp_k (h7 t t0 (by rw [e26] at t1; exact t1)) f0 fM rfl rfl c3' c4⟩
  · unfold LSm
    rw [e26, fr2 fM 53 (chk_1 c4 (by decide)), fr2 fM 114 (chk_1 c4 (by decide))]
    exact h2
  · unfold LYS
    rw [e129]
    exact h3
set_option maxHeartbeats 1000000 in
theorem stp_p {y : Int × mR} {W' : Int} (hP : RPL K M) (h225 : 0 ≤ K.1 225 ∧ K.1 225 ≤ 1000) (eS : K.1 226 = M.1 129) (hG : ∀ t, 0 ≤ t → t < M.1 26 → GVQ t K M) (hH : ∀ t, 0 ≤ t → t < M.1 26 → 0 ≤ homeK K t ∧ homeK K t < M.1 129) (hT : TMv (M.1 129) (M.1 152) (M.1 151) (M.1 150) (skp K) (M.2 167)) (hT' : TMv (M.1 129) (M.1 152 + 1) W' (M'.1 150) (skp y.2) (M'.2 167)) (L0 : 0 ≤ M.1 149) (L1 : M.1 149 ≤ 40) (e0 : M.1 150 ≤ 1000000) (k232 : K.1 232 = M.1 148) (k233 : K.1 233 = M.1 150) (k235 : K.1 235 = M.1 152) (m148 : M.1 150 + M.1 149 = M.1 148) (hrow : 0 < M.1 149 → 1 ≤ K.2 107 (M.1 150 % 128)) (hw : (W' = M.1 151 ∧ m = M) ∨ (W' = M.1 151 + 1 ∧ M.2 167 (M.1 151 % 128) + M.1 129 = M.1 152 ∧ M.1 151 < M.1 150 ∧ m = mO M [(151, W')] [])) (hm : (0 < m.1 149 ∧ ∃ z, rf_doFirst m = some z ∧ M' = mO z.2 [(152, M.1 152 + 1)] []) ∨ (m.1 149 ≤ 0 ∧ M' = mO m [(152, M.1 152 + 1)] [])) (hy : kf_pi_cycle K = some y) (h : JR K M) (eW : M'.1 151 = W') : JR y.2 M' := by
  obtain ⟨HT, HW, HV, HX, HU_nx, h⟩ := h
  obtain ⟨S1, S2⟩ := hP.2.2.2.2.1
  have h26 := hP.2.2.2.2.2.1
  have hT0 := hT
  obtain ⟨⟨w0, w1⟩, t2, -, t4⟩ := hT0
  obtain ⟨⟨v0, v1⟩, u2, -, u4⟩ := id hT'
  have f0 : fr [151] [] M m := by
    rcases hw with ⟨-, q⟩ | ⟨-, -, -, q⟩ <;> rw [q]
    · exact fr_0
    · exact fr_m fr_0 rfl rfl
  have em : m.2 = M.2 := funext (fun k => fr2 f0 k rfl)
  have m149 : m.1 149 = M.1 149 := fr1 f0 149 rfl
  have dEW : M.1 150 - M.1 151 ≤ 12 := by
    rcases Int.lt_or_le (M.1 151) (M.1 150) with q | q
    · have := t2 (M.1 151) (Int.le_refl _) q
      omega
    · omega
  obtain ⟨K1, K2, K3, e, hL, f12, hEn, hlp, ey⟩ := cy3_0 y hy
  rw [eS, cut_i (z := M.1 129 - 1) (by omega) (by omega)] at hL hlp
  have out := TMv_out hT S1
  have sk1 : kopi (K.2 106) (K.2 107) (M.1 129 - 1) = skp K (M.1 129 - 1) := rfl
 
  have ph1 : JX K1 m W' (M.1 150) (M.1 129) (M.2 167) (fun t => M.1 152 - homeK K t) (fun k => M.1 152 - M.2 167 (k % 128)) HT HW HV HX HU_nx ∧ fr [234] [92, 98, 99, 100] K K1 := by
    rw [sk1] at hL
    rcases hL with ⟨q, eK⟩ | ⟨q, w, hlv, eK⟩
    · have hw1 : W' = M.1 151 ∧ m = M := by
        rcases hw with z | ⟨-, z1, z2, -⟩
        · exact z
        · have := out.mpr ⟨z2, z1⟩
          omega
      rw [eK, hw1.1, hw1.2]
      exact ⟨h, fr_0⟩
    · obtain ⟨z2, z1⟩ := out.mp q
      have er : skp K (M.1 129 - 1) = M.1 151 % 128 := by
        have := (t2 _ (Int.le_refl _) z2).2.2
        rw [show M.1 152 - 1 - M.2 167 (M.1 151 % 128) = M.1 129 - 1 by omega] at this
        exact this
      rw [er, k235] at hlv
      have hw1 : W' = M.1 151 + 1 := by
        rcases hw with ⟨z, -⟩ | ⟨z, -⟩
        · exfalso
          have e9 : M'.2 167 (M.1 151 % 128) = M.2 167 (M.1 151 % 128) := by
            rcases hm with ⟨p, zz, hzz, eM⟩ | ⟨p, eM⟩
            · rw [eM]
              show zz.2.2 167 _ = _
              rw [(df_0 m zz hzz).2.1, fr1 f0 150 rfl, Int.tmod_eq_emod_of_nonneg (by omega), em, upI_n (by omega)]
            · rw [eM]
              show m.2 167 _ = _
              rw [em]
          have e150 : M.1 150 ≤ M'.1 150 := by
            rcases hm with ⟨p, zz, hzz, eM⟩ | ⟨p, eM⟩
            · rw [eM]
              show _ ≤ zz.2.1 150
              rw [(df_0 m zz hzz).1.2, fr1 f0 150 rfl, cut_i (by omega) (by omega)]
              omega
            · rw [eM]
              show _ ≤ m.1 150
              rw [fr1 f0 150 rfl]
              omega
          have := (u2 (M.1 151) (by omega) (by omega)).1
          rw [e9] at this
          omega
        · exact z
      have op := (h.2.2.1.1 (M.1 151) (Int.le_refl _) z2).1
      have J := JX_l hP h hG z2 w0 (by omega) L0 rfl (fun t t0 t1 => by
        have := hH t t0 t1
        show M.2 167 (M.1 151 % 128) < M.1 152 - homeK K t
        omega) (by show M.1 152 - M.2 167 (M.1 151 % 128) = M.1 129; omega) op z1 hH hlv
      have fl := u_kf_op_leave _ _ _ w hlv
      have fl : fr [] [92, 98, 99, 100] K w.2 := fr_s fl fr_0 (by decide +kernel) (by decide +kernel)
      have hGw : ∀ t, 0 ≤ t → t < M.1 26 → GVQ t w.2 M := fun t t0 t1 => GVQ_f (hG t t0 t1) fl (fr_0 (u := []) (v := []) (x := M)) rfl rfl rfl
      have f1 : fr [234] [] w.2 K1 := by rw [eK]; exact fr_m fr_0 rfl rfl
      have hGK1 : ∀ t, 0 ≤ t → t < M.1 26 → GVQ t K1 M := fun t t0 t1 => GVQ_f (hGw t t0 t1) f1 (fr_0 (u := []) (v := []) (x := M)) rfl rfl rfl
      rw [hw1]
      exact ⟨JX_m (JX_k J hGw f1 rfl rfl) hGK1 f0 rfl (by decide +kernel), fr_s f1 (fr_s fl fr_0 rfl rfl) rfl rfl⟩
  obtain ⟨J1, fK1⟩ := ph1
  have fK2 : fr [234] [92, 98, 99, 100, 106] K K2 := fr_s f12 (fr_s fK1 fr_0 rfl rfl) rfl rfl
  have hP2 : RPL K2 m := RPL_f hP fK2 f0 rfl rfl rfl rfl
  have hGK1 : ∀ t, 0 ≤ t → t < m.1 26 → GVQ t K1 m := fun t t0 t1 => GVQ_f (hG t t0 (by rw [fr1 f0 26 rfl] at t1; exact t1)) fK1 f0 rfl rfl rfl
  have hGK2 : ∀ t, 0 ≤ t → t < m.1 26 → GVQ t K2 m := fun t t0 t1 => GVQ_f (hG t t0 (by rw [fr1 f0 26 rfl] at t1; exact t1)) fK2 f0 rfl rfl rfl
  have J2 := JX_k J1 hGK1 f12 rfl rfl
  have e107 : K2.2 107 = K.2 107 := fr2 fK2 107 rfl
  have c232 : K2.1 232 = M.1 148 := (fr1 fK2 232 rfl).trans k232
  have c233 : K2.1 233 = M.1 150 := (fr1 fK2 233 rfl).trans k233
  have hWE : W' ≤ M.1 150 ∧ M.1 150 - W' ≤ 12 ∧ 0 ≤ W' := by
    rcases hw with ⟨q, -⟩ | ⟨q1, q2, q3, -⟩ <;> omega
  have hm0 : ∀ t, homeK K2 t = homeK K t := fun t => home_c (fr1 fK2 225 rfl) (fr2 fK2 55 rfl) (fr2 fK2 59 rfl)
 
  have ph2 : ∃ HT HW HV HX HU_nx D, JX K3 M' W' (M'.1 150) (M.1 129) (M'.2 167) (fun t => M.1 152 - homeK K t) D HT HW HV HX HU_nx ∧ (∀ k, W' ≤ k → k < M'.1 150 → D k = M.1 152 - M'.2 167 (k % 128)) ∧ fr [233, 234] [25, 92, 94, 98, 99, 100, 101, 102, 106] K K3 ∧ fr pgF rA_doFirst M M' ∧ M'.1 149 ≤ 40 := by
    have fp : fr pgF rA_doFirst M m := fr_s f0 fr_0 (by decide +kernel) rfl
    rcases hEn with ⟨q, f23⟩ | ⟨q1, q2⟩ | ⟨q, K2', w, f22, hent, eK3⟩
    · rcases hm with ⟨p, -⟩ | ⟨p, eM⟩
      · omega
      · have f1 : fr [152] [] m M' := by rw [eM]; exact fr_m fr_0 rfl rfl
        have hGK3 : ∀ t, 0 ≤ t → t < m.1 26 → GVQ t K3 m := fun t t0 t1 => GVQ_f (hGK2 t t0 t1) f23 (fr_0 (u := []) (v := []) (x := m)) rfl rfl rfl
        have J3 := JX_m (JX_k J2 hGK2 f23 rfl rfl) hGK3 f1 rfl (by decide +kernel)
        have e167 : M'.2 167 = M.2 167 := (fr2 f1 167 rfl).trans (by rw [em])
        have e150 : M'.1 150 = M.1 150 := (fr1 f1 150 rfl).trans (fr1 f0 150 rfl)
        refine ⟨HT, HW, HV, HX, HU_nx, _, by rw [e167, e150]; exact J3, fun k _ _ => by rw [e167], fr_s f23 (fr_s fK2 fr_0 rfl rfl) rfl rfl, fr_s f1 (fr_s fp fr_0 rfl rfl) (by decide +kernel) rfl, ?_⟩
        rw [fr1 f1 149 rfl, m149]
        exact L1
    · exfalso
      rw [c233, Int.tmod_eq_emod_of_nonneg (by omega), e107, kopn_p (hrow (by omega))] at q2
      omega
    · rcases hm with ⟨p, z, hz, eM⟩ | ⟨p, eM⟩
      · rw [c233, Int.tmod_eq_emod_of_nonneg (by omega), e107, kopn_p (hrow (by omega))] at hent
        have J3 := JX_k J2 hGK2 f22 rfl rfl
        have hP3 : RPL K2' m := RPL_k hP2 f22 rfl rfl
        have hGK3 : ∀ t, 0 ≤ t → t < m.1 26 → GVQ t K2' m := fun t t0 t1 => GVQ_f (hGK2 t t0 t1) f22 (fr_0 (u := []) (v := []) (x := m)) rfl rfl rfl
        have hm2 : ∀ t, homeK K2' t = homeK K t := fun t => (home_c (fr1 f22 225 rfl) (fr2 f22 55 rfl) (fr2 f22 59 rfl)).trans (hm0 t)
        rw [← em] at J3
        obtain ⟨X0, J4⟩ := JX_e (C := M.1 152) hP3 J3 hGK3 (fr1 f0 150 rfl) ⟨by omega, e0⟩ (fr1 f0 152 rfl) (by omega) (by omega) hWE.2.2 ⟨hWE.1, hWE.2.1⟩ rfl (fun t t0 t1 => by
          have := hH t t0 (by rw [fr1 f0 26 rfl] at t1; exact t1)
          show M.1 152 - homeK K t ≤ M.1 152
          omega) (fun t t0 t1 => by
          rw [hm2]
          exact (hH t t0 (by rw [fr1 f0 26 rfl] at t1; exact t1)).1) hent hz
        obtain ⟨⟨z149, z150⟩, z167, fz⟩ := df_0 m z hz
        have fw := u_kf_op_enter _ _ w hent
        have fw : fr [] enK K2' w.2 := fr_s fw fr_0 (by decide +kernel) (by decide +kernel)
        have fzz : fr pgF rA_doFirst m z.2 := fr_s fz fr_0 (by decide +kernel) (by decide +kernel)
        have hGw : ∀ t, 0 ≤ t → t < z.2.1 26 → GVQ t w.2 z.2 := fun t t0 t1 => GVQ_f (hGK3 t t0 (by rw [fr1 fz 26 (by decide +kernel)] at t1; exact t1)) fw fz (by decide +kernel) (by decide +kernel) (by decide +kernel)
        have f3 : fr [233] [] w.2 K3 := by rw [eK3]; exact fr_m fr_0 rfl rfl
        have f4 : fr [152] [] z.2 M' := by rw [eM]; exact fr_m fr_0 rfl rfl
        have hGw3 : ∀ t, 0 ≤ t → t < z.2.1 26 → GVQ t K3 z.2 := fun t t0 t1 => GVQ_f (hGw t t0 t1) f3 (fr_0 (u := []) (v := []) (x := z.2)) rfl rfl rfl
        have J5 := JX_m (JX_k J4 hGw f3 rfl rfl) hGw3 f4 rfl (by decide +kernel)
        have e150 : M'.1 150 = M.1 150 + 1 := by
          rw [fr1 f4 150 rfl, z150, fr1 f0 150 rfl, cut_i (by omega) (by omega)]
        have e167 : M'.2 167 = upI (m.2 167) (M.1 150 % 128) (M.1 152) := by
          rw [fr2 f4 167 rfl, z167, fr1 f0 150 rfl, fr1 f0 152 rfl, Int.tmod_eq_emod_of_nonneg (by omega)]
        refine ⟨_, _, _, _, _, _, by rw [e167, e150]; exact J5, fun k k0 k1 => ?_, ?_, ?_, ?_⟩
        · rw [e167]
          by_cases ek : k = M.1 150
          · rw [ek, upH_s, upI_s]
            omega
          · rw [upH_n ek, upI_n (by omega), em]
        · exact fr_s f3 (fr_s fw (fr_s f22 (fr_s fK2 fr_0 rfl rfl) rfl rfl) rfl (by decide +kernel)) rfl rfl
        · exact fr_s f4 (fr_s fzz (fr_s fp fr_0 (by decide +kernel) (by decide +kernel)) (by decide +kernel) (by decide +kernel)) (by decide +kernel) rfl
        · rw [fr1 f4 149 rfl, z149, m149, cut_i (by omega) (by omega)]
          omega
      · omega
  obtain ⟨HT', HW', HV', HX', HU', D', J3, hD', fK3, fM', L1'⟩ := ph2
 
  have hP3 : RPL K3 M' := RPL_f hP fK3 fM' rfl rfl (by decide +kernel) (by decide +kernel)
  have e26 : M'.1 26 = M.1 26 := fr1 fM' 26 (by decide +kernel)
  have e129 : M'.1 129 = M.1 129 := fr1 fM' 129 (by decide +kernel)
  have e22 : M'.1 22 = M.1 22 := fr1 fM' 22 (by decide +kernel)
  have hG3 : ∀ t, 0 ≤ t → t < M'.1 26 → GVQ t K3 M' := fun t t0 t1 => GVQ_f (hG t t0 (by rw [e26] at t1; exact t1)) fK3 fM' rfl (by decide +kernel) (by decide +kernel)
  have hm3 : ∀ t, homeK K3 t = homeK K t := fun t => home_c (fr1 fK3 225 rfl) (fr2 fK3 55 rfl) (fr2 fK3 59 rfl)
  obtain ⟨j1, j2, j3, j4, j5, j6, j7, j8⟩ := J3
  have dE : M'.1 150 - W' ≤ 12 := by
    rcases Int.lt_or_le W' (M'.1 150) with q | q
    · have := u2 W' (Int.le_refl _) q
      omega
    · omega
  have fe0 := uw_kfb_pi_cycle_133 (M.1 129 - 1) (0, K3) e hlp
  have skx : skp y.2 = skp K3 := by
    have e6 : y.2.2 106 = K3.2 106 := by rw [ey]; exact fr2 fe0 106 rfl
    have e7 : y.2.2 107 = K3.2 107 := by rw [ey]; exact fr2 fe0 107 rfl
    funext g
    unfold skp
    rw [e6, e7]
  rw [skx] at hT'
  have g3 : PQg K3 M' W' (M'.1 150) (M'.2 167) (fun t => xgD K3 (M.1 152) 0 t) HT' := PQg_x j3 (fun t t0 t1 => by
    have q := hH t t0 (by rw [e26] at t1; exact t1)
    unfold xgD
    rw [hm3, if_neg (by omega)])
  have a3 : PKg K3 M' W' (M'.1 150) (Dg (M.1 152) (M'.2 167) 0) HT' HW' HV' HX' HU' := PKg_D j5 (fun k q0 q1 => by
    rw [hD' k q0 q1]
    have := u2 k q0 q1
    unfold Dg
    rw [if_neg (by omega)])
  have L0' : 0 ≤ M'.1 149 ∨ M'.1 149 < 0 := by omega
  obtain ⟨⟨fe, ge, re⟩, pe, xe⟩ := lop_p (C := M.1 152) (S := M.1 129) (hi := M'.1 150 + 40) hP3 (by rw [fr1 fK3 225 rfl]; exact h225) e129.symm hG3 hT' (by omega) g3 a3 e hlp
  have fy : fr [235] [] e y.2 := by rw [ey]; exact fr_m fr_0 rfl rfl
  have hme : ∀ t, homeK y.2 t = homeK K t := fun t => ((home_c (fr1 fy 225 rfl) (fr2 fy 55 rfl) (fr2 fy 59 rfl)).trans (home_c (fr1 fe 225 rfl) (fr2 fe 55 rfl) (fr2 fe 59 rfl))).trans (hm3 t)
  have hGe : ∀ t, 0 ≤ t → t < M'.1 26 → GVQ t e M' := fun t t0 t1 => GVQ_f (hG3 t t0 t1) fe (fr_0 (u := []) (v := []) (x := M')) rfl rfl rfl
  have M152 : M'.1 152 = M.1 152 + 1 := by rcases hm with ⟨-, z, -, q⟩ | ⟨-, q⟩ <;> rw [q] <;> rfl
  have J4 : JX e M' W' (M'.1 150) (M.1 129) (M'.2 167) (fun t => xgD K3 (M.1 152) (M.1 129) t) (Dg (M.1 152) (M'.2 167) (M.1 129)) HT' HW' HV' HX' HU' := by
    refine ⟨j1, j2, ge, fun q q0 q1 => ?_, pe, j6, j7, fun k k0 k1 k2 => ?_⟩
    · obtain ⟨w1, w2⟩ := j4 q q0 q1
      exact ⟨LNQ_K w1 fe rfl (fun i i0 i1 => re (M'.1 150 + q) (by omega) (by omega) i i0 i1), LNP_K w2 (by rw [fr2 fe 92 rfl, fr2 fe 93 rfl]; exact ⟨rfl, rfl⟩) (fun j _ _ => by rw [fr2 fe 100 rfl])⟩
    · obtain ⟨x1, x2, x3⟩ := xe k k1 k2
      exact OUTr_K (j8 k k0 k1 k2) fe rfl ⟨by rw [fr2 fe 92 rfl], x1, by rw [fr2 fe 99 rfl]⟩ (fun _ _ _ => by rw [fr2 fe 100 rfl]) x2 x3
  have J5 := JX_k J4 hGe fy rfl rfl
  refine ⟨HT', HW', HV', HX', HU', ?_⟩
  rw [eW, e129]
  obtain ⟨q1, q2, q3, q4, q5, q6, q7, q8⟩ := J5
  refine ⟨q1, q2, PQg_x q3 (fun t t0 t1 => ?_), q4, PKg_D q5 (fun k k0 k1 => ?_), q6, q7, q8⟩
  · have q := hH t t0 (by rw [e26] at t1; exact t1)
    show M'.1 152 - homeK y.2 t = xgD K3 (M.1 152) (M.1 129) t
    unfold xgD
    rw [hme, hm3, if_pos (by omega), M152]
  · have := u2 k k0 k1
    show M'.1 152 - M'.2 167 (k % 128) = Dg (M.1 152) (M'.2 167) (M.1 129) k
    unfold Dg
    rw [if_pos (by omega), M152]
    omega
end PKG9
