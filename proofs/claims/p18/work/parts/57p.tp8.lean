/-! ===== a cycle of both, whole ===== -/
def PQx (K M : mR) (W E : Int) (a x : Int → Int) : Prop := ∃ HT : Int → Nat → Int → Int, (∀ k, 139 ≤ k → k ≤ 144 → ∀ i, 0 ≤ i → HT E k i = M.2 k i) ∧ (∀ t, 0 ≤ t → t < M.1 26 → TOK t M) ∧ PQg K M W E a x HT ∧ ∀ q, 0 ≤ q → q < M.1 149 → LNQ K M q ((E + q) % 128)
section TP8
variable {K M K' M' m : mR} {W E C S : Int} {a x x' : Int → Int}
theorem TEt_c {t : Int} {T T0 T' : Nat → Int → Int} (t0 : 0 ≤ t) (h : TEt t T T') (e : ∀ k, 139 ≤ k → k ≤ 144 → ∀ i, 0 ≤ i → T0 k i = T k i) : TEt t T0 T' := by
  obtain ⟨h1, h2, h3⟩ := h
  refine ⟨h1.trans (e 139 (by decide) (by decide) t t0).symm, fun j j0 j1 => ?_, fun j j0 j1 => ?_⟩
  · rw [e 140 (by decide) (by decide) j (by omega), e 141 (by decide) (by decide) j (by omega)]
    exact h2 j j0 j1
  · rw [e 142 (by decide) (by decide) j (by omega), e 143 (by decide) (by decide) j (by omega), e 144 (by decide) (by decide) j (by omega)]
    exact h3 j j0 j1
theorem PND_c {r : Int} {T T0 T' : Nat → Int → Int} (h : PNDc K M T T' r) (e : ∀ k, 139 ≤ k → k ≤ 144 → ∀ i, 0 ≤ i → T0 k i = T k i) : PNDc K M T0 T' r := by
  obtain ⟨m0, o, m, p1, p⟩ := h
  exact ⟨m0, o, m, fun k k0 k1 i i0 => (p1 k k0 k1 i i0).trans (e k k0 k1 i i0).symm, p⟩
theorem LNQ_K {q row : Int} {F A : List Nat} (h : LNQ K M q row) (f : fr F A K K') (c : chk [91, 95, 96, 97] A = true) (hr : ∀ i, 0 ≤ i → i < 4 → K'.2 103 (65536 * row + i) = K.2 103 (65536 * row + i) ∧ K'.2 104 (65536 * row + i) = K.2 104 (65536 * row + i) ∧ K'.2 105 (65536 * row + i) = K.2 105 (65536 * row + i)) : LNQ K' M q row := by
  obtain ⟨h1, h2, h3⟩ := h
  unfold LNQ
  rw [fr2 f 91 (chk_1 c (by decide)), fr2 f 95 (chk_1 c (by decide)), fr2 f 96 (chk_1 c (by decide)), fr2 f 97 (chk_1 c (by decide))]
  refine ⟨h1, h2, fun z => ?_⟩
  obtain ⟨b1, b2, b3, b4⟩ := h3 z
  refine ⟨b1, b2, b3, fun i i0 i1 => ?_⟩
  obtain ⟨q1, q2, q3⟩ := hr i i0 i1
  rw [q1, q2, q3]
  exact b4 i i0 i1
/-- the class's cycle -/
theorem cls_q {y : Int × mR} (h225 : 0 ≤ K.1 225 ∧ K.1 225 ≤ 1000) (hS : 1 ≤ S) (hS2 : S ≤ 12) (eS : K.1 226 = S) (hG : ∀ t, 0 ≤ t → t < M.1 26 → GVQ t K M) (h26 : M.1 26 ≤ 8) (h72 : ∀ t, 0 ≤ K.2 72 t ∧ K.2 72 t ≤ 4) (hH : ∀ t, 0 ≤ t → t < M.1 26 → 0 ≤ homeK K t ∧ homeK K t < S) (hT : TMv S (C + 1) W E (skp y.2) a) (L1 : M.1 149 ≤ 40) (hWE : W ≤ E ∧ E - W ≤ 12) (hx : ∀ t, 0 ≤ t → t < M.1 26 → x t = C - homeK K t) (hy : kf_pi_cycle K = some y) (h : PQx K M W E a x) : PQx y.2 M W E a (fun t => C + 1 - homeK y.2 t) := by
  obtain ⟨HT, h1, h2, h3, h4⟩ := h
  obtain ⟨K3, e, f3, hw, ey⟩ := cy2_0 y hy
  rw [eS, cut_i (z := S - 1) (by omega) (by omega)] at hw
  have hh3 : ∀ t, homeK K3 t = homeK K t := fun t => home_c (fr1 f3 225 rfl) (fr2 f3 55 rfl) (fr2 f3 59 rfl)
  have hG3 : ∀ t, 0 ≤ t → t < M.1 26 → GVQ t K3 M := fun t t0 t1 => GVQ_f (hG t t0 t1) f3 (fr_0 (u := []) (v := []) (x := M)) rfl rfl rfl
  have g3 : PQg K3 M W E a (fun t => xgD K3 C 0 t) HT := PQg_x (PQg_K h3 hG f3 rfl) (fun t t0 t1 => by
    have q := hH t t0 t1
    unfold xgD
    rw [hh3, if_neg (by omega), hx t t0 t1])
  have fe0 := uw_kfb_pi_cycle_133 (S - 1) (0, K3) e hw
  have sk : skp y.2 = skp K3 := by
    have e6 : y.2.2 106 = K3.2 106 := by rw [ey]; exact fr2 fe0 106 rfl
    have e7 : y.2.2 107 = K3.2 107 := by rw [ey]; exact fr2 fe0 107 rfl
    funext g
    unfold skp
    rw [e6, e7]
  rw [sk] at hT
  obtain ⟨fe, ge, re⟩ := lop_e (hi := E + 40) (by rw [fr1 f3 225 rfl]; exact h225) hS hS2 hG3 h26 (by rw [fr2 f3 72 rfl]; exact h72) hT (by omega) g3 e hw
  have fy : fr [235] [] e y.2 := by rw [ey]; exact fr_m fr_0 rfl rfl
  have hhe : ∀ t, homeK y.2 t = homeK K t := fun t => ((home_c (fr1 fy 225 rfl) (fr2 fy 55 rfl) (fr2 fy 59 rfl)).trans (home_c (fr1 fe 225 rfl) (fr2 fe 55 rfl) (fr2 fe 59 rfl))).trans (hh3 t)
  have hGe : ∀ t, 0 ≤ t → t < M.1 26 → GVQ t e M := fun t t0 t1 => GVQ_f (hG3 t t0 t1) fe (fr_0 (u := []) (v := []) (x := M)) rfl rfl rfl
  refine ⟨HT, h1, h2, PQg_x (PQg_K ge hGe fy rfl) (fun t t0 t1 => ?_), fun q q0 q1 => ?_⟩
  · have q := hH t t0 t1
    show C + 1 - homeK y.2 t = xgD K3 C S t
    unfold xgD
    rw [hhe, hh3, if_pos (by omega)]
  · refine LNQ_K (LNQ_K (LNQ_K (h4 q q0 q1) f3 rfl (fun i i0 i1 => ?_)) fe rfl (fun i i0 i1 => re (E + q) (by omega) (by omega) i i0 i1)) fy rfl (fun i _ _ => ?_)
    · rw [fr2 f3 103 rfl, fr2 f3 104 rfl, fr2 f3 105 rfl]
      exact ⟨rfl, rfl, rfl⟩
    · rw [fr2 fy 103 rfl, fr2 fy 104 rfl, fr2 fy 105 rfl]
      exact ⟨rfl, rfl, rfl⟩
/-- the line of a record with other counts -/
theorem LNQ_m {q row : Int} {F : List Nat} (h : LNQ K M q row) (f : fr F [] M M') (c : chk [26] F = true) : LNQ K M' q row := by
  unfold LNQ
  rw [fr2 f 153 rfl, fr2 f 156 rfl, fr2 f 157 rfl, fr2 f 158 rfl, fr2 f 160 rfl, fr2 f 161 rfl, fr2 f 162 rfl, fr1 f 26 (chk_1 c (by decide))]
  exact h
/-- the reference's cycle: one comes in, or none -/
theorem ref_q (hG : ∀ t, 0 ≤ t → t < m.1 26 → GVQ t K m) (h26 : m.1 26 ≤ 8) (eE : m.1 150 = E) (e0 : 0 ≤ E ∧ E ≤ 1000000) (eC : m.1 152 = C) (L0 : 0 ≤ m.1 149) (L1 : m.1 149 ≤ 40) (hWE : W ≤ E ∧ E - W ≤ 12) (hx : ∀ t, 0 ≤ t → t < m.1 26 → x t ≤ C) (hm : (0 < m.1 149 ∧ ∃ z, rf_doFirst m = some z ∧ M' = mO z.2 [(152, C + 1)] []) ∨ (m.1 149 ≤ 0 ∧ M' = mO m [(152, C + 1)] [])) (h : PQx K m W E (m.2 167) x) : PQx K M' W (M'.1 150) (M'.2 167) x ∧ fr pgF rA_doFirst m M' := by
  obtain ⟨HT, h1, h2, h3, h4⟩ := h
  rcases hm with ⟨p, z, hz, eM⟩ | ⟨p, eM⟩
  · obtain ⟨-, z167, fz⟩ := df_0 m z hz
    rw [eE, eC, Int.tmod_eq_emod_of_nonneg e0.1] at z167
    have l0 := h4 0 (Int.le_refl _) p
    rw [Int.add_zero] at l0
    have hd : DFT m z := df2_0 (by omega) L1 (fun q => by
      obtain ⟨-, -, b⟩ := l0
      obtain ⟨⟨b1, b2, b3⟩, -, -, b4⟩ := b (by omega)
      refine ⟨GVQ_M (hG _ b2 b3), h2 _ b2 b3, fun i i0 i1 => ?_⟩
      have w := (b4 i i0 i1).2
      rw [show 4 * 0 + i = i by omega] at w
      exact w) z hz
    obtain ⟨n1, n2, n3, n4⟩ := df_new hG h26 l0 hd h2 fz
    have f1 : fr pgF rA_doFirst m M' := by
      rw [eM]
      exact fr_m (fr_s fz fr_0 (by decide +kernel) (by decide +kernel)) rfl rfl
    have e150 : M'.1 150 = E + 1 := by
      rw [eM]
      show z.2.1 150 = _
      rw [hd.1.2.1, eE, cut_i (by omega) (by omega)]
    have e149 : M'.1 149 = m.1 149 - 1 := by
      rw [eM]
      exact hd.1.1
    have e167 : M'.2 167 = upI (m.2 167) (E % 128) C := by
      rw [eM]
      exact z167
    have e26 : M'.1 26 = m.1 26 := fr1 f1 26 rfl
    have g := PQg_E (C := C) (T := z.2.2) h3 (by omega) hx n1 (fun t t0 t1 q => TEt_c t0 (n2 t t0 t1 q) h1) (fun q => PND_c (n3 q) h1)
    rw [e150, e167]
    refine ⟨⟨_, fun k k0 k1 i _ => ?_, fun t t0 t1 => ?_, PQg_M g hG f1, fun q q0 q1 => ?_⟩, f1⟩
    · show (if E + 1 = E + 1 then z.2.2 else HT (E + 1)) k i = _
      rw [if_pos rfl, eM]
      rfl
    · rw [e26] at t1
      have w := n4 t t0 t1
      rw [eM]
      exact w
    · have w := h4 (q + 1) (by omega) (by omega)
      rw [show E + (q + 1) = E + 1 + q by omega] at w
      obtain ⟨-, -, ⟨s3, -, -⟩, ⟨s6, s7, s8⟩, -, s0, s1, s2⟩ := hd.1
      have r3 : M'.2 153 q = m.2 153 (q + 1) := by rw [eM]; exact s3.1 q q0 (by omega)
      have r6 : M'.2 156 q = m.2 156 (q + 1) := by rw [eM]; exact s6.1 q q0 (by omega)
      have r7 : M'.2 157 q = m.2 157 (q + 1) := by rw [eM]; exact s7.1 q q0 (by omega)
      have r8 : M'.2 158 q = m.2 158 (q + 1) := by rw [eM]; exact s8.1 q q0 (by omega)
      unfold LNQ
      rw [r3, r6, r7, r8, e26]
      obtain ⟨w1, w2, w3⟩ := w
      refine ⟨w1, w2, fun zz => ?_⟩
      obtain ⟨b1, b2, b3, b4⟩ := w3 zz
      refine ⟨b1, b2, b3, fun i i0 i1 => ?_⟩
      have x0 : M'.2 160 (4 * q + i) = m.2 160 (4 * (q + 1) + i) := by
        rw [eM, show 4 * (q + 1) + i = 4 * q + i + 4 by omega]
        exact s0.1 (4 * q + i) (by omega) (by omega)
      have x1 : M'.2 161 (4 * q + i) = m.2 161 (4 * (q + 1) + i) := by
        rw [eM, show 4 * (q + 1) + i = 4 * q + i + 4 by omega]
        exact s1.1 (4 * q + i) (by omega) (by omega)
      have x2 : M'.2 162 (4 * q + i) = m.2 162 (4 * (q + 1) + i) := by
        rw [eM, show 4 * (q + 1) + i = 4 * q + i + 4 by omega]
        exact s2.1 (4 * q + i) (by omega) (by omega)
      rw [x0, x1, x2]
      exact b4 i i0 i1
  · have f1 : fr [152] [] m M' := by rw [eM]; exact fr_m fr_0 rfl rfl
    have f2 : fr pgF rA_doFirst m M' := fr_s f1 fr_0 (by decide +kernel) rfl
    rw [fr1 f1 150 rfl, fr2 f1 167 rfl, eE]
    refine ⟨⟨HT, fun k k0 k1 i i0 => ?_, fun t t0 t1 => ?_, PQg_M h3 hG f2, fun q q0 q1 => ?_⟩, f2⟩
    · rw [h1 k k0 k1 i i0, eM]
      rfl
    · rw [fr1 f1 26 rfl] at t1
      have w := h2 t t0 t1
      rw [eM]
      exact w
    · rw [fr1 f1 149 rfl] at q1
      omega
/-- both -/
theorem stp_q {y : Int × mR} {W' : Int} (h225 : 0 ≤ K.1 225 ∧ K.1 225 ≤ 1000) (hS : 1 ≤ S) (hS2 : S ≤ 12) (eS : K.1 226 = S) (hG : ∀ t, 0 ≤ t → t < M.1 26 → GVQ t K M) (h26 : M.1 26 ≤ 8) (h72 : ∀ t, 0 ≤ K.2 72 t ∧ K.2 72 t ≤ 4) (hH : ∀ t, 0 ≤ t → t < M.1 26 → 0 ≤ homeK K t ∧ homeK K t < S) (hT : TMv S (M.1 152) (M.1 151) (M.1 150) (skp K) (M.2 167)) (hT' : TMv S (M.1 152 + 1) W' (M'.1 150) (skp y.2) (M'.2 167)) (L0 : 0 ≤ M.1 149) (L1 : M.1 149 ≤ 40) (e0 : M.1 150 ≤ 1000000) (hw : (W' = M.1 151 ∧ m = M) ∨ (W' = M.1 151 + 1 ∧ M.2 167 (M.1 151 % 128) + S = M.1 152 ∧ M.1 151 < M.1 150 ∧ m = mO M [(151, W')] [])) (hm : (0 < m.1 149 ∧ ∃ z, rf_doFirst m = some z ∧ M' = mO z.2 [(152, M.1 152 + 1)] []) ∨ (m.1 149 ≤ 0 ∧ M' = mO m [(152, M.1 152 + 1)] [])) (hy : kf_pi_cycle K = some y) (h : PQ20 K M) (eW : M'.1 151 = W') : PQ20 y.2 M' := by
  have hT0 := hT
  obtain ⟨⟨w0, w1⟩, t2, -, -⟩ := hT0
  have f0 : fr [151] [] M m := by
    rcases hw with ⟨-, q⟩ | ⟨-, -, -, q⟩ <;> rw [q]
    · exact fr_0
    · exact fr_m fr_0 rfl rfl
  have fp : fr pgF rA_doFirst M m := fr_s f0 fr_0 (by decide +kernel) rfl
  have m26 : m.1 26 = M.1 26 := fr1 f0 26 rfl
  have m149 : m.1 149 = M.1 149 := fr1 f0 149 rfl
  have hGm : ∀ t, 0 ≤ t → t < m.1 26 → GVQ t K m := fun t t0 t1 => by
    rw [m26] at t1
    exact GVQ_f (hG t t0 t1) (fr_0 (u := []) (v := []) (x := K)) f0 rfl rfl rfl
  have dEW : M.1 150 - M.1 151 ≤ 12 := by
    rcases Int.lt_or_le (M.1 151) (M.1 150) with q | q
    · have := t2 (M.1 151) (Int.le_refl _) q
      omega
    · omega
  have px : PQx K m W' (M.1 150) (m.2 167) (fun t => M.1 152 - homeK K t) := by
    obtain ⟨HT, h1, h2, h3, h4⟩ := h
    have em : m.2 = M.2 := funext (fun k => fr2 f0 k rfl)
    rw [em]
    refine ⟨HT, fun k k0 k1 i i0 => by rw [em]; exact h1 k k0 k1 i i0, fun t t0 t1 => ?_, ?_, fun q q0 q1 => LNQ_m (h4 q q0 (by rw [m149] at q1; exact q1)) f0 rfl⟩
    · rw [m26] at t1
      have w := h2 t t0 t1
      unfold TOK at w ⊢
      rw [em]
      exact w
    · have g := PQg_M h3 hG fp
      rcases hw with ⟨q, -⟩ | ⟨q1, q2, q3, -⟩
      · rw [q]
        exact g
      · rw [q1]
        refine PQg_W g q3 (fun t t0 t1 => ?_)
        rw [m26] at t1
        have := hH t t0 t1
        show M.2 167 (M.1 151 % 128) < M.1 152 - homeK K t
        omega
  have hW' : W' ≤ M.1 150 ∧ M.1 150 - W' ≤ 12 := by
    rcases hw with ⟨q, -⟩ | ⟨q1, q2, q3, -⟩ <;> omega
  obtain ⟨pr, fm⟩ := ref_q (C := M.1 152) hGm (by rw [m26]; exact h26) (fr1 f0 150 rfl) ⟨by omega, e0⟩ (fr1 f0 152 rfl) (by omega) (by omega) hW' (fun t t0 t1 => by
    rw [m26] at t1
    have := hH t t0 t1
    show M.1 152 - homeK K t ≤ M.1 152
    omega) hm px
  have fM : fr pgF rA_doFirst M M' := fr_s fm (fr_s fp fr_0 (by decide +kernel) (by decide +kernel)) (by decide +kernel) (by decide +kernel)
  have M26 : M'.1 26 = M.1 26 := fr1 fM 26 rfl
  have hGM : ∀ t, 0 ≤ t → t < M'.1 26 → GVQ t K M' := fun t t0 t1 => by
    rw [M26] at t1
    exact GVQ_f (hG t t0 t1) (fr_0 (u := []) (v := []) (x := K)) fM rfl rfl rfl
  have hT1 := hT'
  obtain ⟨⟨v0, v1⟩, u2, -, -⟩ := hT1
  have M152 : M'.1 152 = M.1 152 + 1 := by rcases hm with ⟨-, z, -, q⟩ | ⟨-, q⟩ <;> rw [q] <;> rfl
  have L1' : M'.1 149 ≤ 40 := by
    rcases hm with ⟨q, z, hz, eM⟩ | ⟨q, eM⟩
    · have w : M'.1 149 = cut (m.1 149 - 1) := by
        rw [eM]
        exact (df_0 m z hz).1.1
      rw [w, cut_i (by omega) (by omega)]
      omega
    · have w : M'.1 149 = m.1 149 := by rw [eM]; rfl
      omega
  have dE : M'.1 150 - W' ≤ 12 := by
    rcases Int.lt_or_le W' (M'.1 150) with q | q
    · have := u2 W' (Int.le_refl _) q
      omega
    · omega
  have pc := cls_q (C := M.1 152) h225 hS hS2 eS hGM (by rw [M26]; exact h26) h72 (fun t t0 t1 => hH t t0 (by rw [M26] at t1; exact t1)) hT' L1' ⟨v1, dE⟩ (fun t _ _ => rfl) hy pr
  show PQx y.2 M' (M'.1 151) (M'.1 150) (M'.2 167) (fun t => M'.1 152 - homeK y.2 t)
  rw [eW, M152]
  exact pc
end TP8
