/-! ===== an entry comes; what an operation on entries does ===== -/
section TQ8
variable {K M K' M' : mR} {t r : Int}
theorem bucket_b {e : Int} (r0 : 1 ≤ M.2 54 t) (r1 : M.2 54 t ≤ 16) : RP (rf_bucket t e M) (fun z => 0 ≤ z ∧ z ≤ 15) := by
  unfold rf_bucket
  refine RP_bndT (fun a => ?_)
  unfold rfl_bucket_61
  rw [cut_i (z := M.2 54 t - 1) (by omega) (by omega)]
  obtain ⟨k, k1, k2⟩ := an_n (x := cut (xor64 (xor64 a (ushr64 a 20)) (ushr64 a 7))) (n := (M.2 54 t - 1).toNat) (by omega)
  rw [show (((M.2 54 t - 1).toNat : Nat) : Int) = M.2 54 t - 1 by omega] at k2
  rw [k2]
  exact RP_some ⟨by omega, by omega⟩
def abB (t : Int) (M : mR) (u : Int × Int × mR) : Prop := (0 ≤ u.2.1 ∧ u.2.1 ≤ M.2 139 t) ∧ fr [] [170] M u.2.2 ∧ (∀ b, 0 ≤ b → b < 16 → 0 ≤ u.2.2.2 170 b ∧ u.2.2.2 170 b ≤ u.2.1) ∧ u.1 + smm (u.2.2.2 170) (M.2 55 t) 16 = u.2.1 ∧ 0 ≤ u.1 ∧ u.1 ≤ u.2.1
/-- of many entries some are above -/
theorem above_b (r0 : 1 ≤ M.2 54 t) (h58 : M.2 58 t ≠ 0) (r1 : M.2 54 t ≤ 16) (y0 : 0 ≤ M.2 55 t) (n0 : 0 ≤ M.2 139 t) (n1 : M.2 139 t ≤ 73) : RP (rf_above t M) (fun z => fr [] [170] M z.2 ∧ M.2 139 t ≤ z.1 + 16 * M.2 55 t) := by
  unfold rf_above
  rw [if_neg h58]
  refine RP_bnd fill170_r (fun z hz => ?_)
  obtain ⟨d1, d2⟩ := hz
  unfold rfl_above_32
  refine RP_bnd (P := fun e => fr [] [170] M e.2 ∧ M.2 139 t ≤ e.1 + 16 * M.2 55 t) (RP_whl (I := abB t M) (fun u hu => ?_) ⟨⟨Int.le_refl _, n0⟩, d1, fun b b0 b1 => ⟨by show 0 ≤ z.2 170 b; rw [d2 b b0 b1]; exact Int.le_refl _, by show z.2 170 b ≤ 0; rw [d2 b b0 b1]; exact Int.le_refl _⟩, by show 0 + smm (z.2 170) (M.2 55 t) 16 = 0; rw [smm_0 y0 16 d2]; rfl, Int.le_refl _, Int.le_refl _⟩) (fun e he => RP_some he)
  obtain ⟨⟨i3, i4⟩, i6, i8, i9, i10, i11⟩ := hu
  unfold rfb_above_36
  rw [show u.2.2.2 139 = M.2 139 from fr2 i6 139 rfl]
  refine RP_ite (fun q => RP_some ?_) (fun q => ?_)
  · refine ⟨i6, ?_⟩
    have w := smm_le (f := u.2.2.2 170) (w := M.2 55 t) y0 16
    have w : smm (u.2.2.2 170) (M.2 55 t) 16 ≤ 16 * M.2 55 t := w
    show M.2 139 t ≤ u.1 + 16 * M.2 55 t
    omega
  · refine RP_bnd (bucket_b (M := u.2.2) (t := t) (e := u.2.1) (by rw [show u.2.2.2 54 = M.2 54 from fr2 i6 54 rfl]; exact r0) (by rw [show u.2.2.2 54 = M.2 54 from fr2 i6 54 rfl]; exact r1)) (fun b hb => ?_)
    obtain ⟨b0, b1⟩ := hb
    obtain ⟨c2, c3⟩ := i8 b b0 (by omega)
    rw [upI_s, show u.2.2.2 55 = M.2 55 from fr2 i6 55 rfl, cut_i (z := u.2.2.2 170 b + 1) (by omega) (by omega)]
    have su := smm_u (f := u.2.2.2 170) (w := M.2 55 t) b0 (n := 16) (by omega)
    have fin : ∀ x : Int, x = u.1 + (if u.2.2.2 170 b + 1 ≤ M.2 55 t then 0 else 1) → abB t M (x, u.2.1 + 1, mO u.2.2 [] [(170, upI (u.2.2.2 170) b (u.2.2.2 170 b + 1))]) := fun x hx => by
      refine ⟨⟨show 0 ≤ u.2.1 + 1 by omega, show u.2.1 + 1 ≤ M.2 139 t by omega⟩, fr_m i6 rfl rfl, fun b2 b20 b21 => ?_, ?_, ?_⟩
      · show 0 ≤ upI (u.2.2.2 170) b (u.2.2.2 170 b + 1) b2 ∧ upI (u.2.2.2 170) b (u.2.2.2 170 b + 1) b2 ≤ u.2.1 + 1
        by_cases e : b2 = b
        · rw [e, upI_s]
          omega
        · rw [upI_n e]
          obtain ⟨g2, g3⟩ := i8 b2 b20 b21
          omega
      · show x + smm (upI (u.2.2.2 170) b (u.2.2.2 170 b + 1)) (M.2 55 t) 16 = u.2.1 + 1
        rw [su, hx]
        by_cases z : u.2.2.2 170 b + 1 ≤ M.2 55 t
        · rw [if_pos z, if_pos z]; omega
        · rw [if_neg z, if_neg z]; omega
      · show 0 ≤ x ∧ x ≤ u.2.1 + 1
        rw [hx]
        by_cases z : u.2.2.2 170 b + 1 ≤ M.2 55 t
        · rw [if_pos z]; omega
        · rw [if_neg z]; omega
    unfold rfl_above_87
    rw [cut_i (z := u.2.1 + 1) (by omega) (by omega), cut_i (z := u.1 + 0) (by omega) (by omega), cut_i (z := u.1 + 1) (by omega) (by omega)]
    refine RP_ite (fun z => RP_some (fin _ (by rw [if_pos z]))) (fun z => RP_some (fin _ (by rw [if_neg z])))
theorem k126_0 (m : mR) : kfl_tb_append_126 t 0 m = some (1, mO m [] [(78, upI (m.2 78) t (cut (m.2 78 t + 1)))]) := by
  unfold kfl_tb_append_126 kfl_tb_append_141 kfl_tb_append_154
  rw [if_pos rfl, if_pos rfl]
theorem k126_1 (m : mR) : kfl_tb_append_126 t 1 m = some (0, mO m [] [(78, upI (m.2 78) t (cut (m.2 78 t + 0)))]) := by
  unfold kfl_tb_append_126 kfl_tb_append_141 kfl_tb_append_154
  rw [if_neg (show ¬ (1 : Int) = 0 by decide), if_neg (show ¬ (1 : Int) = 0 by decide)]
/-- the row is counted in both: action and data are put -/
theorem cm_ok {n a : Int} {K1 Ka Kb M3 M4 : mR} {y : Int × mR} (hG : GVQ t K M) (hQ : TQ t K M) (hO : OCQ t r K M) (hn : M.2 139 t = n) (n1 : n < 72) (ha : M.2 158 0 = a) (a0 : 0 ≤ a) (a1 : a < M.1 25) (ns : ∀ e, 0 ≤ e → e < n → ¬ sqM t e M) (hK : NRK t r n K K1) (hM : NRM t n a M M3) (hr : M.2 58 t = 0 → n + 1 ≤ M.2 54 t) (f4 : fr [] [170] M3 M4) (ka : fr [] [90] K1 Ka) (kb : Kb = mO Ka [] [(78, upI (Ka.2 78) t (n + 1))]) (hy : kfl_tb_serve_133 t r n Kb = some y) : SV t r K M y (1, M4) := by
  have hG0 := hG
  obtain ⟨⟨t0, t1⟩, hB, hP, ⟨h25, h25b⟩, -⟩ := hG0
  obtain ⟨c1, c2, c3, c4⟩ := hP a a0 a1
  have hQ0 := hQ
  obtain ⟨q1, ⟨q2, q3⟩, -⟩ := hQ0
  have hO0 := hO
  obtain ⟨o1, o2, o3, o4⟩ := hO0
  have hK0 := hK
  obtain ⟨r1, r2, r3, r4⟩ := hK0
  have hM0 := hM
  obtain ⟨m1, m2, m3, m4, -⟩ := hM0
  have fb : fr [] [78, 85, 86, 88, 90] K Kb := by
    rw [kb]
    exact fr_m (fr_s ka (fr_s r1 fr_0 rfl rfl) rfl rfl) rfl rfl
  have fb1 : fr [] [78, 90] K1 Kb := by
    rw [kb]
    exact fr_m (fr_s ka fr_0 rfl rfl) rfl rfl
  have b78 : Kb.2 78 = upI (K.2 78) t (n + 1) := by
    rw [kb]
    show upI (Ka.2 78) t (n + 1) = _
    rw [show Ka.2 78 = K1.2 78 from fr2 ka 78 rfl, show K1.2 78 = K.2 78 from fr2 r1 78 rfl]
  obtain ⟨y1, -, p2, p3, p4, p5⟩ := put_k (K := Kb) (t := t) (r := r) (e := n) (a := a) (by rw [show Kb.2 97 = K.2 97 from fr2 fb 97 rfl]; exact o2.trans ha) a0 (by omega) (by omega) (by omega) (by rw [show Kb.2 39 = K.2 39 from fr2 fb 39 rfl]; omega) (by rw [show Kb.2 39 = K.2 39 from fr2 fb 39 rfl]; omega) (fun i i0 i1 => by
    rw [show Kb.2 39 = K.2 39 from fr2 fb 39 rfl] at i1
    rw [show Kb.2 40 = K.2 40 from fr2 fb 40 rfl, show a * 4 + i = 4 * a + i by omega]
    have := c4 i i0 (by omega)
    omega) y hy
  have p2 : fr [] [87, 89] Kb y.2 := p2
  have p3 : y.2.2 89 = upI (Kb.2 89) (65536 * t + n) a := p3
  have p4 : ∀ i, 0 ≤ i → i < Kb.2 39 a → y.2.2 87 (65536 * t + (n * 4 + i)) = and64 (Kb.2 105 (65536 * r + i)) (mk64 (Kb.2 40 (a * 4 + i))) := p4
  have p5 : ∀ j, j < 65536 * t + n * 4 ∨ 65536 * t + (n * 4 + 4) ≤ j → y.2.2 87 j = Kb.2 87 j := p5
  have fK : fr [] svF K y.2 := fr_s p2 (fr_s fb fr_0 rfl rfl) rfl rfl
  have fM : fr [] svG M M4 := fr_s f4 (fr_s m1 fr_0 rfl rfl) rfl rfl
  have k78 : y.2.2 78 = upI (K.2 78) t (n + 1) := (fr2 p2 78 rfl).trans b78
  have k89 : y.2.2 89 = upI (K.2 89) (65536 * t + n) a := by rw [p3, show Kb.2 89 = K.2 89 from fr2 fb 89 rfl]
  have k87o : ∀ j, j < 65536 * t + n * 4 ∨ 65536 * t + (n * 4 + 4) ≤ j → y.2.2 87 j = K.2 87 j := fun j hj => by rw [p5 j hj, show Kb.2 87 = K.2 87 from fr2 fb 87 rfl]
  refine ⟨by rw [y1]; exact (if_neg (show ¬ (1 : Int) = 0 by decide)).symm, ?_, fK, fM, ⟨fun x hx => ?_, fun j hj => ?_, fun j hj => ?_⟩, ⟨fun x hx => ?_, fun j hj => ?_, fun j hj => ?_⟩⟩
  · refine TQ_n hG hQ hO hn n1 a0 a1 ns hK hM hr f4 (fr_s p2 (fr_s fb1 fr_0 rfl rfl) rfl rfl) (by rw [k78, upI_s]) k89 (fun i i0 i1 => ?_) k87o
    have z := p4 i i0 (by rw [show Kb.2 39 = K.2 39 from fr2 fb 39 rfl]; omega)
    obtain ⟨d1, d2, d3⟩ := c4 i i0 i1
    rw [z, show Kb.2 105 = K.2 105 from fr2 fb 105 rfl, (o4 i i0 (by omega)).1, show Kb.2 40 = K.2 40 from fr2 fb 40 rfl, show a * 4 + i = 4 * a + i by omega, d1]
  · rw [k78, upI_n hx]
  · have e85 : y.2.2 85 = K1.2 85 := (fr2 p2 85 rfl).trans (fr2 fb1 85 rfl)
    have e86 : y.2.2 86 = K1.2 86 := (fr2 p2 86 rfl).trans (fr2 fb1 86 rfl)
    have e88 : y.2.2 88 = K1.2 88 := (fr2 p2 88 rfl).trans (fr2 fb1 88 rfl)
    rw [e85, e86, e88, r4, k89]
    obtain ⟨z1, z2⟩ := r2 j (by omega)
    exact ⟨z1, z2, k87o j (by omega), upI_n (by omega), upI_n (by omega)⟩
  · rw [show y.2.2 103 = K.2 103 from (fr2 p2 103 rfl).trans (fr2 fb 103 rfl), show y.2.2 104 = K.2 104 from (fr2 p2 104 rfl).trans (fr2 fb 104 rfl)]
    exact ⟨rfl, rfl⟩
  · show M4.2 139 x = _
    rw [show M4.2 139 = M3.2 139 from fr2 f4 139 rfl, m2, upI_n hx]
  · show M4.2 140 j = _ ∧ M4.2 141 j = _
    rw [show M4.2 140 = M3.2 140 from fr2 f4 140 rfl, show M4.2 141 = M3.2 141 from fr2 f4 141 rfl]
    exact m4 j (by omega)
  · show M4.2 142 j = _ ∧ M4.2 143 j = _ ∧ M4.2 144 j = _
    rw [show M4.2 142 = M3.2 142 from fr2 f4 142 rfl, show M4.2 143 = M3.2 143 from fr2 f4 143 rfl, show M4.2 144 = M3.2 144 from fr2 f4 144 rfl]
    exact m3 j (by omega)
/-- the row isn't counted -/
theorem cm_no {n a : Int} {Kb M3 M4 Mb : mR} (hG : GVQ t K M) (hQ : TQ t K M) (hn : M.2 139 t = n) (hM : NRM t n a M M3) (f4 : fr [] [170] M3 M4) (mb : Mb = mO M4 [] [(139, upI (M4.2 139) t n)]) (fK : fr [] svF K Kb) (oK : ofK t r K Kb) (k78 : Kb.2 78 t = K.2 78 t) (hK : ∀ j, j < 65536 * t + n * 4 ∨ 65536 * t + (n * 4 + 4) ≤ j → Kb.2 85 j = K.2 85 j ∧ Kb.2 86 j = K.2 86 j ∧ Kb.2 87 j = K.2 87 j) (h88 : ∀ j, j ≠ 65536 * t + n → Kb.2 88 j = K.2 88 j ∧ Kb.2 89 j = K.2 89 j) : SV t r K M (1, Kb) (0, Mb) := by
  have hQ0 := hQ
  obtain ⟨q1, ⟨q2, q3⟩, -⟩ := hQ0
  obtain ⟨m1, m2, m3, m4, -⟩ := hM
  have e139 : Mb.2 139 = upI (M4.2 139) t n := by rw [mb]; rfl
  have a139 : M4.2 139 = upI (M.2 139) t (n + 1) := (fr2 f4 139 rfl).trans m2
  have e140 : Mb.2 140 = M3.2 140 := by rw [mb]; exact fr2 f4 140 rfl
  have e141 : Mb.2 141 = M3.2 141 := by rw [mb]; exact fr2 f4 141 rfl
  have e142 : Mb.2 142 = M3.2 142 := by rw [mb]; exact fr2 f4 142 rfl
  have e143 : Mb.2 143 = M3.2 143 := by rw [mb]; exact fr2 f4 143 rfl
  have e144 : Mb.2 144 = M3.2 144 := by rw [mb]; exact fr2 f4 144 rfl
  have fM : fr [] svG M Mb := by
    rw [mb]
    exact fr_m (fr_s f4 (fr_s m1 fr_0 rfl rfl) rfl rfl) rfl rfl
  refine ⟨(if_pos rfl).symm, TQ_o hG hQ hn k78 hK h88 fM (by rw [e139, upI_s]) (fun j hj => by rw [e142, e143, e144]; exact m3 j hj) (fun j hj => by rw [e140, e141]; exact m4 j hj), fK, fM, oK, ⟨fun x hx => ?_, fun j hj => ?_, fun j hj => ?_⟩⟩
  · show Mb.2 139 x = _
    rw [e139, upI_n hx, a139, upI_n hx]
  · show Mb.2 140 j = _ ∧ Mb.2 141 j = _
    rw [e140, e141]
    exact m4 j (by omega)
  · show Mb.2 142 j = _ ∧ Mb.2 143 j = _ ∧ Mb.2 144 j = _
    rw [e142, e143, e144]
    exact m3 j (by omega)
theorem cm_nk {n : Int} {K1 Ka Kb : mR} (t0 : 0 ≤ t) (n0 : 0 ≤ n) (n1 : n < 72) (q1 : K.2 78 t = n) (hK : NRK t r n K K1) (ka : fr [] [90] K1 Ka) (kb : Kb = mO Ka [] [(78, upI (Ka.2 78) t n)]) : fr [] svF K Kb ∧ ofK t r K Kb ∧ Kb.2 78 t = K.2 78 t ∧ (∀ j, j < 65536 * t + n * 4 ∨ 65536 * t + (n * 4 + 4) ≤ j → Kb.2 85 j = K.2 85 j ∧ Kb.2 86 j = K.2 86 j ∧ Kb.2 87 j = K.2 87 j) ∧ ∀ j, j ≠ 65536 * t + n → Kb.2 88 j = K.2 88 j ∧ Kb.2 89 j = K.2 89 j := by
  obtain ⟨r1, r2, r3, r4⟩ := hK
  have fb : fr [] [78, 85, 86, 88, 90] K Kb := by
    rw [kb]
    exact fr_m (fr_s ka (fr_s r1 fr_0 rfl rfl) rfl rfl) rfl rfl
  have b78 : Kb.2 78 = upI (K.2 78) t n := by
    rw [kb]
    show upI (Ka.2 78) t n = _
    rw [show Ka.2 78 = K1.2 78 from fr2 ka 78 rfl, show K1.2 78 = K.2 78 from fr2 r1 78 rfl]
  have b85 : Kb.2 85 = K1.2 85 := by rw [kb]; exact fr2 ka 85 rfl
  have b86 : Kb.2 86 = K1.2 86 := by rw [kb]; exact fr2 ka 86 rfl
  have b88 : Kb.2 88 = K1.2 88 := by rw [kb]; exact fr2 ka 88 rfl
  refine ⟨fr_s fb fr_0 rfl rfl, ⟨fun x hx => by rw [b78, upI_n hx], fun j hj => ?_, fun j hj => ?_⟩, by rw [b78, upI_s, q1], fun j hj => ?_, fun j hj => ?_⟩
  · rw [b85, b86, b88, r4, show Kb.2 87 = K.2 87 from fr2 fb 87 rfl, show Kb.2 89 = K.2 89 from fr2 fb 89 rfl]
    obtain ⟨z1, z2⟩ := r2 j (by omega)
    exact ⟨z1, z2, rfl, upI_n (by omega), rfl⟩
  · rw [show Kb.2 103 = K.2 103 from fr2 fb 103 rfl, show Kb.2 104 = K.2 104 from fr2 fb 104 rfl]
    exact ⟨rfl, rfl⟩
  · rw [b85, b86, show Kb.2 87 = K.2 87 from fr2 fb 87 rfl]
    obtain ⟨z1, z2⟩ := r2 j hj
    exact ⟨z1, z2, rfl⟩
  · rw [b88, r4, show Kb.2 89 = K.2 89 from fr2 fb 89 rfl]
    exact ⟨upI_n hj, rfl⟩
theorem comes1_q (hG : GVQ t K M) (hQ : TQ t K M) (hO : OCQ t r K M) (a0 : 0 ≤ M.2 158 0) (a1 : M.2 158 0 < M.1 25) (ns : ∀ e, 0 ≤ e → e < M.2 139 t → ¬ sqM t e M) : RR (bnd (kf_tb_append t r K) fun y13 => if y13.1 = 0 then some (1, y13.2) else kfl_tb_serve_133 t r (cut (((y13.2.2 78) t) - 1)) y13.2) (if (M.2 58) t = 0 then if (M.2 139) t = (M.2 54) t then some (0, M) else rfl_entryComes_48 t M else rfl_entryComes_48 t M) (SV t r K M) := by
  have hG0 := hG
  obtain ⟨⟨t0, t1⟩, hB, hP, ⟨h25, h25b⟩, h16⟩ := hG0
  obtain ⟨hT, hL, hE, hD, ⟨b1, b2, b3⟩, ⟨b4, b5, b6⟩, b7, b8, b9⟩ := id hB
  obtain ⟨k1, k2, k3, -⟩ := id hT
  have hQ0 := hQ
  obtain ⟨q1, ⟨q2, q3⟩, q4, q5, -⟩ := hQ0
  have hO0 := hO
  obtain ⟨o1, o2, o3, o4⟩ := hO0
  obtain ⟨n, hn⟩ : ∃ n, n = M.2 139 t := ⟨_, rfl⟩
  obtain ⟨a, ha⟩ : ∃ a, a = M.2 158 0 := ⟨_, rfl⟩
  rw [← ha] at a0 a1
  rw [← hn] at ns
  by_cases n72 : n < 72
  · refine app2_k (K := K) (t := t) (r := r) (n := n) (by omega) (by omega) (by omega) (by omega) n72 (fun K1 hK => ?_)
    have r1 := hK.1
    have e78 : K1.2 78 t = n := by rw [show K1.2 78 = K.2 78 from fr2 r1 78 rfl]; omega
    by_cases ex : M.2 58 t = 0
    · rw [if_pos ex]
      have hA : RP (a65 t K1) (fun w => (n < M.2 54 t ∧ w = (1, mO K1 [] [(78, upI (K1.2 78) t (n + 1))])) ∨ (M.2 54 t ≤ n ∧ w = (0, mO K1 [] [(78, upI (K1.2 78) t n)]))) := by
        unfold a65
        refine RP_bnd (hashed_k t0 (TK_f hT r1 (fr_0 (u := []) (v := []) (x := M)) rfl rfl) hE) (fun u hu => ?_)
        rw [if_pos (hu.1.trans ex), e78, show K1.2 75 = K.2 75 from fr2 r1 75 rfl, b1]
        refine RP_ite (fun g => ?_) (fun g => ?_)
        · rw [k126_0, e78, cut_i (z := n + 1) (by omega) (by omega)]
          exact RP_some (Or.inl ⟨g, rfl⟩)
        · rw [k126_1, e78, cut_i (z := n + 0) (by omega) (by omega), show n + 0 = n by omega]
          exact RP_some (Or.inr ⟨by omega, rfl⟩)
      have q4 := q4 ex
      by_cases full : M.2 139 t = M.2 54 t
      · rw [if_pos full]
        refine RR_l hA (fun w hw => ?_)
        rcases hw with ⟨g, -⟩ | ⟨-, rfl⟩
        · omega
        · rw [if_pos rfl]
          obtain ⟨z1, z2, z3, z4, z5⟩ := cm_nk (K := K) (K1 := K1) (Ka := K1) (t := t) (r := r) (n := n) t0 (by omega) n72 (by omega) hK fr_0 rfl
          refine RR_some ⟨(if_pos rfl).symm, ?_, z1, fr_0, z2, ofR_0⟩
          exact TQ_o hG hQ hn.symm z3 z4 z5 fr_0 hn.symm (fun _ _ => ⟨rfl, rfl, rfl⟩) (fun _ _ => ⟨rfl, rfl⟩)
      · rw [if_neg full]
        refine com_r (a := a) (n := n) t0 t1 k2 k3 hn.symm (by omega) (by omega) ha.symm a0 (by omega) (fun i i0 i1 => ⟨(o4 i i0 i1).2.2.1, (o4 i i0 i1).2.2.2⟩) (fun M3 hM => ?_)
        have m58 : M3.2 58 = M.2 58 := fr2 hM.1 58 rfl
        rw [m58, if_pos ex]
        intro y z hy hz
        cases hw : a65 t K1 with
        | none => rw [hw] at hy; cases hy
        | some w =>
          rw [hw, bnd_some] at hy
          cases hz
          rcases hA w hw with ⟨g, rfl⟩ | ⟨g, -⟩
          · rw [if_neg (show ¬ (1 : Int) = 0 by decide)] at hy
            have c : cut ((mO K1 [] [(78, upI (K1.2 78) t (n + 1))]).2 78 t - 1) = n := by
              rw [mO2_s, upI_s, cut_i (by omega) (by omega)]
              omega
            have hy : kfl_tb_serve_133 t r (cut ((mO K1 [] [(78, upI (K1.2 78) t (n + 1))]).2 78 t - 1)) (mO K1 [] [(78, upI (K1.2 78) t (n + 1))]) = some y := hy
            rw [c] at hy
            exact cm_ok hG hQ hO hn.symm n72 ha.symm a0 a1 ns hK hM (fun _ => by omega) fr_0 fr_0 rfl hy
          · omega
    · rw [if_neg ex]
      have h16 := h16 ex
      refine com_r (a := a) (n := n) t0 t1 k2 k3 hn.symm (by omega) (by omega) ha.symm a0 (by omega) (fun i i0 i1 => ⟨(o4 i i0 i1).2.2.1, (o4 i i0 i1).2.2.2⟩) (fun M3 hM => ?_)
      have m1 := hM.1
      have m58 : M3.2 58 = M.2 58 := fr2 m1 58 rfl
      rw [m58, if_neg ex]
      intro y z hy hz
      unfold a65 at hy
      cases hu : kf_tb_isHashed t K1 with
      | none => rw [hu] at hy; cases hy
      | some u =>
        have u1 := (hashed_k t0 (TK_f hT r1 (fr_0 (u := []) (v := []) (x := M)) rfl rfl) hE u hu).1
        rw [hu, bnd_some, if_neg (by rw [u1]; exact ex), e78, cut_i (z := n + 1) (by omega) (by omega)] at hy
        cases hv : kf_tb_above t (n + 1) K1 with
        | none => rw [hv] at hy; cases hy
        | some v =>
          cases hx : rf_above t M3 with
          | none => rw [hx] at hz; cases hz
          | some x =>
            rw [hv, bnd_some] at hy
            rw [hx, bnd_some] at hz
            have e51 : M3.2 51 = M.2 51 := fr2 m1 51 rfl
            have e55 : M3.2 55 = M.2 55 := fr2 m1 55 rfl
            have A := above_q (K := K1) (M := M3) (t := t) (n := n + 1) t0 t1 (TK_f hT r1 m1 rfl rfl) (TE_f hE m1 rfl) (by rw [show K1.2 75 = K.2 75 from fr2 r1 75 rfl, show M3.2 54 = M.2 54 from fr2 m1 54 rfl]; exact b1) (by rw [show M3.2 54 = M.2 54 from fr2 m1 54 rfl]; exact b2) (fun _ => by rw [show M3.2 54 = M.2 54 from fr2 m1 54 rfl]; exact h16) (by rw [show K1.2 76 = K.2 76 from fr2 r1 76 rfl, e55]; exact b4) (by rw [e55]; exact b5) (by rw [e55]; exact b6) (by omega) (by omega) (by rw [hM.2.1, upI_s]) (fun e e0 e1 i i0 i1 => by
              rw [e51] at i1
              by_cases ee : e = n
              · subst ee
                rw [(hK.2.2.1 i i0 (by omega)).1, (hM.2.2.2.2.2.2.1 i i0 i1).2]
                exact (o3 i i0 i1).2
              · rw [(hK.2.1 (65536 * t + (e * 4 + i)) (by omega)).1, (hM.2.2.1 (4 * (96 * t + e) + i) (by omega)).1]
                exact ((q5 e e0 (by omega)).1 i i0 i1).1) v x hv hx
            obtain ⟨A1, A2, A3, A4, A5, -⟩ := A
            have v77 : v.2.2 77 t = M.2 56 t := by rw [show v.2.2 77 = K1.2 77 from fr2 A2 77 rfl, show K1.2 77 = K.2 77 from fr2 r1 77 rfl]; exact b7
            have v78 : v.2.2 78 t = n := by rw [show v.2.2 78 = K1.2 78 from fr2 A2 78 rfl]; exact e78
            have x56 : x.2.2 56 t = M.2 56 t := by rw [show x.2.2 56 = M3.2 56 from fr2 A3 56 rfl, show M3.2 56 = M.2 56 from fr2 m1 56 rfl]
            unfold rfl_entryComes_179 at hz
            rw [x56] at hz
            rw [v77, A1] at hy
            by_cases g : x.1 ≤ M.2 56 t
            · rw [if_pos g, k126_0, v78, cut_i (z := n + 1) (by omega) (by omega), bnd_some, if_neg (show ¬ (1 : Int) = 0 by decide)] at hy
              rw [if_neg (by omega)] at hz
              cases hz
              have c : cut ((mO v.2 [] [(78, upI (v.2.2 78) t (n + 1))]).2 78 t - 1) = n := by
                rw [mO2_s, upI_s, cut_i (by omega) (by omega)]
                omega
              have hy : kfl_tb_serve_133 t r (cut ((mO v.2 [] [(78, upI (v.2.2 78) t (n + 1))]).2 78 t - 1)) (mO v.2 [] [(78, upI (v.2.2 78) t (n + 1))]) = some y := hy
              rw [c] at hy
              exact cm_ok hG hQ hO hn.symm n72 ha.symm a0 a1 ns hK hM (fun q => absurd q ex) A3 A2 rfl hy
            · rw [if_neg g, k126_1, v78, cut_i (z := n + 0) (by omega) (by omega), show n + 0 = n by omega, bnd_some, if_pos rfl] at hy
              rw [if_pos (by omega), show x.2.2 139 = M3.2 139 from fr2 A3 139 rfl, hM.2.1, upI_s, cut_i (z := n + 1 - 1) (by omega) (by omega), show n + 1 - 1 = n by omega] at hz
              cases hy
              cases hz
              obtain ⟨z1, z2, z3, z4, z5⟩ := cm_nk (K := K) (K1 := K1) (Ka := v.2) (t := t) (r := r) (n := n) t0 (by omega) n72 (by omega) hK A2 rfl
              refine cm_no hG hQ hn.symm hM A3 ?_ z1 z2 z3 z4 z5
              rw [show x.2.2 139 = M3.2 139 from fr2 A3 139 rfl, hM.2.1]
  · -- seventy-two stand: the class refuses at once, the reference by those above
    have n72' : n = 72 := by omega
    unfold kf_tb_append
    rw [if_neg (show ¬ K.2 78 t < 72 by omega), bnd_some, if_pos rfl]
    by_cases ex : M.2 58 t = 0
    · have := q4 ex
      omega
    · rw [if_neg ex]
      have h16 := h16 ex
      refine com_r (a := a) (n := n) t0 t1 k2 k3 hn.symm (by omega) (by omega) ha.symm a0 (by omega) (fun i i0 i1 => ⟨(o4 i i0 i1).2.2.1, (o4 i i0 i1).2.2.2⟩) (fun M3 hM => ?_)
      have m1 := hM.1
      have m58 : M3.2 58 = M.2 58 := fr2 m1 58 rfl
      have e54 : M3.2 54 = M.2 54 := fr2 m1 54 rfl
      have e55 : M3.2 55 = M.2 55 := fr2 m1 55 rfl
      have e139 : M3.2 139 t = n + 1 := by rw [hM.2.1, upI_s]
      rw [m58, if_neg ex]
      refine RR_r (above_b (M := M3) (t := t) (by rw [e54]; exact b2) (by rw [m58]; exact ex) (by rw [e54]; exact h16) (by rw [e55]; exact b5) (by omega) (by omega)) (fun x hx => ?_)
      obtain ⟨A3, A6⟩ := hx
      rw [e55, e139] at A6
      unfold rfl_entryComes_179
      have x56 : x.2.2 56 t = M.2 56 t := by rw [show x.2.2 56 = M3.2 56 from fr2 A3 56 rfl, show M3.2 56 = M.2 56 from fr2 m1 56 rfl]
      rw [x56, if_pos (by omega), show x.2.2 139 = M3.2 139 from fr2 A3 139 rfl, hM.2.1, upI_s, cut_i (z := n + 1 - 1) (by omega) (by omega), show n + 1 - 1 = n by omega]
      refine RR_some (cm_no hG hQ hn.symm hM A3 ?_ fr_0 ofK_0 rfl (fun _ _ => ⟨rfl, rfl, rfl⟩) (fun _ _ => ⟨rfl, rfl⟩))
      rw [show x.2.2 139 = M3.2 139 from fr2 A3 139 rfl, hM.2.1]
theorem comes_q (hG : GVQ t K M) (hQ : TQ t K M) (hO : OCQ t r K M) (h91 : K.2 91 r = 1) : RR (bnd (kf_tb_lists t (K.2 97 r) K) fun y => if y = 0 then some (1, K) else kfl_tb_serve_50 t r 0 K) (rf_entryComes t M) (SV t r K M) := by
  have hG0 := hG
  obtain ⟨⟨t0, t1⟩, hB, -⟩ := hG0
  obtain ⟨hT, hL, -⟩ := hB
  have hO0 := hO
  obtain ⟨o1, o2, o3, o4⟩ := hO0
  unfold kfl_tb_serve_50 rf_entryComes
  rw [o2]
  refine RR_bnd (lists_q t0 t1 hL) (fun y z h => ?_)
  rcases h with ⟨rfl, rfl⟩ | ⟨rfl, rfl, a0, a1⟩
  · rw [if_pos rfl, if_pos rfl]
    exact RR_some (SV_0 hQ)
  · rw [if_neg (show ¬ (1 : Int) = 0 by decide), if_neg (show ¬ (1 : Int) = 0 by decide)]
    refine RR_bnd (same_q t0 t1 hT hQ o3 (fun i i0 i1 => (o4 i i0 i1).2.2.1)) (fun y z h => ?_)
    rw [h91, if_pos rfl]
    unfold kfl_tb_serve_77 kfl_tb_serve_92
    rcases h with ⟨rfl, rfl, ns⟩ | ⟨rfl, z0, z1, -⟩
    · rw [if_pos rfl, if_pos rfl, if_pos rfl, if_neg (show ¬ (1 : Int) = 0 by decide), if_neg (show ¬ (0 : Int) ≤ -1 by decide)]
      exact comes1_q hG hQ hO a0 a1 ns
    · rw [if_neg (show ¬ y = -1 by omega), if_neg (show ¬ (1 : Int) = 0 by decide), if_pos z0]
      exact RR_some (SV_0 hQ)
theorem serve_q (hG : GVQ t K M) (hQ : TQ t K M) (hO : OPQ r K M) (hk : 1 ≤ M.2 153 0 ∧ M.2 153 0 ≤ 3) : RR (kf_tb_serve t r K) (srvM t (M.2 153 0) M) (SV t r K M) := by
  have p4 := GVQ_4 hG
  have hG0 := hG
  obtain ⟨⟨t0, t1⟩, hB, hP, h25, h16⟩ := hG0
  obtain ⟨hT, hL, -⟩ := id hB
  obtain ⟨k1, k2, k3, k4, -⟩ := id hT
  obtain ⟨o1, o2, o3, o4, o5⟩ := hO
  unfold kf_tb_serve srvM
  refine RR_l (cutk_k (K := K) (t := t) (r := r) (by omega) (by omega) (fun i i0 i1 => by
    obtain ⟨d1, d2, d3, d4, d5, d6, d7, d8⟩ := k4 i i0 (by omega)
    exact ⟨by omega, by rw [d7]; exact d8⟩)) (fun w hw => RR_r (masks_r (M := M) t0 t1 k2 k3) (fun b hb => ?_))
  obtain ⟨-, w2, w3, w4, w5⟩ := hw
  obtain ⟨-, b2⟩ := hb
  have w2 : fr [] [103, 104] K w.2 := w2
  have w3 : ∀ j, j < 65536 * r ∨ 65536 * r + K.2 72 t ≤ j → w.2.2 103 j = K.2 103 j ∧ w.2.2 104 j = K.2 104 j := w3
  have w4 : ∀ i, 0 ≤ i → i < K.2 72 t → w.2.2 104 (65536 * r + i) = and64 (K.2 104 (65536 * r + i)) (mk64 (K.2 82 (65536 * t + i))) ∧ w.2.2 103 (65536 * r + i) = and64 (K.2 103 (65536 * r + i)) (and64 (K.2 104 (65536 * r + i)) (mk64 (K.2 82 (65536 * t + i)))) := w4
  have w5 : (w.1 = 1 ∧ ∀ i, 0 ≤ i → i < K.2 72 t → ckQ t r K i) ∨ (w.1 = 0 ∧ ∃ i, 0 ≤ i ∧ i < K.2 72 t ∧ ¬ ckQ t r K i) := w5
  have b2 : (b = 1 ∧ ∀ i, 0 ≤ i → i < M.2 51 t → okm (M.2 113 (4 * t + i)) (M.2 112 (4 * t + i)) (M.2 161 i)) ∨ (b = 0 ∧ ∃ i, 0 ≤ i ∧ i < M.2 51 t ∧ ¬ okm (M.2 113 (4 * t + i)) (M.2 112 (4 * t + i)) (M.2 161 i)) := b2
  have ok : ∀ i, 0 ≤ i → i < M.2 51 t → (ckQ t r K i ↔ okm (M.2 113 (4 * t + i)) (M.2 112 (4 * t + i)) (M.2 161 i)) := fun i i0 i1 => by
    obtain ⟨d1, d2, d3, d4, d5, d6, d7, d8⟩ := k4 i i0 i1
    unfold ckQ
    rw [d4, d7, ((o5 i i0 (by omega)).1).2.1]
  have eb : w.1 = b := by
    rcases w5 with ⟨x1, x2⟩ | ⟨x1, i, i0, i1, i2⟩
    · rcases b2 with ⟨y1, -⟩ | ⟨y1, i, i0, i1, i2⟩
      · omega
      · exact absurd ((ok i i0 i1).mp (x2 i i0 (by omega))) i2
    · rcases b2 with ⟨y1, y2⟩ | ⟨y1, -⟩
      · exact absurd ((ok i i0 (by omega)).mpr (y2 i i0 (by omega))) i2
      · omega
  have hQ1 : TQ t w.2 M := TQ_f hQ (by rw [show w.2.2 78 = K.2 78 from fr2 w2 78 rfl]) (fun j _ _ => by rw [show w.2.2 85 = K.2 85 from fr2 w2 85 rfl, show w.2.2 86 = K.2 86 from fr2 w2 86 rfl, show w.2.2 87 = K.2 87 from fr2 w2 87 rfl, show w.2.2 88 = K.2 88 from fr2 w2 88 rfl, show w.2.2 89 = K.2 89 from fr2 w2 89 rfl]; exact ⟨rfl, rfl, rfl, rfl, rfl⟩) rfl (fun _ _ _ => ⟨rfl, rfl⟩) (fun _ _ _ => ⟨rfl, rfl, rfl⟩) k3 p4 rfl (fun _ _ => rfl) (fun _ _ => rfl) rfl rfl rfl
  have hG1 : GVQ t w.2 M := ⟨⟨t0, t1⟩, TB1_f hB w2 (fr_0 (u := []) (v := []) (x := M)) rfl rfl, PAq_f hP w2 (fr_0 (u := []) (v := []) (x := M)) rfl rfl rfl, h25, h16⟩
  have hO1 : OCQ t r w.2 M := by
    refine ⟨by rw [show w.2.2 96 = K.2 96 from fr2 w2 96 rfl]; exact o3, by rw [show w.2.2 97 = K.2 97 from fr2 w2 97 rfl]; exact o4, fun i i0 i1 => ?_, fun i i0 i1 => ?_⟩
    · obtain ⟨d1, d2, d3, d4, d5, d6, d7, d8⟩ := k4 i i0 i1
      obtain ⟨x1, x2⟩ := w4 i i0 (by omega)
      obtain ⟨⟨z1, z2, z3⟩, -⟩ := o5 i i0 (by omega)
      rw [x1, x2, z1, z2, d4]
      exact ⟨rfl, rfl⟩
    · rw [show w.2.2 105 = K.2 105 from fr2 w2 105 rfl]
      obtain ⟨⟨z1, z2, z3⟩, z4, z5, z6⟩ := o5 i i0 i1
      exact ⟨z3, z4, z5, z6⟩
  have oK : ofK t r K w.2 := by
    refine ⟨fun x _ => by rw [show w.2.2 78 = K.2 78 from fr2 w2 78 rfl], fun j _ => by rw [show w.2.2 85 = K.2 85 from fr2 w2 85 rfl, show w.2.2 86 = K.2 86 from fr2 w2 86 rfl, show w.2.2 87 = K.2 87 from fr2 w2 87 rfl, show w.2.2 88 = K.2 88 from fr2 w2 88 rfl, show w.2.2 89 = K.2 89 from fr2 w2 89 rfl]; exact ⟨rfl, rfl, rfl, rfl, rfl⟩, fun j hj => w3 j (by omega)⟩
  have up : ∀ y z, SV t r w.2 M y z → SV t r K M y z := fun y z h => by
    obtain ⟨h1, h2, h3, h4, h5, h6⟩ := h
    exact ⟨h1, h2, fr_s h3 (fr_s w2 fr_0 rfl rfl) rfl rfl, h4, ofK_t oK h5, h6⟩
  have h91 : w.2.2 91 r = M.2 153 0 := by rw [show w.2.2 91 = K.2 91 from fr2 w2 91 rfl]; exact o1
  rw [h91, eb]
  unfold kfl_tb_serve_26
  by_cases b0 : b = 0
  · rw [if_pos b0, if_pos b0, if_pos b0]
    refine RR_il (fun _ => RR_some (up _ _ (SV_0 hQ1))) (fun _ => RR_some (up _ _ (SV_0 hQ1)))
  · rw [if_neg b0, if_neg b0, if_neg b0]
    by_cases c3 : M.2 153 0 = 3
    · rw [if_pos c3, if_neg (show ¬ (1 : Int) = 0 by decide), if_neg (show ¬ M.2 153 0 = 1 by omega), if_neg (show ¬ M.2 153 0 = 2 by omega)]
      exact RR_w (goes_q hG1 hQ1 hO1 (h91.trans c3)) up
    · rw [if_neg c3, if_pos rfl]
      by_cases c1 : M.2 153 0 = 1
      · rw [if_pos c1]
        exact RR_w (comes_q hG1 hQ1 hO1 (h91.trans c1)) up
      · rw [if_neg c1, if_pos (show M.2 153 0 = 2 by omega)]
        exact RR_w (changes_q hG1 hQ1 hO1 (h91.trans (by omega))) up
end TQ8
