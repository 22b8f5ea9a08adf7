
section SM8B
variable {K M : mR} {ac a r : Int}

def VWm (M : mR) : Prop := (∀ i, 0 ≤ i → i < M.1 21 → VW (M.2 172 i) (M.2 35 i)) ∧ (∀ i f, 0 ≤ i → i < M.1 20 → 0 ≤ f → f < M.2 29 (M.2 34 i) → VW (M.2 171 (16 * i + f)) (M.2 33 (16 * M.2 34 i + f))) ∧ ∀ b i, 0 ≤ b → b < M.1 22 → 0 ≤ i → i < 64 → VW (M.2 138 (64 * b + i)) (M.2 36 b)
def PVm (K : mR) (ac : Int) (pa : Int → Int) : Prop := ac ≠ -1 → ∀ i, 0 ≤ i → i < K.2 39 ac → VW (pa i) (K.2 40 (cut (cut (ac * 4) + i)))
theorem XRk_of (h : XE K ac a r) (r8 : r < 800) : XRk K ac K a r := ⟨⟨h.1.1, h.1.2.1, r8⟩, h.2.1, h.2.2.2, h.2.2.1⟩
theorem smM_f {i f : Int} (i0 : 0 ≤ i) (i1 : i < 12) (f0 : 0 ≤ f) (f1 : f < 16) : smM M (17 * i + 1 + f) = M.2 171 (16 * i + f) := by
  unfold smM
  rw [if_neg (by omega), if_neg (by omega), if_neg (by omega), show (17 * i + 1 + f) / 17 = i by omega, show (17 * i + 1 + f) % 17 - 1 = f by omega]
theorem smM_v {i : Int} (i0 : 0 ≤ i) (i1 : i < 12) : smM M (17 * i) = if M.2 175 i = 0 then 0 else 1 := by
  unfold smM
  rw [if_neg (by omega), if_neg (by omega), if_pos (by omega), show 17 * i / 17 = i by omega]
theorem smM_m {i : Int} (i0 : 0 ≤ i) (i1 : i < 16) : smM M (204 + i) = M.2 172 i := by
  unfold smM
  rw [if_neg (by omega), if_pos (by omega), show 204 + i - 204 = i by omega]
theorem ifv {c : Prop} [Decidable c] : VW (if c then (0 : Int) else 1) 1 := by
  by_cases h : c
  · rw [if_pos h]; exact VW_01 (Or.inl rfl)
  · rw [if_neg h]; exact VW_01 (Or.inr rfl)

theorem nvh_m (hN : NDR_nx K M) (hR : ∀ j, R64 (M.2 68 j)) (hV : VWm M) (hP : PVm K ac (M.2 174)) (m20 : M.1 20 ≤ 12) (m29 : ∀ i, 0 ≤ i → i < M.1 20 → M.2 29 (M.2 34 i) ≤ 16) (h : XE K ac a r) {j : Int} (j0 : a ≤ j) (j1 : j ≤ r) : NVH (mO K [] [(101, smM M), (105, M.2 174)]) M 0 0 j := by
  obtain ⟨L, eL⟩ : ∃ L, L = mO K [] [(101, smM M), (105, M.2 174)] := ⟨_, rfl⟩
  rw [← eL]
  have e18 : L.2 18 = K.2 18 := by rw [eL]; rfl
  have e19 : L.2 19 = K.2 19 := by rw [eL]; rfl
  have e20 : L.2 20 = K.2 20 := by rw [eL]; rfl
  have e22 : L.2 22 = K.2 22 := by rw [eL]; rfl
  have e24 : L.2 24 = K.2 24 := by rw [eL]; rfl
  have e101 : L.2 101 = smM M := by rw [eL]; rfl
  have e105 : L.2 105 = M.2 174 := by rw [eL]; rfl
  obtain ⟨⟨a0, a1, a2⟩, -, hT, -⟩ := h
  obtain ⟨⟨k1, k2, k3⟩, hk⟩ := hN
  obtain ⟨n1, n2, n3, n4⟩ := hk j (by omega) (by omega)
  obtain ⟨-, t⟩ := hT j j0 j1
  unfold NVH
  rw [e18, e19, e20, e22, e24, e101, e105, show 65536 * (0 : Int) + K.2 19 j = K.2 19 j by omega]
  rcases n2 with ⟨q1, q2, q3, q4⟩ | ⟨q1, q2, q3, q4, q5, o⟩
  · exact Or.inl ⟨q1, q2, q3, by rw [q3]; exact hR j⟩
  · refine Or.inr ⟨⟨by omega, by omega, q3⟩, ?_⟩
    rcases o with o | ⟨o1, o2, o3, o4, o5⟩ | ⟨o1, o2, o3, o4, o5⟩ | ⟨o1, o2⟩ | ⟨o1, o2⟩ | ⟨o1, o2⟩ | ⟨o1, o2⟩ | ⟨o1, o2⟩ | ⟨o1, o2⟩
    · refine Or.inl ?_
      rcases n1 with ⟨s1, s2, s3, s4, s5, s6⟩ | ⟨s1, s2, s3, s4, s5⟩ | ⟨s1, s2, s3, s4, s5⟩ | ⟨s1, s2, s3, -⟩
      · have u9 := m29 (M.2 67 j / 16) (by omega) s4
        obtain ⟨-, w⟩ := n4 s2
        have e : smM M (K.2 19 j) = M.2 171 (M.2 67 j) := by
          rw [s6, smM_f (by omega) (by omega) (by omega) (by omega), show 16 * (M.2 67 j / 16) + M.2 67 j % 16 = M.2 67 j by omega]
        refine ⟨s2, ?_, Or.inl ⟨s1, e.symm⟩⟩
        rw [e, q3, w, s6]
        unfold SWv_nx
        rw [if_neg (by omega), if_neg (by omega), show (17 * (M.2 67 j / 16) + 1 + M.2 67 j % 16) / 17 = M.2 67 j / 16 by omega, show (17 * (M.2 67 j / 16) + 1 + M.2 67 j % 16) % 17 - 1 = M.2 67 j % 16 by omega]
        have v := hV.2.1 (M.2 67 j / 16) (M.2 67 j % 16) (by omega) s4 (by omega) s5
        rw [show 16 * (M.2 67 j / 16) + M.2 67 j % 16 = M.2 67 j by omega] at v
        exact v
      · obtain ⟨-, w⟩ := n4 s2
        have e : smM M (K.2 19 j) = if M.2 175 (M.2 67 j) = 0 then 0 else 1 := by rw [s5, smM_v s3 (by omega)]
        refine ⟨s2, ?_, Or.inr (Or.inr ⟨s1, e⟩)⟩
        rw [e, q3, w, s5]
        unfold SWv_nx
        rw [if_neg (show ¬ 204 ≤ 17 * M.2 67 j by omega), if_pos (show 17 * M.2 67 j % 17 = 0 by omega)]
        exact ifv
      · obtain ⟨v, w⟩ := n4 s2
        have e : smM M (K.2 19 j) = M.2 172 (M.2 67 j) := by rw [s5, smM_m s3 s4]
        refine ⟨s2, ?_, Or.inr (Or.inl ⟨s1, e.symm⟩)⟩
        rw [e, q3, w, s5]
        rw [s5] at v
        unfold SWv_nx
        rw [if_pos (by omega), show 204 + M.2 67 j - 204 = M.2 67 j by omega]
        rcases v with ⟨v1, v2⟩ | ⟨v1, v2, -⟩
        · exact hV.1 _ s3 (by omega)
        · omega
      · omega
    · obtain ⟨p1, p2, p3⟩ := t.2.1 o2
      refine Or.inr (Or.inl ⟨o2, ?_, o1, by first | rw [o3] | rw [show 65536 * (0 : Int) + K.2 19 j = K.2 19 j by omega, o3]⟩)
      first | rw [p3] | rw [show 65536 * (0 : Int) + K.2 19 j = K.2 19 j by omega, p3]
      exact hP p1 _ (by omega) p2
    · exact Or.inr (Or.inr (Or.inl ⟨o2, o1, o3⟩))
    · exact Or.inr (Or.inr (Or.inr (Or.inl ⟨o2, o1⟩)))
    · exact Or.inr (Or.inr (Or.inr (Or.inr (Or.inl ⟨o2, o1⟩))))
    · exact Or.inr (Or.inr (Or.inr (Or.inr (Or.inr (Or.inl ⟨o2, o1⟩)))))
    · exact Or.inr (Or.inr (Or.inr (Or.inr (Or.inr (Or.inr (Or.inl ⟨o2, o1⟩))))))
    · exact Or.inr (Or.inr (Or.inr (Or.inr (Or.inr (Or.inr (Or.inr (Or.inl ⟨o2, o1⟩)))))))
    · exact Or.inr (Or.inr (Or.inr (Or.inr (Or.inr (Or.inr (Or.inr (Or.inr ⟨o1, o2, fun q => (n3 q).2.2.2⟩)))))))

def WBm (M : mR) : Prop := (∀ i, 0 ≤ i → i < M.1 21 → 1 ≤ M.2 35 i ∧ M.2 35 i ≤ 64) ∧ ∀ i f, 0 ≤ i → i < M.1 20 → 0 ≤ f → f < M.2 29 (M.2 34 i) → 1 ≤ M.2 33 (16 * M.2 34 i + f) ∧ M.2 33 (16 * M.2 34 i + f) ≤ 64
def RGm (K M : mR) : Prop := NDR_nx K M ∧ (∀ j, R64 (M.2 68 j)) ∧ VWm M ∧ M.1 20 ≤ 12 ∧ (∀ i, 0 ≤ i → i < M.1 20 → M.2 29 (M.2 34 i) ≤ 16) ∧ WBm M
theorem worth_m (g : RGm K M) (hP : PVm K ac (M.2 174)) (h : XE K ac a r) : RP (rf_worth a (r + 1) M) (fun z => z.1 = ev K (smM M) (M.2 174) a r ∧ VALn K z.1 r ∧ fr [] [173] M z.2) := by
  obtain ⟨hN, hR, hV, m20, m29, -⟩ := g
  have n8 := NDR_8 hN
  have r8 := h.1.2.2
  obtain ⟨L, eL⟩ : ∃ L, L = mO K [] [(101, smM M), (105, M.2 174)] := ⟨_, rfl⟩
  have fL : fr [] [101, 105] K L := by rw [eL]; exact fr_m fr_0 rfl rfl
  have e101 : L.2 101 = smM M := by rw [eL]; rfl
  have e105 : L.2 105 = M.2 174 := by rw [eL]; rfl
  have hx : XRk K ac L a r := XRk_f (XRk_of h (by omega)) fL rfl
  refine RP_w (worth_r (r := 0) (v4 := 0) hx (fun j j0 j1 => by rw [eL]; exact nvh_m hN hR hV hP m20 m29 h j0 j1)) (fun z hz => ?_)
  obtain ⟨z1, z2, z3⟩ := hz
  have f1 : (fun s => L.2 101 (65536 * (0 : Int) + s)) = smM M := by
    funext s
    rw [e101, show 65536 * (0 : Int) + s = s by omega]
  have f2 : (fun s => L.2 105 (65536 * (0 : Int) + s)) = M.2 174 := by
    funext s
    rw [e105, show 65536 * (0 : Int) + s = s by omega]
  rw [f1, f2, ev_f fL rfl] at z1
  refine ⟨z1, ?_, z3⟩
  unfold VALn OW at z2 ⊢
  rw [fr2 fL 18 rfl, fr2 fL 22 rfl, fr2 fL 24 rfl] at z2
  exact z2
end SM8B

section SM9
variable {K M M' : mR} {F A : List Nat} {ac d at' : Int}
theorem XSm_f (f : fr F A M M') (c1 : chk [177] F = true) (c2 : chk [138, 169, 171, 172, 175] A = true) : XSm at' M' = XSm at' M := by
  unfold XSm smM
  rw [fr1 f 177 (chk_1 c1 (by decide)), fr2 f 138 (chk_1 c2 (by decide)), fr2 f 169 (chk_1 c2 (by decide)), fr2 f 171 (chk_1 c2 (by decide)), fr2 f 172 (chk_1 c2 (by decide)), fr2 f 175 (chk_1 c2 (by decide))]
theorem smM_c (f : fr F A M M') (c1 : chk [177] F = true) (c2 : chk [171, 172, 175] A = true) : smM M' = smM M := by
  unfold smM
  rw [fr1 f 177 (chk_1 c1 (by decide)), fr2 f 171 (chk_1 c2 (by decide)), fr2 f 172 (chk_1 c2 (by decide)), fr2 f 175 (chk_1 c2 (by decide))]

def IZm (M : mR) : Prop := ∀ i, 0 ≤ i → i < 12 → M.2 175 i = 0 → ∀ f, 0 ≤ f → f < 16 → M.2 171 (16 * i + f) = 0
theorem VWm_f (h : VWm M) (f : fr F A M M') (c1 : chk [20, 21, 22] F = true) (c2 : chk [29, 33, 34, 35, 36, 138, 171, 172] A = true) : VWm M' := by
  unfold VWm
  rw [fr1 f 20 (chk_1 c1 (by decide)), fr1 f 21 (chk_1 c1 (by decide)), fr1 f 22 (chk_1 c1 (by decide)), fr2 f 29 (chk_1 c2 (by decide)), fr2 f 33 (chk_1 c2 (by decide)), fr2 f 34 (chk_1 c2 (by decide)), fr2 f 35 (chk_1 c2 (by decide)), fr2 f 36 (chk_1 c2 (by decide)), fr2 f 138 (chk_1 c2 (by decide)), fr2 f 171 (chk_1 c2 (by decide)), fr2 f 172 (chk_1 c2 (by decide))]
  exact h
theorem IZm_f (h : IZm M) (f : fr F A M M') (c2 : chk [171, 175] A = true) : IZm M' := by
  unfold IZm
  rw [fr2 f 171 (chk_1 c2 (by decide)), fr2 f 175 (chk_1 c2 (by decide))]
  exact h

def RGs (K M : mR) : Prop := RGm K M ∧ IZm M
theorem RGs_c (h : RGs K M) (f : fr [177] [138, 169, 171, 172, 173, 174, 175, 178] M M') (hV : VWm M') (hI : IZm M') : RGs K M' := by
  obtain ⟨⟨h1, h2, -, h4, h5, h6⟩, -⟩ := h
  have w6 : WBm M' := by
    unfold WBm
    rw [fr1 f 20 rfl, fr1 f 21 rfl, fr2 f 29 rfl, fr2 f 33 rfl, fr2 f 34 rfl, fr2 f 35 rfl]
    exact h6
  refine ⟨⟨?_, by rw [fr2 f 68 rfl]; exact h2, hV, by rw [fr1 f 20 rfl]; exact h4, by rw [fr1 f 20 rfl, fr2 f 29 rfl, fr2 f 34 rfl]; exact h5, w6⟩, hI⟩
  unfold NDR_nx
  rw [fr1 f 20 rfl, fr1 f 21 rfl, fr1 f 28 rfl, fr2 f 29 rfl, fr2 f 33 rfl, fr2 f 34 rfl, fr2 f 35 rfl, fr2 f 65 rfl, fr2 f 66 rfl, fr2 f 67 rfl, fr2 f 68 rfl]
  exact h1
theorem put_V {p s v : Int} (hp : PLS_nx (M.1 20) (M.1 21) (M.2 29) (M.2 34) s p) (hv : VW v (PW_nx M p)) (hV : VWm M) (hI : IZm M) (m20 : M.1 20 ≤ 12) (m29 : ∀ i, 0 ≤ i → i < M.1 20 → M.2 29 (M.2 34 i) ≤ 16) : RP (rf_put p v M) (fun z => VWm z.2 ∧ IZm z.2) := by
  unfold rf_put
  unfold PW_nx at hv
  obtain ⟨v1, v2, v3⟩ := hV
  rcases hp with ⟨p1, p2, p3, -⟩ | ⟨p1, p2, p3, -⟩
  · rw [if_pos p3] at hv
    rw [if_neg (by omega)]
    refine RP_some ⟨⟨fun i i0 i1 => ?_, v2, v3⟩, hI⟩
    show VW (upI (M.2 172) p v i) (M.2 35 i)
    by_cases e : i = p
    · rw [e, upI_s]; exact hv
    · rw [upI_n e]; exact v1 i i0 i1
  · rw [if_neg (by omega)] at hv
    have c1 : cut (p - 16) = p - 16 := cut_i (by omega) (by omega)
    have d1 : (p - 16).tdiv 16 = (p - 16) / 16 := Int.tdiv_eq_ediv_of_nonneg (by omega)
    have u9 := m29 ((p - 16) / 16) (by omega) p2
    rw [if_pos p1, c1, d1]
    refine RP_ite (fun _ => RP_some ⟨⟨v1, v2, v3⟩, hI⟩) (fun g => RP_some ⟨⟨v1, fun i f i0 i1 f0 f1 => ?_, v3⟩, fun i i0 i1 hz f f0 f1 => ?_⟩)
    · show VW (upI (M.2 171) (p - 16) v (16 * i + f)) (M.2 33 (16 * M.2 34 i + f))
      have f1 : f < M.2 29 (M.2 34 i) := f1
      have i1 : i < M.1 20 := i1
      have f6 := m29 i i0 i1
      by_cases e : 16 * i + f = p - 16
      · rw [e, upI_s, show i = (p - 16) / 16 by omega, show f = (p - 16) % 16 by omega]
        exact hv
      · rw [upI_n e]
        exact v2 i f i0 i1 f0 f1
    · show upI (M.2 171) (p - 16) v (16 * i + f) = 0
      have hz : M.2 175 i = 0 := hz
      rw [upI_n (fun e => g (by rw [show (p - 16) / 16 = i by omega]; exact hz))]
      exact hI i i0 i1 hz f f0 f1
theorem PLS_s {p s : Int} (hp : PLS_nx (M.1 20) (M.1 21) (M.2 29) (M.2 34) s p) (m20 : M.1 20 ≤ 12) (m29 : ∀ i, 0 ≤ i → i < M.1 20 → M.2 29 (M.2 34 i) ≤ 16) : ((0 ≤ p ∧ p < 16 ∧ s = 204 + p) ∨ (16 ≤ p ∧ p < 208 ∧ s = 17 * ((p - 16) / 16) + 1 + (p - 16) % 16)) ∧ 0 ≤ s ∧ s ≤ 220 := by
  rcases hp with ⟨p1, p2, p3, p4⟩ | ⟨p1, p2, p3, p4⟩
  · exact ⟨Or.inl ⟨by omega, p3, p4⟩, by omega, by omega⟩
  · exact ⟨Or.inr ⟨p1, by omega, p4⟩, by omega, by omega⟩
theorem un_v {v : Int} (v0 : 0 ≤ v) (v1 : v < 9223372036854775808) : ((un v : Nat) : Int) = v := by
  have h := un_k (n := v.toNat) (by omega)
  rw [show ((v.toNat : Nat) : Int) = v by omega] at h
  omega
theorem ushr_1 {v : Int} (v0 : 0 ≤ v) (v1 : v < 9223372036854775808) : ushr64 v 1 = v / 2 := by
  obtain ⟨a, b⟩ := ushr_0 v
  have h := un_v a b
  have e : un (ushr64 v 1) = un v >>> 1 := un_ushr v (k := 1) (by decide)
  have hv := un_v v0 v1
  rw [Nat.shiftRight_eq_div_pow] at e
  have e : un (ushr64 v 1) = un v / 2 := e
  omega
theorem and_1v {v : Int} (v0 : 0 ≤ v) (v1 : v < 9223372036854775808) : and64 v 1 = v % 2 := by
  obtain ⟨a, b⟩ := and_01 v
  have h := un_v a (by omega)
  have e := un_and v 1
  rw [show un 1 = 2 ^ 1 - 1 by decide +kernel, Nat.and_two_pow_sub_one_eq_mod] at e
  have e : un (and64 v 1) = un v % 2 := e
  have hv := un_v v0 v1
  omega
theorem PW_0 {p s : Int} (hp : PLS_nx (M.1 20) (M.1 21) (M.2 29) (M.2 34) s p) (h : WBm M) : 0 ≤ PW_nx M p ∧ PW_nx M p ≤ 64 := by
  unfold PW_nx
  rcases hp with ⟨p1, p2, p3, -⟩ | ⟨p1, p2, p3, -⟩
  · rw [if_pos p3]
    have := h.1 p (by omega) p2
    omega
  · rw [if_neg (by omega)]
    have := h.2 ((p - 16) / 16) ((p - 16) % 16) (by omega) p2 (by omega) p3
    omega

theorem rem_2 {v n : Int} (hv : R64 v) (n0 : 1 ≤ n) (n1 : n ≤ 64) : RP (rf_remainder v n) (fun y => cut y = remk v n ∧ 0 ≤ remk v n ∧ remk v n < n) := by
  have e : remk v n = cut (rem64 (cutl ((cutl ((rem64 (ushr64 v 1) n) * 2)) + (and64 v 1))) n) := by
    unfold remk kf_op_remainder
    rw [if_pos n0]
    rfl
  have b := remk_r (v := v) n0 n1
  unfold rf_remainder rfl_remainder_30
  refine RP_ite (fun _ => RP_some ⟨e.symm, b⟩) (fun g => RP_some ⟨?_, b⟩)
  rw [e]
  have v0 : 0 ≤ v := by
    by_cases q : v < 0
    · exact absurd (show cmp64 v 0 < 0 by unfold cmp64; rw [if_neg (by omega), if_neg (by omega)]; decide) g
    · omega
  have v1 : v < 9223372036854775808 := hv.2
  have s := ushr_1 v0 v1
  have t := and_1v v0 v1
  have r1 := rem_v (x := v / 2) (by omega) (by omega) n0 n1
  have l1 : 0 ≤ v / 2 % n := Int.emod_nonneg _ (by omega)
  have l2 : v / 2 % n < n := Int.emod_lt_of_pos _ (by omega)
  rw [s, t, r1, cutl_i (z := v / 2 % n * 2) (by omega) (by omega), cutl_i (by omega) (by omega), rem_v v0 v1 n0 n1, rem_v (by omega) (by omega) n0 n1]
  have k : (v / 2 % n * 2 + v % 2) % n = v % n := by
    have h1 := Int.emod_add_mul_ediv (v / 2) n
    obtain ⟨c, hc⟩ : ∃ c, c = n * (v / 2 / n) := ⟨_, rfl⟩
    have h3 : n * (-(2 * (v / 2 / n))) = -(2 * c) := by rw [hc, Int.mul_neg, ← Int.mul_assoc, Int.mul_comm n 2, Int.mul_assoc]
    rw [show v / 2 % n * 2 + v % 2 = v + n * (-(2 * (v / 2 / n))) by rw [h3]; omega, Int.add_mul_emod_self_left]
  rw [k]

theorem wordAt_r (g : RGm K M) (hA : AR K M) (hP : PVm K ac (M.2 174)) (hX : XE K ac (K.2 48 d) (K.2 49 d)) (h47 : K.2 47 d = M.2 103 d ∧ 0 ≤ M.2 103 d ∧ M.2 103 d < M.1 22) (m22 : M.1 22 ≤ 8) (he : EXR_nx (K.2 48 d) (K.2 49 d) (M.2 105 d) (M.2 106 d)) (hR : ∀ z, VALn K z (K.2 49 d) → R64 z) : RP (rf_wordAt d M) (fun z => z.1 = aidx K (M.2 174) d (XSm at' M) ∧ (64 * M.2 103 d ≤ z.1 ∧ z.1 < 64 * M.2 103 d + 64) ∧ fr [] [173] M z.2) := by
  obtain ⟨e1, e2, e3⟩ := he
  obtain ⟨q1, q2, q3⟩ := h47
  obtain ⟨-, -, -, r1, r2, r3⟩ := hA _ q2 q3
  unfold rf_wordAt rfl_wordAt_25
  rw [← e1, ← e3]
  refine RP_bnd (worth_m g hP hX) (fun z hz => ?_)
  obtain ⟨z1, z2, z3⟩ := hz
  rw [fr2 z3 93 rfl, fr2 z3 103 rfl, ← r1]
  have u := hR _ z2
  rw [z1] at u ⊢
  refine RP_bnd (rem_2 u (by omega) (by omega)) (fun y hy => RP_some ?_)
  obtain ⟨y1, y2, y3⟩ := hy
  have ea : aidx K (M.2 174) d (XSm at' M) = 64 * M.2 103 d + remk (ev K (smM M) (M.2 174) (K.2 48 d) (K.2 49 d)) (K.2 16 (M.2 103 d)) := by
    unfold aidx
    rw [if_neg (by omega), q1]
    show M.2 103 d * 64 + remk (ev K (smM M) (M.2 174) (K.2 48 d) (K.2 49 d)) (K.2 16 (M.2 103 d)) = _
    omega
  show cut (cut (64 * M.2 103 d) + cut y) = _ ∧ _ ∧ fr [] [173] M z.2
  rw [y1, cut_i (z := 64 * M.2 103 d) (by omega) (by omega), cut_i (by omega) (by omega), ea]
  exact ⟨rfl, by omega, z3⟩

theorem vld_r {i u : Int} (i0 : 0 ≤ i) (i1 : i < 12) (hu : u = 0 ∨ u = 1) (hI : IZm M) : RP (rfl_doStatement_163 i u M) (fun z => fr [] [171, 175] M z.2 ∧ z.2.2 175 = upI (M.2 175) i u ∧ (∀ j, j < 16 * i ∨ 16 * i + 16 ≤ j → z.2.2 171 j = M.2 171 j) ∧ (u = 0 → ∀ f, 0 ≤ f → f < 16 → z.2.2 171 (16 * i + f) = 0) ∧ (u = 1 → z.2.2 171 = M.2 171)) := by
  unfold rfl_doStatement_163
  rw [cut_i (z := 16 * i) (by omega) (by omega)]
  have fin : ∀ e : mR, fr [] [171] M e → (∀ j, j < 16 * i ∨ 16 * i + 16 ≤ j → e.2 171 j = M.2 171 j) → (u = 0 → ∀ f, 0 ≤ f → f < 16 → e.2 171 (16 * i + f) = 0) → (u = 1 → e.2 171 = M.2 171) → RP (rfl_doStatement_211 i u e) (fun z => fr [] [171, 175] M z.2 ∧ z.2.2 175 = upI (M.2 175) i u ∧ (∀ j, j < 16 * i ∨ 16 * i + 16 ≤ j → z.2.2 171 j = M.2 171 j) ∧ (u = 0 → ∀ f, 0 ≤ f → f < 16 → z.2.2 171 (16 * i + f) = 0) ∧ (u = 1 → z.2.2 171 = M.2 171)) := fun e fe h1 h2 h3 => by
    unfold rfl_doStatement_211
    have nu : nar1 u = u := by rcases hu with q | q <;> rw [q] <;> rfl
    rw [nu]
    refine RP_some ⟨fr_m (fr_s fe fr_0 rfl rfl) rfl rfl, ?_, h1, h2, h3⟩
    show upI (e.2 175) i u = _
    rw [fr2 fe 175 rfl]
  refine RP_bnd (P := fun e : mR => fr [] [171] M e ∧ (∀ j, j < 16 * i ∨ 16 * i + 16 ≤ j → e.2 171 j = M.2 171 j) ∧ (u = 0 → ∀ f, 0 ≤ f → f < 16 → e.2 171 (16 * i + f) = 0) ∧ (u = 1 → e.2 171 = M.2 171)) (RP_whl (I := fun s : Int × mR => (16 * i ≤ s.1 ∧ s.1 ≤ 16 * i + 16) ∧ fr [] [171] M s.2 ∧ (∀ j, j < 16 * i ∨ 16 * i + 16 ≤ j → s.2.2 171 j = M.2 171 j) ∧ (u = 0 → ∀ j, 16 * i ≤ j → j < s.1 → s.2.2 171 j = 0) ∧ (u = 1 → s.2.2 171 = M.2 171)) (fun s hs => ?_) ⟨⟨Int.le_refl _, by show 16 * i ≤ 16 * i + 16; omega⟩, fr_0, fun _ _ => rfl, fun _ j j0 j1 => by have j1 : j < 16 * i := j1; omega, fun _ => rfl⟩) (fun e he => fin e he.1 he.2.1 he.2.2.1 he.2.2.2)
  obtain ⟨p, q⟩ := s
  obtain ⟨⟨p0, p1⟩, fq, h1, h2, h3⟩ := hs
  have p0 : 16 * i ≤ p := p0
  have p1 : p ≤ 16 * i + 16 := p1
  have fq : fr [] [171] M q := fq
  have h2 : u = 0 → ∀ j, 16 * i ≤ j → j < p → q.2 171 j = 0 := h2
  have h3 : u = 1 → q.2 171 = M.2 171 := h3
  have q175 : q.2 175 = M.2 175 := fr2 fq 175 rfl
  unfold rfb_doStatement_171
  rw [cut_i (z := 16 * i) (by omega) (by omega), cut_i (z := 16 * i + 16) (by omega) (by omega)]
  refine RP_ite (fun g => RP_some ⟨fq, h1, fun e f f0 f1 => h2 e _ (by omega) (by have g : 16 * i + 16 ≤ p := g; omega), h3⟩) (fun g => ?_)
  have g : ¬ 16 * i + 16 ≤ p := g
  have step : (u = 1 → M.2 175 i = 0) → RP (rfl_doStatement_197 i u p q) (sel (fun s : Int × mR => (16 * i ≤ s.1 ∧ s.1 ≤ 16 * i + 16) ∧ fr [] [171] M s.2 ∧ (∀ j, j < 16 * i ∨ 16 * i + 16 ≤ j → s.2.2 171 j = M.2 171 j) ∧ (u = 0 → ∀ j, 16 * i ≤ j → j < s.1 → s.2.2 171 j = 0) ∧ (u = 1 → s.2.2 171 = M.2 171)) (fun e : mR => fr [] [171] M e ∧ (∀ j, j < 16 * i ∨ 16 * i + 16 ≤ j → e.2 171 j = M.2 171 j) ∧ (u = 0 → ∀ f, 0 ≤ f → f < 16 → e.2 171 (16 * i + f) = 0) ∧ (u = 1 → e.2 171 = M.2 171))) := fun h0 => by
    unfold rfl_doStatement_197
    rw [cut_i (z := p + 1) (by omega) (by omega)]
    refine RP_some ⟨⟨show 16 * i ≤ p + 1 by omega, show p + 1 ≤ 16 * i + 16 by omega⟩, fr_m fq rfl rfl, fun j hj => ?_, fun e j j0 j1 => ?_, fun e => ?_⟩
    · show upI (q.2 171) p 0 j = _
      rw [upI_n (by omega)]
      exact h1 j hj
    · have j1 : j < p + 1 := j1
      show upI (q.2 171) p 0 j = 0
      by_cases ej : j = p
      · rw [ej, upI_s]
      · rw [upI_n ej]
        exact h2 e j j0 (by omega)
    · show upI (q.2 171) p 0 = _
      funext j
      by_cases ej : j = p
      · have z := hI i i0 i1 (h0 e) (p - 16 * i) (by omega) (by omega)
        rw [show 16 * i + (p - 16 * i) = p by omega] at z
        rw [ej, upI_s, z]
      · rw [upI_n ej, h3 e]
  refine RP_ite (fun g0 => step (fun e => by have g0 : u = 0 := g0; omega)) (fun g0 => RP_ite (fun g1 => step (fun _ => ?_)) (fun g1 => RP_some ⟨fq, h1, fun e => absurd e g0, h3⟩))
  have g1 : q.2 175 i = 0 := g1
  rw [q175] at g1
  exact g1
end SM9

section SMA
variable {K M : mR} {ac d at' : Int}
def DQm (at' : Int) (K M : mR) (x' : XSt) (z : Int × mR) : Prop := XPE (XSm at' z.2) x' ∧ RGs K z.2 ∧ fr [177] [138, 171, 172, 173, 175] M z.2
theorem deed_r (g : RGs K M) (hA : AR K M) (hD : DE1_nx (M.1 20) (M.1 21) (M.1 22) (M.2 29) (M.2 34) (K.2 45 d) (K.2 46 d) (K.2 47 d) (K.2 48 d) (K.2 49 d) (K.2 50 d) (K.2 51 d) (M.2 101 d) (M.2 102 d) (M.2 103 d) (M.2 104 d) (M.2 105 d) (M.2 106 d) (M.2 107 d) (M.2 108 d)) (hX : XDm ac d K M) (hP : PVm K ac (M.2 174)) (m22 : M.1 22 ≤ 8) : RP (rf_doStatement d M) (DQm at' K M (adeed K (M.2 174) d (XSm at' M))) := by
  obtain ⟨g0, gI⟩ := id g
  obtain ⟨gN, gR, gV, m20, m29, gW_nx⟩ := id g0
 
  have putq : ∀ (M1 : mR) (v : Int), fr [] [173] M M1 → PLS_nx (M.1 20) (M.1 21) (M.2 29) (M.2 34) (K.2 46 d) (M.2 102 d) → VW v (PW_nx M (M.2 102 d)) → RP (rf_put (M.2 102 d) v M1) (DQm at' K M (aput (K.2 46 d) v (XSm at' M))) := fun M1 v f1 hp hv => by
    have hp1 : PLS_nx (M1.1 20) (M1.1 21) (M1.2 29) (M1.2 34) (K.2 46 d) (M.2 102 d) := by rw [fr1 f1 20 rfl, fr1 f1 21 rfl, fr2 f1 29 rfl, fr2 f1 34 rfl]; exact hp
    have hv1 : VW v (PW_nx M1 (M.2 102 d)) := by rw [PW_c_nx f1 rfl]; exact hv
    have m29' : ∀ i, 0 ≤ i → i < M1.1 20 → M1.2 29 (M1.2 34 i) ≤ 16 := by rw [fr1 f1 20 rfl, fr2 f1 29 rfl, fr2 f1 34 rfl]; exact m29
    intro z hz
    obtain ⟨a, b⟩ := aput_r (at' := at') (PLS_s hp m20 m29).1 z hz
    obtain ⟨c, e⟩ := put_V hp1 hv1 (VWm_f gV f1 rfl rfl) (IZm_f gI f1 rfl) (by rw [fr1 f1 20 rfl]; exact m20) m29' z hz
    rw [XSm_f f1 rfl rfl] at a
    have fz : fr [177] [138, 171, 172, 173, 175] M z.2 := fr_s b (fr_s f1 fr_0 rfl rfl) rfl rfl
    exact ⟨a, RGs_c g (fr_s fz fr_0 rfl rfl) c e, fz⟩
  obtain ⟨x1, x2, x3⟩ := hX
  unfold rf_doStatement
  rcases hD with ⟨e1, e2, hp, -, -, he⟩ | ⟨e1, e2, hp, h47, he, -⟩ | ⟨e1, e2, h46, h47, he, he2⟩ | ⟨e1, e2, ⟨i0, i1, h46⟩, -⟩ | ⟨e1, e2, h46, -⟩
  ·
    obtain ⟨y1, y2⟩ := x1 e2
    obtain ⟨q1, q2, q3⟩ := he
    rw [if_pos e1, ← q1, ← q3]
    have ead : adeed K (M.2 174) d (XSm at' M) = aput (K.2 46 d) (ev K (smM M) (M.2 174) (K.2 50 d) (K.2 51 d)) (XSm at' M) := by
      unfold adeed aval
      rw [if_pos e2, if_neg (by omega)]
      rfl
    rw [ead]
    refine RP_bnd (worth_m g0 hP y1) (fun z hz => ?_)
    obtain ⟨z1, z2, z3⟩ := hz
    unfold rfl_doStatement_71
    rw [z1]
    refine RP_bnd (putq z.2 _ z3 hp ?_) (fun w hw => RP_some hw)
    rw [← z1]
    exact z2.2 _ (PW_0 hp gW_nx).1 (PW_0 hp gW_nx).2 y2
  ·
    obtain ⟨y1, y2⟩ := x2 e2
    rw [if_neg (by omega), if_neg (by omega), if_pos e1]
    have ead : adeed K (M.2 174) d (XSm at' M) = aput (K.2 46 d) (M.2 138 (aidx K (M.2 174) d (XSm at' M))) (XSm at' M) := by
      unfold adeed
      rw [if_neg (by omega), if_neg (by omega), if_pos e2]
      rfl
    rw [ead]
    refine RP_bnd (wordAt_r (at' := at') g0 hA hP y1 h47 m22 he (fun z hz => hz.1)) (fun z hz => ?_)
    obtain ⟨z1, ⟨z2, z2'⟩, z3⟩ := hz
    unfold rfl_doStatement_93
    rw [fr2 z3 138 rfl, z1]
    refine RP_bnd (putq z.2 _ z3 hp ?_) (fun w hw => RP_some hw)
    rw [y2, ← z1]
    have v := gV.2.2 (M.2 103 d) (z.1 - 64 * M.2 103 d) h47.2.1 h47.2.2 (by omega) (by omega)
    rw [show 64 * M.2 103 d + (z.1 - 64 * M.2 103 d) = z.1 by omega] at v
    exact v
  ·
    obtain ⟨y1, y2, y3⟩ := x3 e2
    rw [if_neg (by omega), if_neg (by omega), if_neg (by omega), if_pos e1]
    obtain ⟨q1, q2, q3⟩ := he2
    have ead : adeed K (M.2 174) d (XSm at' M) = setp 1 (aidx K (M.2 174) d (XSm at' M)) (ev K (smM M) (M.2 174) (K.2 50 d) (K.2 51 d)) (XSm at' M) := by
      unfold adeed aval
      rw [if_neg (by omega), if_neg (by omega), if_neg (by omega), if_pos e2, if_neg (by omega)]
      rfl
    rw [ead]
    refine RP_bnd (wordAt_r (at' := at') g0 hA hP y1 h47 m22 he (fun z hz => hz.1)) (fun z hz => ?_)
    obtain ⟨z1, ⟨z2, z2'⟩, z3⟩ := hz
    unfold rfl_doStatement_105
    have gz : RGs K z.2 := RGs_c g (fr_s z3 fr_0 rfl rfl) (VWm_f gV z3 rfl rfl) (IZm_f gI z3 rfl)
    rw [fr2 z3 107 rfl, fr2 z3 108 rfl, ← q1, ← q3]
    have hPz : PVm K ac (z.2.2 174) := by rw [fr2 z3 174 rfl]; exact hP
    refine RP_bnd (worth_m gz.1 hPz y2) (fun w hw => ?_)
    obtain ⟨w1, w2, w3⟩ := hw
    rw [smM_c z3 rfl rfl, fr2 z3 174 rfl] at w1
    unfold rfl_doStatement_127
    have fw : fr [] [173] M w.2 := fr_s w3 z3 rfl rfl
    obtain ⟨p, ep⟩ : ∃ p, p = aidx K (M.2 174) d (XSm at' M) := ⟨_, rfl⟩
    rw [← ep] at z1 ⊢
    rw [← w1, z1]
    obtain ⟨-, -, -, -, -, -⟩ := hA _ h47.2.1 h47.2.2
    have fz : fr [177] [138, 171, 172, 173, 175] M (mO w.2 [] [(138, upI (w.2.2 138) p w.1)]) := fr_m (fr_s fw fr_0 rfl rfl) rfl rfl
    have s36 := (hA _ h47.2.1 h47.2.2).2
    refine RP_some ⟨?_, RGs_c g (fr_s fz fr_0 rfl rfl) ?_ (IZm_f gI (fr_m (fr_s fw fr_0 rfl rfl) rfl rfl : fr [] [138, 173] M (mO w.2 [] [(138, upI (w.2.2 138) p w.1)])) rfl), fz⟩
    · have ew : XSm at' w.2 = XSm at' M := XSm_f fw rfl rfl
      refine ⟨fun s s0 s1 => ?_, fun j j0 j1 => ?_, fun s s0 s1 => ?_⟩
      · show smM w.2 s = smM M s
        rw [smM_c fw rfl rfl]
      · show upI (w.2.2 138) p w.1 j = upI (M.2 138) p w.1 j
        rw [fr2 fw 138 rfl]
      · show w.2.2 169 (48 * at' + s) = M.2 169 (48 * at' + s)
        rw [fr2 fw 169 rfl]
    · have vw := VWm_f gV fw rfl rfl
      refine ⟨vw.1, vw.2.1, fun b i b0 b1 j0 j1 => ?_⟩
      show VW (upI (w.2.2 138) p w.1 (64 * b + i)) (w.2.2 36 b)
      by_cases e : 64 * b + i = p
      · rw [e, upI_s, show b = M.2 103 d by omega, fr2 fw 36 rfl]
        exact w2.2 _ (by omega) (by omega) y3
      · rw [upI_n e]
        exact vw.2.2 b i b0 b1 j0 j1
  ·
    have u01 : M.2 101 d = 324 ∨ M.2 101 d = 325 := e1
    rw [if_neg (by omega), if_neg (by omega), if_neg (by omega), if_neg (by omega)]
    have i12 : M.2 104 d < 12 := by omega
    have fin : ∀ (u : Int) (z : Int × mR), (u = 0 ∨ u = 1) → (fr [] [171, 175] M z.2 ∧ z.2.2 175 = upI (M.2 175) (M.2 104 d) u ∧ (∀ j, j < 16 * M.2 104 d ∨ 16 * M.2 104 d + 16 ≤ j → z.2.2 171 j = M.2 171 j) ∧ (u = 0 → ∀ f, 0 ≤ f → f < 16 → z.2.2 171 (16 * M.2 104 d + f) = 0) ∧ (u = 1 → z.2.2 171 = M.2 171)) → RGs K z.2 ∧ fr [177] [138, 171, 172, 173, 175] M z.2 := fun u z hu hz => by
      obtain ⟨f, h1, h2, h3, h4⟩ := hz
      have fz : fr [177] [138, 171, 172, 173, 175] M z.2 := fr_s f fr_0 rfl rfl
      refine ⟨RGs_c g (fr_s fz fr_0 rfl rfl) ⟨?_, fun i k a0 a1 k0 k1 => ?_, ?_⟩ (fun i a0 a1 hz k k0 k1 => ?_), fz⟩
      · rw [fr1 f 21 rfl, fr2 f 172 rfl, fr2 f 35 rfl]
        exact gV.1
      · rw [fr1 f 20 rfl] at a1
        rw [fr2 f 29 rfl, fr2 f 34 rfl] at k1
        rw [fr2 f 33 rfl, fr2 f 34 rfl]
        have k16 := m29 i a0 a1
        have v := gV.2.1 i k a0 a1 k0 k1
        rcases hu with hu | hu
        · by_cases ei : i = M.2 104 d
          · rw [ei, h3 hu k k0 (by rw [ei] at k1 k16; omega)]
            exact VW_le (VW_01 (Or.inl rfl)) (by rw [← ei]; exact (gW_nx.2 i k a0 a1 k0 k1).1)
          · rw [h2 _ (by omega)]
            exact v
        · rw [h4 hu]
          exact v
      · rw [fr1 f 22 rfl, fr2 f 138 rfl, fr2 f 36 rfl]
        exact gV.2.2
      · rw [h1] at hz
        by_cases ei : i = M.2 104 d
        · rw [ei, upI_s] at hz
          rw [ei]
          exact h3 hz k k0 k1
        · rw [upI_n ei] at hz
          rw [h2 _ (by omega)]
          exact gI i a0 a1 hz k k0 k1
    rcases u01 with eu | eu
    · rw [if_pos eu]
      refine RP_w (vld_r i0 i12 (Or.inr rfl) gI) (fun z hz => ⟨?_, fin 1 z (Or.inr rfl) hz⟩)
      obtain ⟨f, h1, h2, h3, h4⟩ := hz
      have ead : adeed K (M.2 174) d (XSm at' M) = setp 0 (17 * M.2 104 d) 1 (XSm at' M) := by
        unfold adeed
        rw [if_neg (by omega), if_neg (by omega), if_neg (by omega), if_neg (by omega), h46]
      rw [ead]
      refine ⟨fun s s0 s1 => ?_, fun j _ _ => by show z.2.2 138 j = M.2 138 j; rw [fr2 f 138 rfl], fun s _ _ => by show z.2.2 169 _ = M.2 169 _; rw [fr2 f 169 rfl]⟩
      show smM z.2 s = upI (smM M) (17 * M.2 104 d) 1 s
      unfold smM
      rw [fr1 f 177 rfl, fr2 f 172 rfl, h1, h4 rfl]
      by_cases es : s = 17 * M.2 104 d
      · rw [es, upI_s, if_neg (by omega), if_neg (by omega), if_pos (by omega), show 17 * M.2 104 d / 17 = M.2 104 d by omega, upI_s, if_neg (by decide)]
      · rw [upI_n es]
        by_cases q1 : s = 220
        · rw [if_pos q1, if_pos q1]
        · rw [if_neg q1, if_neg q1]
          by_cases q2 : 204 ≤ s
          · rw [if_pos q2, if_pos q2]
          · rw [if_neg q2, if_neg q2]
            by_cases q3 : s % 17 = 0
            · rw [if_pos q3, if_pos q3, upI_n (by omega)]
            · rw [if_neg q3, if_neg q3]
    · rw [if_neg (by omega)]
      refine RP_w (vld_r i0 i12 (Or.inl rfl) gI) (fun z hz => ⟨?_, fin 0 z (Or.inl rfl) hz⟩)
      obtain ⟨f, h1, h2, h3, h4⟩ := hz
      have ead : adeed K (M.2 174) d (XSm at' M) = atake (17 * M.2 104 d) (XSm at' M) := by
        unfold adeed
        rw [if_neg (by omega), if_pos (by omega), h46]
      rw [ead]
      refine ⟨fun s s0 s1 => ?_, fun j _ _ => by show z.2.2 138 j = M.2 138 j; rw [fr2 f 138 rfl], fun s _ _ => by show z.2.2 169 _ = M.2 169 _; rw [fr2 f 169 rfl]⟩
      show smM z.2 s = if 17 * M.2 104 d ≤ s ∧ s < 17 * M.2 104 d + 17 then 0 else smM M s
      unfold smM
      rw [fr1 f 177 rfl, fr2 f 172 rfl, h1]
      by_cases es : 17 * M.2 104 d ≤ s ∧ s < 17 * M.2 104 d + 17
      · rw [if_pos es, if_neg (by omega), if_neg (by omega)]
        by_cases q3 : s % 17 = 0
        · rw [if_pos q3, show s / 17 = M.2 104 d by omega, upI_s, if_pos rfl]
        · rw [if_neg q3, show s / 17 = M.2 104 d by omega]
          exact h3 rfl _ (by omega) (by omega)
      · rw [if_neg es]
        by_cases q1 : s = 220
        · rw [if_pos q1, if_pos q1]
        · rw [if_neg q1, if_neg q1]
          by_cases q2 : 204 ≤ s
          · rw [if_pos q2, if_pos q2]
          · rw [if_neg q2, if_neg q2]
            by_cases q3 : s % 17 = 0
            · rw [if_pos q3, if_pos q3, upI_n (by omega)]
            · rw [if_neg q3, if_neg q3]
              exact h2 _ (by omega)
  ·
    rw [if_neg (by omega), if_pos e1]
    have ead : adeed K (M.2 174) d (XSm at' M) = setp 0 220 1 (XSm at' M) := by
      unfold adeed
      rw [if_neg (by omega), if_neg (by omega), if_neg (by omega), if_neg (by omega), h46]
    rw [ead]
    have fz : fr [177] [138, 171, 172, 173, 175] M (mO M [(177, 1)] []) := fr_m fr_0 rfl rfl
    refine RP_some ⟨⟨fun s s0 s1 => ?_, fun _ _ _ => rfl, fun _ _ _ => rfl⟩, RGs_c g (fr_s fz fr_0 rfl rfl) gV gI, fz⟩
    show smM (mO M [(177, 1)] []) s = upI (smM M) 220 1 s
    by_cases e : s = 220
    · rw [e, upI_s]
      unfold smM
      rw [if_pos rfl]
      rfl
    · rw [upI_n e]
      unfold smM
      rw [if_neg e, if_neg e]
      rfl
end SMA

section SMB
variable {K M : mR} {t e : Int}
theorem xor_z {a b : Int} (ha : R64 a) (hb : R64 b) : xor64 a b = 0 ↔ a = b := by
  constructor
  · intro h
    refine bt_eq ha hb (fun i hi => ?_)
    have q : bt64 (xor64 a b) i = bt64 0 i := by rw [h]
    rw [bq_xor, bt_01.1] at q
    cases x : bt64 a i <;> cases y : bt64 b i <;> rw [x, y] at q <;> first | rfl | cases q
  · intro h
    rw [h]
    refine bt_eq xor_r (l64 0 rfl) (fun i hi => ?_)
    rw [bq_xor, bt_01.1]
    cases bt64 b i <;> rfl
theorem xm_eq {k v m : Int} (hv : and64 v m = v) : and64 (xor64 k v) m = 0 ↔ and64 k m = v := by
  have e : and64 (xor64 k v) m = xor64 (and64 k m) (and64 v m) := bt_eq and_r xor_r (fun i hi => by
    rw [bq_and, bq_xor, bq_xor, bq_and, bq_and]
    cases bt64 k i <;> cases bt64 v i <;> cases bt64 m i <;> rfl)
  rw [e, hv]
  exact xor_z and_r (by rw [← hv]; exact and_r)
theorem pfk_0 : ∀ n : Nat, (∀ j : Nat, j < n → K.2 81 (65536 * t + j) ≠ 313) → pfk K t e n = 0 := by
  intro n
  induction n with
  | zero => exact fun _ => rfl
  | succ n ih =>
    intro h
    show pfk K t e n + (if K.2 81 (65536 * t + n) = 313 then _ else 0) = 0
    rw [if_neg (h n (by omega)), ih (fun j hj => h j (by omega))]
    rfl
theorem pfm (t0 : 0 ≤ t) (t7 : t ≤ 7) (hK : TK_nx t K M) (hP : PK1 t (M.2 51 t) K) (hr : TR2 t e e K M) (e0 : 0 ≤ e) (e1 : e < 72) : RP (rf_prefixOf t e M) (fun y => y = pfk K t e (K.2 72 t).toNat) := by
  obtain ⟨k72, n0, n4, hk, -⟩ := hK
  obtain ⟨hr, -⟩ := hr
  rw [k72]
  unfold rf_prefixOf
  refine RP_bnd (P := fun v => v = pfk K t e (M.2 51 t).toNat) (RP_whl (I := fun s : Int × Int => (0 ≤ s.2 ∧ s.2 ≤ M.2 51 t) ∧ s.1 = pfk K t e s.2.toNat) (fun s hs => ?_) ⟨⟨Int.le_refl _, n0⟩, rfl⟩) (fun v hv => RP_some hv)
  obtain ⟨v, i⟩ := s
  obtain ⟨⟨i0, i1⟩, hv⟩ := hs
  have i0 : 0 ≤ i := i0
  have i1 : i ≤ M.2 51 t := i1
  have hv : v = pfk K t e i.toNat := hv
  unfold rfb_prefixOf_5
  refine RP_ite (fun g => RP_some ?_) (fun g => ?_)
  · have g : M.2 51 t ≤ i := g
    show v = _
    rw [hv, show i = M.2 51 t by omega]
  have g : ¬ M.2 51 t ≤ i := g
  obtain ⟨-, -, -, -, -, -, k81, -⟩ := hk i i0 (by omega)
  obtain ⟨r1, r2, r3⟩ := hr i i0 (by omega)
  have cs : cut (cut (4 * t) + i) = 4 * t + i := by rw [cut_i (z := 4 * t) (by omega) (by omega), cut_i (by omega) (by omega)]
  have it : ((i.toNat : Nat) : Int) = i := by omega
  have e4 : (i + 1).toNat = i.toNat + 1 := by omega
  have nx : pfk K t e (i + 1).toNat = pfk K t e i.toNat + (if M.2 113 (4 * t + i) = 313 then ((cbt (un (M.2 143 (4 * (96 * t + e) + i))) 64 : Nat) : Int) else 0) := by
    rw [e4]
    show pfk K t e i.toNat + (if K.2 81 (65536 * t + ((i.toNat : Nat) : Int)) = 313 then ((cbt (un (K.2 86 (65536 * t + (4 * e + ((i.toNat : Nat) : Int))))) 64 : Nat) : Int) else 0) = _
    rw [it, k81, show 4 * e + i = e * 4 + i by omega, r2]
  show RP (if M.2 113 (cut (cut (4 * t) + i)) = 313 then _ else _) _
  rw [cs]
  refine RP_ite (fun g3 => ?_) (fun g3 => ?_)
  · show RP (bnd (rf_slot t e M) fun y5 => bnd (rf_ones (M.2 143 (cut (cut (4 * y5) + i))) M) fun y7 => rfl_prefixOf_53 t e y7 i M) _
    unfold rf_slot rfl_prefixOf_53
    rw [bnd_some, cut_i (z := 96 * t) (by omega) (by omega), cut_i (z := 96 * t + e) (by omega) (by omega), cut_i (z := 4 * (96 * t + e)) (by omega) (by omega), cut_i (z := 4 * (96 * t + e) + i) (by omega) (by omega), ones_r, bnd_some, cut_i (z := i + 1) (by omega) (by omega)]
    refine RP_some ⟨⟨show 0 ≤ i + 1 by omega, show i + 1 ≤ M.2 51 t by omega⟩, ?_⟩
    show ((cbt (un (M.2 143 (4 * (96 * t + e) + i))) 64 : Nat) : Int) = pfk K t e (i + 1).toNat
    have z : pfk K t e i.toNat = 0 := pfk_0 _ (fun j hj q => by
      have := hP j i (by omega) (by omega) i0 (by omega) q (k81.trans g3)
      omega)
    rw [nx, if_pos g3, z]
    omega
  · show RP (rfl_prefixOf_53 t e v i M) _
    unfold rfl_prefixOf_53
    rw [cut_i (z := i + 1) (by omega) (by omega)]
    refine RP_some ⟨⟨show 0 ≤ i + 1 by omega, show i + 1 ≤ M.2 51 t by omega⟩, ?_⟩
    show v = pfk K t e (i + 1).toNat
    rw [nx, if_neg g3, hv]
    omega
theorem matm (t0 : 0 ≤ t) (t7 : t ≤ 7) (hK : TK_nx t K M) (hr : TR2 t e e K M) (e0 : 0 ≤ e) (e1 : e < 72) : RP (rf_matches t e M) (fun y => y = htk K t e (M.2 178) (K.2 72 t).toNat) := by
  obtain ⟨k72, n0, n4, hk, -⟩ := hK
  obtain ⟨hr, -⟩ := hr
  rw [k72]
  unfold rf_matches
  refine RP_bnd (P := fun v => v = htk K t e (M.2 178) (M.2 51 t).toNat) (RP_whl (I := fun s : Int × Int => (0 ≤ s.2 ∧ s.2 ≤ M.2 51 t) ∧ s.1 = htk K t e (M.2 178) s.2.toNat) (fun s hs => ?_) ⟨⟨Int.le_refl _, n0⟩, rfl⟩) (fun v hv => RP_some hv)
  obtain ⟨v, i⟩ := s
  obtain ⟨⟨i0, i1⟩, hv⟩ := hs
  have i0 : 0 ≤ i := i0
  have i1 : i ≤ M.2 51 t := i1
  have hv : v = htk K t e (M.2 178) i.toNat := hv
  unfold rfb_matches_5
  refine RP_ite (fun g => RP_some ?_) (fun g => ?_)
  · have g : M.2 51 t ≤ i := g
    show v = _
    rw [hv, show i = M.2 51 t by omega]
  have g : ¬ M.2 51 t ≤ i := g
  obtain ⟨r1, r2, r3⟩ := hr i i0 (by omega)
  have it : ((i.toNat : Nat) : Int) = i := by omega
  have e4 : (i + 1).toNat = i.toNat + 1 := by omega
  have nx : htk K t e (M.2 178) (i + 1).toNat = if and64 (M.2 178 i) (M.2 143 (4 * (96 * t + e) + i)) = M.2 142 (4 * (96 * t + e) + i) then v else 0 := by
    rw [e4]
    show (if and64 (xor64 (M.2 178 ((i.toNat : Nat) : Int)) (K.2 85 (65536 * t + (4 * e + ((i.toNat : Nat) : Int))))) (K.2 86 (65536 * t + (4 * e + ((i.toNat : Nat) : Int)))) = 0 then htk K t e (M.2 178) i.toNat else 0) = _
    rw [it, show 4 * e + i = e * 4 + i by omega, r1, r2, ← hv]
    by_cases q : and64 (M.2 178 i) (M.2 143 (4 * (96 * t + e) + i)) = M.2 142 (4 * (96 * t + e) + i)
    · rw [if_pos q, if_pos ((xm_eq r3).mpr q)]
    · rw [if_neg q, if_neg (fun z => q ((xm_eq r3).mp z))]
  have c1 : cut (i + 1) = i + 1 := cut_i (by omega) (by omega)
  have ok : (0 ≤ i + 1 ∧ i + 1 ≤ M.2 51 t) := by omega
  unfold rfl_matches_68 rfl_matches_69 rf_slot
  show RP (if v = 0 then some (Sum.inl ((0 : Int), cut (i + 1))) else bnd (some (cut (cut (96 * t) + e))) fun y5 => bnd (some (cut (cut (96 * t) + e))) fun y7 => if cmp64 (and64 (M.2 178 i) (M.2 143 (cut (cut (4 * y5) + i)))) (M.2 142 (cut (cut (4 * y7) + i))) = 0 then some (Sum.inl ((1 : Int), cut (i + 1))) else some (Sum.inl ((0 : Int), cut (i + 1)))) _
  rw [bnd_some, bnd_some, cut_i (z := 96 * t) (by omega) (by omega), cut_i (z := 96 * t + e) (by omega) (by omega), cut_i (z := 4 * (96 * t + e)) (by omega) (by omega), cut_i (z := 4 * (96 * t + e) + i) (by omega) (by omega), c1]
  refine RP_ite (fun g0 => RP_some ⟨ok, ?_⟩) (fun g0 => RP_ite (fun g1 => RP_some ⟨ok, ?_⟩) (fun g1 => RP_some ⟨ok, ?_⟩))
  · show (0 : Int) = htk K t e (M.2 178) (i + 1).toNat
    rw [nx, g0]
    split <;> rfl
  · show (1 : Int) = htk K t e (M.2 178) (i + 1).toNat
    rw [nx, if_pos (cmp64_0.mp g1)]
    rcases htk_01 K t e (M.2 178) i.toNat with q | q
    · exact absurd (hv.trans q) g0
    · exact (hv.trans q).symm
  · show (0 : Int) = htk K t e (M.2 178) (i + 1).toNat
    rw [nx, if_neg (fun q => g1 (cmp64_0.mpr q))]
theorem mtk_p (ks : Int → Int) : ∀ n : Nat, (mtk K t ks n).1 ≠ -1 → (mtk K t ks n).2 = pfk K t (mtk K t ks n).1 (K.2 72 t).toNat := by
  intro n
  induction n with
  | zero => exact fun q => absurd rfl q
  | succ n ih =>
    unfold mtk
    split
    · exact ih
    · split
      · exact fun _ => rfl
      · exact ih

def TQ1 (t : Int) (K M : mR) : Prop := K.2 78 t = M.2 139 t ∧ (0 ≤ M.2 139 t ∧ M.2 139 t ≤ 72) ∧ (M.2 58 t = 0 → M.2 139 t ≤ M.2 54 t) ∧ (∀ e, 0 ≤ e → e < M.2 139 t → TR2 t e e K M) ∧ True
theorem TQ_1 (h : TQ t K M) : TQ1 t K M := ⟨h.1, h.2.1, h.2.2.1, h.2.2.2.1, trivial⟩
theorem lkm (t0 : 0 ≤ t) (t7 : t ≤ 7) (hK : TK_nx t K M) (hP : PK1 t (M.2 51 t) K) (hQ : TQ1 t K M) : RP (whl (rfb_doTable_52 t M) (-1, 0)) (fun b => b = (mtk K t (M.2 178) (K.2 78 t).toNat).1) := by
  obtain ⟨k78, ⟨m0, m72⟩, -, hr, -⟩ := hQ
  rw [k78]
  refine RP_whl (I := fun s : Int × Int => (0 ≤ s.2 ∧ s.2 ≤ M.2 139 t) ∧ s.1 = (mtk K t (M.2 178) s.2.toNat).1) (fun s hs => ?_) ⟨⟨Int.le_refl _, m0⟩, rfl⟩
  obtain ⟨b, i⟩ := s
  obtain ⟨⟨i0, i1⟩, hb⟩ := hs
  have i0 : 0 ≤ i := i0
  have i1 : i ≤ M.2 139 t := i1
  have hb : b = (mtk K t (M.2 178) i.toNat).1 := hb
  unfold rfb_doTable_52
  refine RP_ite (fun g => RP_some ?_) (fun g => ?_)
  · have g : M.2 139 t ≤ i := g
    show b = _
    rw [hb, show i = M.2 139 t by omega]
  have g : ¬ M.2 139 t ≤ i := g
  have it : ((i.toNat : Nat) : Int) = i := by omega
  have e4 : (i + 1).toNat = i.toNat + 1 := by omega
  have c1 : cut (i + 1) = i + 1 := cut_i (by omega) (by omega)
  have ok : (0 ≤ i + 1 ∧ i + 1 ≤ M.2 139 t) := by omega
  obtain ⟨mr, -, -⟩ := mtk_r K t (M.2 178) i.toNat
  have nx : (mtk K t (M.2 178) (i + 1).toNat).1 = if htk K t i (M.2 178) (K.2 72 t).toNat = 0 then b else if b = -1 ∨ (mtk K t (M.2 178) i.toNat).2 < pfk K t i (K.2 72 t).toNat ∨ (pfk K t i (K.2 72 t).toNat = (mtk K t (M.2 178) i.toNat).2 ∧ K.2 88 (65536 * t + b) < K.2 88 (65536 * t + i)) then i else b := by
    rw [e4, hb]
    show (if htk K t ((i.toNat : Nat) : Int) (M.2 178) (K.2 72 t).toNat = 0 then mtk K t (M.2 178) i.toNat else if (mtk K t (M.2 178) i.toNat).1 = -1 ∨ (mtk K t (M.2 178) i.toNat).2 < pfk K t ((i.toNat : Nat) : Int) (K.2 72 t).toNat ∨ (pfk K t ((i.toNat : Nat) : Int) (K.2 72 t).toNat = (mtk K t (M.2 178) i.toNat).2 ∧ K.2 88 (65536 * t + (mtk K t (M.2 178) i.toNat).1) < K.2 88 (65536 * t + ((i.toNat : Nat) : Int))) then (((i.toNat : Nat) : Int), pfk K t ((i.toNat : Nat) : Int) (K.2 72 t).toNat) else mtk K t (M.2 178) i.toNat).1 = _
    rw [it]
    split
    · rfl
    · split
      · rfl
      · rfl
  show RP (bnd (rf_matches t i M) fun y27 => if y27 = 0 then rfl_doTable_151 t b i M else if b < 0 then rfl_doTable_133 t b i M else bnd (rf_prefixOf t i M) fun y31 => bnd (rf_prefixOf t b M) fun y33 => if y33 < y31 then rfl_doTable_133 t b i M else bnd (rf_prefixOf t i M) fun y36 => bnd (rf_prefixOf t b M) fun y38 => if y36 = y38 then bnd (rf_slot t i M) fun y41 => bnd (rf_slot t b M) fun y43 => if M.2 140 y41 ≤ M.2 140 y43 then rfl_doTable_137 t b i M else rfl_doTable_133 t b i M else rfl_doTable_137 t b i M) _
  unfold rfl_doTable_137 rfl_doTable_133 rfl_doTable_138 rfl_doTable_150 rfl_doTable_151
  rw [if_neg (show ¬ (1 : Int) = 0 by decide), if_pos (show (0 : Int) = 0 from rfl), c1]
  have hi := hr i i0 (by omega)
  refine RP_bnd (matm t0 t7 hK hi i0 (by omega)) (fun y hy => ?_)
  rw [hy]
  refine RP_ite (fun g0 => RP_some ⟨ok, ?_⟩) (fun g0 => RP_ite (fun g1 => RP_some ⟨ok, ?_⟩) (fun g1 => ?_))
  · show b = _
    rw [nx, if_pos g0]
  · show i = _
    rw [nx, if_neg g0, if_pos (Or.inl (by omega))]
  have b0 : 0 ≤ b := by omega
  have b1 : b < i := by omega
  have hbr := hr b b0 (by omega)
  have p2 : (mtk K t (M.2 178) i.toNat).2 = pfk K t b (K.2 72 t).toNat := by
    rw [hb]
    exact mtk_p _ _ (by omega)
  rw [p2] at nx
  refine RP_bnd (pfm t0 t7 hK hP hi i0 (by omega)) (fun y1 h1 => RP_bnd (pfm t0 t7 hK hP hbr b0 (by omega)) (fun y2 h2 => ?_))
  rw [h1, h2]
  refine RP_ite (fun g2 => RP_some ⟨ok, ?_⟩) (fun g2 => RP_bnd (pfm t0 t7 hK hP hi i0 (by omega)) (fun y3 h3 => RP_bnd (pfm t0 t7 hK hP hbr b0 (by omega)) (fun y4 h4 => ?_)))
  · show i = _
    rw [nx, if_neg g0, if_pos (Or.inr (Or.inl g2))]
  rw [h3, h4]
  unfold rf_slot
  rw [bnd_some, bnd_some, cut_i (z := 96 * t) (by omega) (by omega), cut_i (z := 96 * t + i) (by omega) (by omega), cut_i (z := 96 * t + b) (by omega) (by omega)]
  have k88 := hi.2.1
  have k88' := hbr.2.1
  rw [k88, k88'] at nx
  refine RP_ite (fun g3 => RP_ite (fun g4 => RP_some ⟨ok, ?_⟩) (fun g4 => RP_some ⟨ok, ?_⟩)) (fun g3 => RP_some ⟨ok, ?_⟩)
  · show b = _
    rw [nx, if_neg g0, if_neg (fun q => by rcases q with q | q | ⟨-, q⟩ <;> omega)]
  · show i = _
    rw [nx, if_neg g0, if_pos (Or.inr (Or.inr ⟨g3, by omega⟩))]
  · show b = _
    rw [nx, if_neg g0, if_neg (fun q => by rcases q with q | q | ⟨q, -⟩ <;> omega)]
end SMB
