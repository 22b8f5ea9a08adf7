/-! ===== p20: the relation between calls ===== -/
theorem pqm_0 : (pmL.all fun k => decide (k < 179) && decide (3 ≤ mkd k)) = true := by decide +kernel
theorem pqm_1 {k : Nat} (h : k ∈ pmL) : k < 179 ∧ 3 ≤ mkd k := by
  have q := List.all_eq_true.mp pqm_0 k h
  rw [Bool.and_eq_true, decide_eq_true_eq, decide_eq_true_eq] at q
  exact q
section TPD
variable {K K1 M M1 y z : mR} {i : Int} {c1 c2 c3 c4 : Nat → Option am_C} {F A G C : List Nat}
theorem PQ20_h (h : PQ20 y z) (hG : ∀ t, 0 ≤ t → t < z.1 26 → GVQ t y z) (h26 : z.1 26 ≤ 8) (w0 : 0 ≤ z.1 151) (hl : 0 ≤ z.1 149 ∧ z.1 151 ≤ z.1 150) (h225 : 0 ≤ y.1 225) (hk : khp K1 c1 = khp y c2) (hm : mhp M1 c3 = mhp z c4) (vK : KTy K1) (vM : Ty M1) (cK : KCn y) (cM : Cn z) (hr : ∀ r, 0 ≤ r → r < 128 → r < z.1 150 + z.1 149 → 1 ≤ K1.2 107 r ∧ 1 ≤ y.2 107 r) : PQ20 K1 M1 := by
  have fm : ∀ k, k < 179 → mkd k < 3 → M1.1 k = z.1 k := fun k q1 q2 => HMf hm q1 q2 ((Ty_V vM).1 k) (cM.1 k)
  have KV := (KTy_V vK).2
  refine PQ20_p h hG w0 (fm 25 (by decide) (by decide)) (fm 26 (by decide) (by decide)) (fm 149 (by decide) (by decide)) (fm 150 (by decide) (by decide)) (fm 151 (by decide) (by decide)) (fm 152 (by decide) (by decide)) (fun k hk' j j0 => ?_) (fun t t0 t1 => ⟨?_, fun j j0 j1 => ?_⟩) (fun k k0 k1 => ?_) hl (fun t _ _ => ?_)
  · obtain ⟨n, rfl⟩ : ∃ n : Nat, j = n := ⟨j.toNat, by omega⟩
    exact HMa hm (pqm_1 hk').1 (pqm_1 hk').2 ((Ty_V vM).2 k n) (cM.2 k n)
  · obtain ⟨n, rfl⟩ : ∃ n : Nat, t = n := ⟨t.toNat, by omega⟩
    exact HKt hk (by omega) (by decide) (by decide) (KV 78 n) (cK.2.1 78 n)
  · obtain ⟨n, rfl⟩ : ∃ n : Nat, t = n := ⟨t.toNat, by omega⟩
    obtain ⟨q, rfl⟩ : ∃ q : Nat, j = 65536 * (n : Int) + q := ⟨(j - 65536 * n).toNat, by omega⟩
    exact ⟨HKu hk (by omega) (by omega) (by decide) (by decide) (KV 85 _) (cK.2.1 85 _), HKu hk (by omega) (by omega) (by decide) (by decide) (KV 86 _) (cK.2.1 86 _), HKu hk (by omega) (by omega) (by decide) (by decide) (KV 87 _) (cK.2.1 87 _), HKu hk (by omega) (by omega) (by decide) (by decide) (KV 88 _) (cK.2.1 88 _), HKu hk (by omega) (by omega) (by decide) (by decide) (KV 89 _) (cK.2.1 89 _)⟩
  · obtain ⟨b1, b2⟩ := hr (k % 128) (by omega) (by omega) (by omega)
    have o1 : OKr K1 (k % 128) := by
      rcases vK.2.2.2.1 (k % 128) (by omega) (by omega) with q | q
      · omega
      · exact q
    have o2 : OKr y (k % 128) := by
      rcases cK.2.2.2.1 (k % 128) (by omega) (by omega) with q | q
      · omega
      · exact q
    refine ⟨HKo hk o1 o2 (by decide) (by decide) (KV 91 _) (cK.2.1 91 _), HKo hk o1 o2 (by decide) (by decide) (KV 95 _) (cK.2.1 95 _), HKo hk o1 o2 (by decide) (by decide) (KV 96 _) (cK.2.1 96 _), HKo hk o1 o2 (by decide) (by decide) (KV 97 _) (cK.2.1 97 _), fun j j0 j1 => ?_⟩
    obtain ⟨q, rfl⟩ : ∃ q : Nat, j = q := ⟨j.toNat, by omega⟩
    exact ⟨HKw hk o1 o2 (by omega) (by decide) (by decide) (KV 103 _) (cK.2.1 103 _), HKw hk o1 o2 (by omega) (by decide) (by decide) (KV 104 _) (cK.2.1 104 _), HKw hk o1 o2 (by omega) (by decide) (by decide) (KV 105 _) (cK.2.1 105 _)⟩
  · refine home_p h225 (HKf hk (by decide) (by decide) ((KTy_V vK).1 225) (cK.1 225)) (fun j j0 _ => ?_) (fun j j0 _ => ?_)
    · obtain ⟨n, rfl⟩ : ∃ n : Nat, j = n := ⟨j.toNat, by omega⟩
      exact HKa hk (by decide) (KV 55 n) (cK.2.1 55 n)
    · obtain ⟨n, rfl⟩ : ∃ n : Nat, j = n := ⟨j.toNat, by omega⟩
      exact HKa hk (by decide) (KV 59 n) (cK.2.1 59 n)
def qkL : List Nat := [55, 59, 78, 85, 86, 87, 88, 89, 91, 95, 96, 97, 103, 104, 105]
/-- calls that leave tables and line alone -/
theorem PQ20_f (h : PQ20 K M) (hG : ∀ t, 0 ≤ t → t < M.1 26 → GVQ t K M) (w0 : 0 ≤ M.1 151) (hl : 0 ≤ M.1 149 ∧ M.1 151 ≤ M.1 150) (fK : fr F A K K1) (fM : fr G C M M1) (k1 : chk [225] F = true) (k2 : chk qkL A = true) (k3 : chk [25, 26, 149, 150, 151, 152] G = true) (k4 : chk pmL C = true) : PQ20 K1 M1 := by
  refine PQ20_p h hG w0 (fr1 fM 25 (chk_1 k3 (by decide))) (fr1 fM 26 (chk_1 k3 (by decide))) (fr1 fM 149 (chk_1 k3 (by decide))) (fr1 fM 150 (chk_1 k3 (by decide))) (fr1 fM 151 (chk_1 k3 (by decide))) (fr1 fM 152 (chk_1 k3 (by decide))) (fun k hk j _ => congrFun (fr2 fM k (chk_1 k4 hk)) j) (fun t _ _ => ?_) (fun k _ _ => ?_) hl (fun t _ _ => home_c (fr1 fK 225 (chk_1 k1 (by decide))) (fr2 fK 55 (chk_1 k2 (by decide))) (fr2 fK 59 (chk_1 k2 (by decide))))
  · rw [fr2 fK 78 (chk_1 k2 (by decide)), fr2 fK 85 (chk_1 k2 (by decide)), fr2 fK 86 (chk_1 k2 (by decide)), fr2 fK 87 (chk_1 k2 (by decide)), fr2 fK 88 (chk_1 k2 (by decide)), fr2 fK 89 (chk_1 k2 (by decide))]
    exact ⟨rfl, fun _ _ _ => ⟨rfl, rfl, rfl, rfl, rfl⟩⟩
  · unfold opE
    rw [fr2 fK 91 (chk_1 k2 (by decide)), fr2 fK 95 (chk_1 k2 (by decide)), fr2 fK 96 (chk_1 k2 (by decide)), fr2 fK 97 (chk_1 k2 (by decide)), fr2 fK 103 (chk_1 k2 (by decide)), fr2 fK 104 (chk_1 k2 (by decide)), fr2 fK 105 (chk_1 k2 (by decide))]
    exact ⟨rfl, rfl, rfl, rfl, fun _ _ _ => ⟨rfl, rfl, rfl⟩⟩
theorem HSs_f (h : HSs M) (fM : fr G C M M1) (k3 : chk [27, 128, 129] G = true) (k4 : chk [131] C = true) : HSs M1 := by
  unfold HSs
  rw [fr1 fM 27 (chk_1 k3 (by decide)), fr1 fM 128 (chk_1 k3 (by decide)), fr1 fM 129 (chk_1 k3 (by decide)), fr2 fM 131 (chk_1 k4 (by decide))]
  exact h
theorem KYR_f (h : KYR K M) (fK : fr F A K K1) (fM : fr G C M M1) (k2 : chk [2, 3, 4] A = true) (k4 : chk [145, 146, 147] C = true) : KYR K1 M1 := by
  unfold KYR
  rw [fr2 fK 2 (chk_1 k2 (by decide)), fr2 fK 3 (chk_1 k2 (by decide)), fr2 fK 4 (chk_1 k2 (by decide)), fr2 fM 145 (chk_1 k4 (by decide)), fr2 fM 146 (chk_1 k4 (by decide)), fr2 fM 147 (chk_1 k4 (by decide))]
  exact h
theorem IM_l (hM : Ty M) (h : IM i M) : 0 ≤ M.1 151 ∧ 0 ≤ M.1 149 ∧ M.1 151 ≤ M.1 150 := ⟨(hM.1 151).1, (hM.1 149).1, IM_pou h⟩
theorem PQs_fr (hRel : RX K M) (hM : Ty M) (hIM : IM i M) (h : PQs K M) (fK : fr F A K K1) (fM : fr G C M M1) (k1 : chk [225] F = true) (k2 : chk (2 :: 3 :: 4 :: qkL) A = true) (k3 : chk [25, 26, 27, 127, 128, 129, 149, 150, 151, 152] G = true) (k4 : chk (131 :: 145 :: 146 :: 147 :: pmL) C = true) : PQs K1 M1 := by
  obtain ⟨h0, h1, h2⟩ := h
  obtain ⟨w0, l0, l1⟩ := IM_l hM hIM
  refine ⟨KYR_f h0 fK fM (chk_s k2 rfl) (chk_s k4 rfl), HSs_f h1 fM (chk_s k3 rfl) (chk_s k4 rfl), fun q => ?_⟩
  rw [fr1 fM 127 (chk_1 k3 (by decide))] at q
  exact PQ20_f (h2 q) (RX_GV hRel hIM q).1 w0 ⟨l0, l1⟩ fK fM k1 (chk_s k2 rfl) (chk_s k3 rfl) (chk_s k4 rfl)
/-- no table holds an entry, nobody waits -/
theorem PQ20_0 (hG : ∀ t, 0 ≤ t → t < M.1 26 → GVQ t K M) (h78 : ∀ t, 0 ≤ t → t < M.1 26 → K.2 78 t = 0) (h139 : ∀ t, 0 ≤ t → t < M.1 26 → M.2 139 t = 0) (e149 : M.1 149 = 0) (e150 : M.1 150 = 0) (e151 : M.1 151 = 0) : PQ20 K M := by
  unfold PQ20
  rw [e149, e150, e151]
  refine ⟨fun _ => M.2, fun _ _ _ _ _ => rfl, fun t t0 t1 => ?_, ⟨fun k k0 k1 => by omega, fun k k0 k1 => by omega, fun t t0 t1 => ⟨0, ⟨⟨Int.le_refl _, Int.le_refl _⟩, fun k k0 k1 => by omega, fun k k0 k1 => by omega⟩, ?_⟩⟩, fun q q0 q1 => by omega⟩
  · have g := (hG t t0 t1).2.1.2.2.2.2.1
    unfold TOK
    rw [h139 t t0 t1]
    exact ⟨⟨by decide, by decide⟩, fun _ => by omega⟩
  · have g := (hG t t0 t1).2.1.2.2.2.2.1
    have e : (wT M M.2).2 139 t = 0 := h139 t t0 t1
    unfold TQ
    rw [e]
    refine ⟨h78 t t0 t1, ⟨by decide, by decide⟩, fun _ => ?_, fun x x0 x1 => by omega, fun x x' x0 x1 x2 => by omega⟩
    show 0 ≤ M.2 54 t
    omega
theorem PQs_read {yy : Int × Int × mR} {zz : Int × mR} {Kp mp : mR} (h0 : KYR K M) (hy : kf_pw_read Kp = some yy) (hz : rf_read mp = some zz) (cK : KCn yy.2.2) (cM : Cn zz.2) (hk : khp K1 c1 = khp yy.2.2 c2) (hm : mhp M1 c3 = mhp zz.2 c4) (vK : KTy K1) (vM : Ty M1) (fK : fr F A K K1) (fM : fr G C M M1) (k2 : chk [2, 3, 4] A = true) (k4 : chk [145, 146, 147] C = true) (hRX : RX K1 M1) (hIM1 : IM i M1) (hz0 : K1.1 232 = 0 ∧ K1.1 233 = 0 ∧ (K1.1 201 = 1 → ∀ t, 0 ≤ t → t < K1.1 219 → K1.2 78 t = 0)) : PQs K1 M1 := by
  obtain ⟨x1, x2, x3, x4, x5, x6, x7⟩ := RX_fa hRX
  obtain ⟨b1, b2, b4⟩ := hz0
  have b3 : K1.1 226 = 0 := (HKf hk (by decide) (by decide) ((KTy_V vK).1 226) (cK.1 226)).trans (read_ku yy hy).1.2.2.1
  have pin := IM_pin hIM1
  have pou := IM_pou hIM1
  have t1 : 0 ≤ M1.1 151 := (vM.1 151).1
  have h8 : M1.1 128 ≠ 1 := by
    rcases x2 with ⟨a, b, c⟩ | ⟨a, -⟩ <;> omega
  refine ⟨KYR_f h0 fK fM k2 k4, fun q => absurd q h8, fun q => ?_⟩
  obtain ⟨g1, ⟨g2, g3⟩, -⟩ := RX_GV hRX hIM1 q
  refine PQ20_0 g1 (fun t t0 t1 => b4 (by omega) t t0 (by have := x7 q; omega)) (fun t t0 t1 => ?_) (by omega) (by omega) (by omega)
  obtain ⟨n, rfl⟩ : ∃ n : Nat, t = n := ⟨t.toNat, by omega⟩
  have e : M1.2 139 n = zz.2.2 139 n := HMa hm (by decide) (by decide) ((Ty_V vM).2 139 n) (cM.2 139 n)
  rw [e]
  exact read_9 zz hz n (by omega) (by omega)
/-- the homes may be others where nobody is in the stages -/
theorem PQ20_e (h : PQ20 K M) (hG : ∀ t, 0 ≤ t → t < M.1 26 → GVQ t K M) (e150 : M.1 150 = 0) (e151 : M.1 151 = 0) (l0 : 0 ≤ M.1 149) (fK : fr F A K K1) (fM : fr G C M M1) (k2 : chk pkL A = true) (k3 : chk [25, 26, 149, 150, 151, 152] G = true) (k4 : chk pmL C = true) : PQ20 K1 M1 := by
  obtain ⟨HT, h1, h2, ⟨g1, g2, g3⟩, h4⟩ := h
  have m1 : ∀ k, k ∈ pmL → M1.2 k = M.2 k := fun k hk => fr2 fM k (chk_1 k4 hk)
  have e26 : M1.1 26 = M.1 26 := fr1 fM 26 (chk_1 k3 (by decide))
  unfold PQ20
  rw [fr1 fM 149 (chk_1 k3 (by decide)), fr1 fM 150 (chk_1 k3 (by decide)), fr1 fM 151 (chk_1 k3 (by decide)), fr1 fM 152 (chk_1 k3 (by decide)), e26, e150, e151]
  rw [e150] at h1
  refine ⟨HT, fun k k0 k1 j j0 => ?_, fun t t0 t1 => ?_, ⟨fun k k0 k1 => by omega, fun k k0 k1 => by omega, fun t t0 t1 => ?_⟩, fun q q0 q1 => ?_⟩
  · rw [h1 k k0 k1 j j0]
    refine (congrFun (m1 k ?_) j).symm
    unfold pmL
    simp only [List.mem_cons, List.not_mem_nil, or_false]
    omega
  · have w := h2 t t0 t1
    unfold TOK at w ⊢
    rw [m1 139 (by decide), m1 58 (by decide), m1 54 (by decide)]
    exact w
  · rw [e26] at t1
    obtain ⟨n, ⟨⟨n1, n2⟩, -, -⟩, n4⟩ := g3 t t0 t1
    rw [e150] at n2
    rw [e151] at n1
    have g := hG t t0 t1
    refine ⟨n, ⟨⟨n1, n2⟩, fun k k0 k1 => by omega, fun k k0 k1 => by omega⟩, TQ_f n4 ?_ (fun j _ _ => ?_) rfl (fun _ _ _ => ⟨rfl, rfl⟩) (fun _ _ _ => ⟨rfl, rfl, rfl⟩) g.2.1.1.2.2.1 (GVQ_4 g) (congrFun (m1 51 (by decide)) t) (fun j _ => congrFun (m1 46 (by decide)) j) (fun j _ => congrFun (m1 49 (by decide)) j) (congrFun (m1 54 (by decide)) t) (congrFun (m1 58 (by decide)) t) (fr1 fM 25 (chk_1 k3 (by decide)))⟩
    · rw [fr2 fK 78 (chk_1 k2 (by decide))]
    · rw [fr2 fK 85 (chk_1 k2 (by decide)), fr2 fK 86 (chk_1 k2 (by decide)), fr2 fK 87 (chk_1 k2 (by decide)), fr2 fK 88 (chk_1 k2 (by decide)), fr2 fK 89 (chk_1 k2 (by decide))]
      exact ⟨rfl, rfl, rfl, rfl, rfl⟩
  · have w := h4 q q0 q1
    rw [e150] at w
    refine LNQ_K (F := F) (A := A) ?_ fK (chk_s k2 rfl) (fun j _ _ => ?_)
    · unfold LNQ
      rw [m1 153 (by decide), m1 156 (by decide), m1 157 (by decide), m1 158 (by decide), m1 160 (by decide), m1 161 (by decide), m1 162 (by decide), e26]
      exact w
    · rw [fr2 fK 103 (chk_1 k2 (by decide)), fr2 fK 104 (chk_1 k2 (by decide)), fr2 fK 105 (chk_1 k2 (by decide))]
      exact ⟨rfl, rfl, rfl⟩
/-- where the stages are empty the tables are those of the reference -/
theorem TQ_now {t : Int} (h : PQ20 K M) (hG : GVQ t K M) (e : M.1 150 ≤ M.1 151) (t0 : 0 ≤ t) (t1 : t < M.1 26) : TQ t K M := by
  obtain ⟨HT, h1, -, ⟨-, -, g3⟩, -⟩ := h
  obtain ⟨n, ⟨⟨n1, n2⟩, -, -⟩, n4⟩ := g3 t t0 t1
  rw [show n = M.1 150 by omega] at n4
  exact TQ_f n4 rfl (fun _ _ _ => ⟨rfl, rfl, rfl, rfl, rfl⟩) (h1 139 (by decide) (by decide) t t0).symm (fun j j0 _ => ⟨(h1 140 (by decide) (by decide) j (by omega)).symm, (h1 141 (by decide) (by decide) j (by omega)).symm⟩) (fun j j0 _ => ⟨(h1 142 (by decide) (by decide) j (by omega)).symm, (h1 143 (by decide) (by decide) j (by omega)).symm, (h1 144 (by decide) (by decide) j (by omega)).symm⟩) hG.2.1.1.2.2.1 (GVQ_4 hG) rfl (fun _ _ => rfl) (fun _ _ => rfl) rfl rfl rfl
theorem ist_k {t : Int} : RP (kf_pw_isTable t K) (fun u => (u = 0 ∧ (K.1 201 = 0 ∨ t < 0 ∨ K.1 219 ≤ t)) ∨ (u = 1 ∧ K.1 201 ≠ 0 ∧ 0 ≤ t ∧ t < K.1 219)) := by
  unfold kf_pw_isTable kfl_pw_isTable_27
  exact RP_ite (fun q => RP_some (Or.inl ⟨rfl, Or.inl q⟩)) (fun q => RP_ite (fun q1 => RP_some (Or.inl ⟨rfl, Or.inr (Or.inl q1)⟩)) (fun q1 => RP_ite (fun q2 => RP_some (Or.inl ⟨rfl, Or.inr (Or.inr q2)⟩)) (fun q2 => RP_some (Or.inr ⟨rfl, q, by omega, by omega⟩))))
/-- entries: what both answer -/
theorem ent_q {t w : Int} (hq : M.1 127 = 1 → PQ20 K M) (hG : M.1 127 = 1 → ∀ t, 0 ≤ t → t < M.1 26 → GVQ t K M) (e201 : K.1 201 = M.1 127) (e219 : M.1 127 = 1 → K.1 219 = M.1 26) (e233 : K.1 233 = M.1 150) (e234 : K.1 234 = M.1 151) (w0 : 0 ≤ M.1 151) (wE : M.1 151 ≤ M.1 150) (b150 : M.1 150 ≤ 1000000) (h01 : M.1 127 = 0 ∨ M.1 127 = 1) : RR (kf_pw_entries t w K) (rf_entries t w M) (fun y z => (y.1 = 0 ∧ z.2.1 1 = 0 ∧ y.2.1 = z.1) ∨ (y.1 = 2 ∧ z.2.1 1 = 1)) := by
  unfold kf_pw_entries rf_entries kf_pi_inStages
  rw [bnd_some, e233, e234, cut_i (by omega) (by omega)]
  refine RR_ii (by omega) (fun g1 g2 => ?_) (fun g1 g2 => ?_)
  · unfold rfl_entries_17
    rw [if_pos (show (0 : Int) ≤ 0 by decide)]
    refine RR_l ist_k (fun u hu => ?_)
    rcases hu with ⟨rfl, hu⟩ | ⟨rfl, u0, u1, u2⟩
    · rw [if_pos rfl]
      refine RR_ir (fun q => RR_some (Or.inl ⟨rfl, rfl, rfl⟩)) (fun q => RR_r in_r (fun x hx => ?_))
      rcases hx with ⟨e, -⟩ | ⟨e, x0, x1⟩
      · rw [if_pos e]
        exact RR_some (Or.inl ⟨rfl, rfl, rfl⟩)
      · have := e219 (by omega)
        exfalso
        omega
    · rw [if_neg (show ¬ (1 : Int) = 0 by decide), if_neg (show ¬ M.1 127 = 0 by omega)]
      have q : M.1 127 = 1 := by omega
      have e219 := e219 q
      refine RR_r in_r (fun x hx => ?_)
      rcases hx with ⟨e, hx⟩ | ⟨e, x0, x1⟩
      · exfalso
        omega
      · rw [if_neg (show ¬ x = 0 by omega)]
        have g := hG q t x0 x1
        have T := TQ_now (hq q) g (by omega) x0 x1
        have g' := g
        obtain ⟨⟨t0, t1⟩, hB, -, -, h16⟩ := g'
        obtain ⟨hT, hL, hE, hD, ⟨b1, b2, b3⟩, ⟨b4, b5, b6⟩, -⟩ := id hB
        obtain ⟨n1, ⟨n2, n3⟩, -, n5, -⟩ := T
        unfold kfl_pw_entries_69 rfl_entries_76
        refine RR_ii Iff.rfl (fun _ _ => RR_some (Or.inl ⟨rfl, rfl, n1⟩)) (fun _ _ => RR_ii Iff.rfl (fun _ _ => ?_) (fun _ _ => RR_some (Or.inl ⟨rfl, rfl, rfl⟩)))
        have f : fr [1] [] M (mO M [(1, 0)] []) := fr_m fr_0 rfl rfl
        rw [n1]
        refine RR_bnd (above_q (K := K) (M := mO M [(1, 0)] []) (t := t) (n := M.2 139 t) t0 t1 (TK_f hT (fr_0 (u := []) (v := []) (x := K)) f rfl rfl) (TE_f hE f rfl) b1 b2 h16 b4 b5 b6 n2 (by omega) rfl (fun e e0 e1 j j0 j1 => ((n5 e e0 e1).1 j j0 j1).1)) (fun a b hab => RR_some (Or.inl ⟨rfl, ?_, hab.1⟩))
        have fz : fr [] [170] (mO M [(1, 0)] []) b.2 := hab.2.2.1
        show b.2.1 1 = 0
        rw [fr1 fz 1 rfl]
        rfl
  · unfold rfl_entries_17
    rw [if_neg (by decide)]
    exact RR_some (Or.inr ⟨rfl, rfl⟩)
end TPD
