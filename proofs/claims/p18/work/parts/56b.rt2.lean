/-! ===== the line's timing between calls ===== -/
section RT2
variable {K K1 K2 M M1 : mR} {F A G C : List Nat} {c c' c1 c2 c3 c4 : Nat → Option am_C}
def TM (K M : mR) : Prop := K.1 234 = M.1 151 ∧ ((M.1 128 = 1 ∧ TMv (M.1 129) (M.1 152) (M.1 151) (M.1 150) (skp K) (M.2 167)) ∨ (M.1 128 ≠ 1 ∧ M.1 151 = 0 ∧ M.1 150 = 0 ∧ ∀ g, 0 ≤ g → g < 12 → skp K g < 0))
theorem TM_f (h : TM K M) (e4 : K1.1 234 = K.1 234) (es : ∀ g, skp K1 g = skp K g) (hM : fr G C M M1) (c3 : chk [128, 129, 150, 151, 152] G = true) (c4 : chk [167] C = true) : TM K1 M1 := by
  unfold TM at *
  rw [e4, show skp K1 = skp K from funext es, fr1 hM 128 (chk_1 c3 (by decide)), fr1 hM 129 (chk_1 c3 (by decide)), fr1 hM 150 (chk_1 c3 (by decide)), fr1 hM 151 (chk_1 c3 (by decide)), fr1 hM 152 (chk_1 c3 (by decide)), fr2 hM 167 (chk_1 c4 (by decide))]
  exact h
theorem TM_fr (h : TM K M) (hK : fr F A K K1) (hM : fr G C M M1) (c1 : chk [234] F = true) (c2 : chk [106, 107] A = true) (c3 : chk [128, 129, 150, 151, 152] G = true) (c4 : chk [167] C = true) : TM K1 M1 := TM_f h (fr1 hK 234 (chk_1 c1 (by decide))) (fun g => by unfold skp; rw [fr2 hK 106 (chk_1 c2 (by decide)), fr2 hK 107 (chk_1 c2 (by decide))]) hM c3 c4
/-- all is as at first -/
theorem TM_0 (e4 : K.1 234 = 0) (es : ∀ g, 0 ≤ g → g < 12 → K.2 106 g = -1) (e1 : M.1 151 = 0) (e2 : M.1 150 = 0) (e3 : M.1 128 ≠ 1) : TM K M := ⟨by omega, Or.inr ⟨e3, e1, e2, fun g g0 g1 => by
  unfold skp
  rw [kopi_m (by rw [es g g0 g1]; decide)]
  decide⟩⟩
theorem TMv_0 {S Cy : Int} {s a : Int → Int} (h : ∀ g, 0 ≤ g → g < S → s g < 0) : TMv S Cy 0 0 s a := ⟨⟨Int.le_refl _, Int.le_refl _⟩, fun k k0 k1 => by omega, fun g g0 g1 => Or.inl (h g g0 g1), fun k l k0 k1 l1 => by omega⟩
/-- lay() -/
theorem lay_r {a b e : Int} : RP (rf_lay a b e M) (fun z => M.1 128 = 1 → z.2.1 128 = 1 ∧ z.2.1 129 = M.1 129) := by
  have L : ∀ u : Int, 0 < u → RP (rfl_lay_43 a b e u M) (fun z => M.1 128 = 1 → z.2.1 128 = 1 ∧ z.2.1 129 = M.1 129) := fun u hu => by
    unfold rfl_lay_43
    exact RP_ite (fun h => absurd h (by omega)) (fun _ => RP_some (fun q => ⟨q, rfl⟩))
  unfold rf_lay
  refine RP_ite (fun _ => L 1 (by decide)) (fun _ => RP_ite (fun h => ?_) (fun _ => L 1 (by decide)))
  exact fun x _ q => absurd (q.symm.trans h) (by decide)
theorem TM_lay {Kp mp : mR} {a b e : Int} {z : Int × mR} (h : TM K M) (hB : AGm M mp) (hz : rf_lay a b e mp = some z) (cM : Cn z.2) (hm : mhp M1 c3 = mhp z.2 c4) (hK : fr F A K K1) (hM : fr G C M M1) (vM : Ty M1) (c1 : chk [234] F = true) (c2 : chk [106, 107] A = true) (d3 : chk [150, 151, 152] G = true) (d4 : chk [167] C = true) (h12 : M1.1 128 = 1 → M1.1 129 ≤ 12) : TM K1 M1 := by
  have e4 := fr1 hK 234 (chk_1 c1 (by decide))
  have es : ∀ g, skp K1 g = skp K g := fun g => by
    unfold skp
    rw [fr2 hK 106 (chk_1 c2 (by decide)), fr2 hK 107 (chk_1 c2 (by decide))]
  have e150 := fr1 hM 150 (chk_1 d3 (by decide))
  have e151 := fr1 hM 151 (chk_1 d3 (by decide))
  have e152 := fr1 hM 152 (chk_1 d3 (by decide))
  have e167 := fr2 hM 167 (chk_1 d4 (by decide))
  have e128 : M1.1 128 = z.2.1 128 := HMf hm (by decide) (by decide) ((Ty_V vM).1 128) (cM.1 128)
  have e129 : M1.1 129 = z.2.1 129 := HMf hm (by decide) (by decide) ((Ty_V vM).1 129) (cM.1 129)
  have e1 : mp.1 = M.1 := hB.1
  have L := lay_r (M := mp) z hz
  rw [e1] at L
  obtain ⟨h4, h⟩ := h
  refine ⟨by rw [e4, e151]; exact h4, ?_⟩
  rcases h with ⟨l1, l2⟩ | ⟨l1, l2, l3, l4⟩
  · obtain ⟨q1, q2⟩ := L l1
    refine Or.inl ⟨by omega, ?_⟩
    rw [e129, q2, e152, e151, e150, e167, show skp K1 = skp K from funext es]
    exact l2
  · by_cases q : M1.1 128 = 1
    · refine Or.inl ⟨q, ?_⟩
      rw [e151, e150, l2, l3]
      refine TMv_0 (fun g g0 g1 => ?_)
      rw [es]
      exact l4 g g0 (by have := h12 q; omega)
    · exact Or.inr ⟨q, by omega, by omega, fun g g0 g1 => by rw [es]; exact l4 g g0 g1⟩
/-- the heap shows what is in the stages -/
theorem kor_h (h : khp K1 c = khp K2 c') (n : Nat) : kor K1 n = kor K2 n := by
  have e := congrFun h 186
  rw [khp_lo _ c (by decide), khp_lo _ c' (by decide), klo_fx _ (by decide), klo_fx _ (by decide), kd_186] at e
  have e2 := Sum.inr.inj (Sum.inr.inj (Sum.inr.inj (Sum.inr.inj (Prod.mk.inj (Prod.mk.inj (Sum.inl.inj (Option.some.inj e))).2).2)))
  exact congrFun e2 n
theorem kst_h (h : khp K1 c = khp K2 c') (n : Nat) : (if K1.2 106 n < 0 then none else kor K1 (K1.2 106 n)) = (if K2.2 106 n < 0 then none else kor K2 (K2.2 106 n)) := by
  have e := congrFun h 187
  rw [khp_lo _ c (by decide), khp_lo _ c' (by decide), klo_fx _ (by decide), klo_fx _ (by decide), kd_187] at e
  have e2 := Sum.inr.inj (Sum.inr.inj (Sum.inr.inj (Sum.inr.inj (Prod.mk.inj (Prod.mk.inj (Sum.inl.inj (Option.some.inj e))).2).2)))
  exact congrFun e2 n
theorem kor_n {r : Int} (h : kor K r = none) : K.2 107 r ≤ 0 := by
  unfold kor at h
  split at h
  · assumption
  · cases h
theorem kor_s {r : Int} {q : Nat} (h : kor K r = some q) : ¬ K.2 107 r ≤ 0 ∧ K.2 107 r = q := by
  unfold kor at h
  split at h
  · cases h
  · rename_i h1
    have := Option.some.inj h
    exact ⟨h1, by omega⟩
theorem skp_h (h : khp K1 c = khp K2 c') (hO : KO K2) (l1 : ∀ g, K1.2 106 g < 128) (l2 : ∀ g, K2.2 106 g < 128) (g : Int) (g0 : 0 ≤ g) : skp K1 g = skp K2 g := by
  obtain ⟨n, rfl⟩ : ∃ n : Nat, g = n := ⟨g.toNat, by omega⟩
  have e := kst_h h n
  unfold skp kopi
  by_cases q1 : K1.2 106 n < 0
  · rw [if_pos q1] at e ⊢
    by_cases q2 : K2.2 106 n < 0
    · rw [if_pos q2]
    · rw [if_neg q2] at e ⊢
      rw [if_pos (kor_n e.symm)]
  · rw [if_neg q1] at e ⊢
    obtain ⟨r1, er1⟩ : ∃ r : Nat, K1.2 106 n = r := ⟨(K1.2 106 n).toNat, by omega⟩
    have t := kor_h h r1
    rw [← er1] at t
    by_cases q2 : K2.2 106 n < 0
    · rw [if_pos q2] at e ⊢
      rw [if_pos (kor_n e)]
    · rw [if_neg q2] at e ⊢
      cases hk : kor K2 (K2.2 106 n) with
      | none =>
        rw [hk] at e
        rw [if_pos (kor_n e), if_pos (kor_n hk)]
      | some q =>
        rw [hk] at e
        have t2 := e
        rw [t] at t2
        obtain ⟨a1, a2⟩ := kor_s e
        obtain ⟨b1, b2⟩ := kor_s hk
        obtain ⟨d1, d2⟩ := kor_s t2
        have o1 : OKr K2 (K1.2 106 n) := by
          rcases hO.2.1 (K1.2 106 n) (by omega) (l1 n) with z | z
          · omega
          · exact z
        have o2 : OKr K2 (K2.2 106 n) := by
          rcases hO.2.1 (K2.2 106 n) (by omega) (l2 n) with z | z
          · omega
          · exact z
        have p1 := o1.2.2.2.2 0 (by decide)
        have p2 := o2.2.2.2.2 0 (by decide)
        rw [d2] at p1
        rw [b2] at p2
        rw [if_neg a1, if_neg b1]
        omega
theorem TMv_c {S Cy W E : Int} {s a s' a' : Int → Int} (h : TMv S Cy W E s a) (hs : ∀ g, 0 ≤ g → g < S → s' g = s g) (ha : ∀ i, 0 ≤ i → i < 128 → a' i = a i) : TMv S Cy W E s' a' := by
  obtain ⟨h1, h2, h3, h4⟩ := h
  have ea : ∀ k : Int, a' (k % 128) = a (k % 128) := fun k => ha _ (by omega) (by omega)
  refine ⟨h1, fun k k0 k1 => ?_, fun g g0 g1 => ?_, fun k l k0 k1 l1 => ?_⟩
  · obtain ⟨b1, b2, b3⟩ := h2 k k0 k1
    rw [ea]
    exact ⟨b1, b2, by rw [hs _ (by omega) (by omega)]; exact b3⟩
  · rw [hs g g0 g1]
    rcases h3 g g0 g1 with q | ⟨k, k0, k1, k2⟩
    · exact Or.inl q
    · exact Or.inr ⟨k, k0, k1, by rw [ea]; exact k2⟩
  · rw [ea, ea]
    exact h4 k l k0 k1 l1
theorem KTy_6 (h : KTy K) (g : Int) : K.2 106 g < 128 := by
  have q := (h.2.1 106 g).2
  have e : kehi 106 = 127 := by decide +kernel
  omega
theorem KTy_C (h : KTy K) : KCn K := ⟨(KTy_V h).1, (KTy_V h).2, h.2.2⟩
theorem KCo_K (h : KTy K) : KCo (K.2 107, K.2 108) K := ⟨KTy_C h, rfl, rfl, KTy_6 h⟩
theorem Ty_C (h : Ty M) : Cn M := Ty_V h
/-- the relation on other records of the same heaps -/
theorem TM_h {z : mR} (h : TM K2 z) (hS : z.1 128 = 1 → z.1 129 ≤ 12) (hk : khp K1 c1 = khp K2 c2) (hm : mhp M1 c3 = mhp z c4) (vK : KTy K1) (vM : Ty M1) (cK : KCn K2) (cM : Cn z) (l2 : ∀ g, K2.2 106 g < 128) : TM K1 M1 := by
  have f : ∀ k, k < 179 → mkd k < 3 → M1.1 k = z.1 k := fun k h1 h2 => HMf hm h1 h2 ((Ty_V vM).1 k) (cM.1 k)
  have e4 : K1.1 234 = K2.1 234 := HKf hk (by decide) (by decide) ((KTy_V vK).1 234) (cK.1 234)
  have es := skp_h hk cK.2.2 (KTy_6 vK) l2
  have ea : ∀ i, 0 ≤ i → i < 128 → M1.2 167 i = z.2 167 i := fun i i0 _ => by
    obtain ⟨n, rfl⟩ : ∃ n : Nat, i = n := ⟨i.toNat, by omega⟩
    exact HMa hm (by decide) (by decide) ((Ty_V vM).2 167 n) (cM.2 167 n)
  obtain ⟨h4, h⟩ := h
  refine ⟨by rw [e4, f 151 (by decide) (by decide)]; exact h4, ?_⟩
  rw [f 128 (by decide) (by decide), f 129 (by decide) (by decide), f 150 (by decide) (by decide), f 151 (by decide) (by decide), f 152 (by decide) (by decide)]
  rcases h with ⟨l1, l3⟩ | ⟨l1, l3, l4, l5⟩
  · exact Or.inl ⟨l1, TMv_c l3 (fun g g0 _ => es g g0) ea⟩
  · exact Or.inr ⟨l1, l3, l4, fun g g0 g1 => by rw [es g g0]; exact l5 g g0 g1⟩
/-- run() -/
theorem run_q {a0 : Int} (h6 : ∀ g, K.2 106 g < 128) (e1 : K.1 201 = M.1 127) (e7 : M.1 128 = 1 → M.1 127 = 1) (hl : (M.1 128 = 1 ∧ K.1 226 = M.1 129 ∧ 1 ≤ M.1 129 ∧ M.1 129 ≤ 12) ∨ (M.1 128 = 0 ∧ K.1 226 = 0)) (e2 : K.1 232 = M.1 148) (e3 : K.1 233 = M.1 150) (e5 : K.1 235 = M.1 152) (hp : M.1 150 + M.1 149 = M.1 148) (hp0 : 0 ≤ M.1 149) (hc : 0 ≤ M.1 152 ∧ M.1 152 ≤ 500000) (hm : M.1 148 ≤ 500000) (hrow : ∀ r, 0 ≤ r → r < 128 → r < K.1 232 → 1 ≤ K.2 107 r) (h : TM K M) : RR (kf_pw_run a0 K) (rf_run a0 M) (fun y z => (TM y.2.2 z.2 ∧ (∀ g, y.2.2.2 106 g < 128) ∧ (z.2.1 128 = 1 → z.2.1 129 ≤ 12)) ∧ (y.1 = 0 → y.2.1 = z.1)) := by
  have same : ∀ (t x u : Int), t ≠ 0 → RR (some (t, 0, K)) (some (0, mO M [(1, x)] [])) (fun (y : Int × Int × mR) (z : Int × mR) => (TM y.2.2 z.2 ∧ (∀ g, y.2.2.2 106 g < 128) ∧ (z.2.1 128 = 1 → z.2.1 129 ≤ 12)) ∧ (y.1 = 0 → y.2.1 = z.1)) := fun t x u ht => RR_some ⟨⟨h, h6, fun (q : M.1 128 = 1) => show M.1 129 ≤ 12 by rcases hl with ⟨l1, l2, l3, l4⟩ | ⟨l1, l2⟩ <;> omega⟩, fun q => absurd q ht⟩
  unfold kf_pw_run rf_run
  refine RR_l laid_k (fun y7 hy7 => ?_)
  rcases hl with ⟨l1, l2, l3, l4⟩ | ⟨l1, l2⟩
  · have q7 := e7 l1
    refine RR_il (fun g => absurd g (by omega)) (fun _ => ?_)
    refine RR_ir (fun g => absurd g (by omega)) (fun _ => ?_)
    refine RR_ii Iff.rfl (fun g1 _ => ?_) (fun g1 _ => ?_)
    · unfold kfl_pw_run_28 rfl_run_22 rfl_run_27
      exact RR_ir (fun g => absurd g (by decide)) (fun _ => same 1 2 0 (by decide))
    · refine RR_ii Iff.rfl (fun g2 _ => ?_) (fun g2 _ => ?_)
      · have T : TMv (M.1 129) (M.1 152) (M.1 151) (M.1 150) (skp K) (M.2 167) := by
          rcases h.2 with ⟨-, t⟩ | ⟨t, -⟩
          · exact t
          · exact absurd l1 t
        unfold rfl_run_27
        refine RR_ir (fun _ => ?_) (fun g => absurd (by decide) g)
        refine RR_bnd (run_t (K := K) (M := mO M [(1, 0)] []) (by omega) g2 l3 l4 hc hm hrow h6 ⟨e2, e3, h.1, e5, hp, hp0, l2, T⟩) (fun e f hef => ?_)
        obtain ⟨⟨r2, r3, r4, r5, r6, r7, r8, hT⟩, ⟨f128, f129⟩, f6⟩ := hef
        have f129 : f.1 129 = M.1 129 := f129
        have f128 : f.1 128 = 1 := f128.trans l1
        unfold kfl_pw_run_67 rfl_run_124
        refine RR_some ⟨⟨⟨r4, Or.inl ⟨f128, hT⟩⟩, f6, fun _ => ?_⟩, fun _ => ?_⟩
        · show f.1 129 ≤ 12
          omega
        · show cut (e.1 234 - K.1 234) = cut (f.1 151 - M.1 151)
          rw [r4, h.1]
      · unfold kfl_pw_run_28 rfl_run_22 rfl_run_27
        exact RR_ir (fun g => absurd g (by decide)) (fun _ => same 1 2 0 (by decide))
  · refine RR_il (fun _ => ?_) (fun g => absurd (show y7 = 0 by omega) g)
    refine RR_ir (fun _ => ?_) (fun g => absurd l1 g)
    unfold rfl_run_27
    exact RR_ir (fun g => absurd g (by decide)) (fun _ => same 2 1 0 (by decide))
end RT2
