/-! ===== operations' cells as the heap shows them ===== -/
section TPA
variable {K1 K2 : mR} {c c' : Nat → Option am_C} {r : Int}
theorem kor_b (h : khp K1 c = khp K2 c') (o1 : OKr K1 r) (o2 : OKr K2 r) : K1.2 107 r = K2.2 107 r := by
  obtain ⟨a0, a1, a2, a3, -⟩ := o1
  obtain ⟨b0, b1, b2, b3, -⟩ := o2
  obtain ⟨n, rfl⟩ : ∃ n : Nat, r = n := ⟨r.toNat, by omega⟩
  have e := kor_h h n
  unfold kor at e
  rw [if_neg (by omega), if_neg (by omega)] at e
  have := Option.some.inj e
  omega
theorem HKo {k : Nat} (h : khp K1 c = khp K2 c') (o1 : OKr K1 r) (o2 : OKr K2 r) (hk : 91 ≤ k) (hk2 : k < 100) (r1 : R32 (K1.2 k r)) (r2 : R32 (K2.2 k r)) : K1.2 k r = K2.2 k r := by
  have e := kor_b h o1 o2
  have eo : obr K1 r = obr K2 r := by
    unfold obr
    rw [e]
  have h1 := congrFun h (obr K1 r)
  rw [khp_o0 K1 o1, eo, khp_o0 K2 o2] at h1
  have h2 : kof K1 r = kof K2 r := (Prod.mk.inj (Sum.inr.inj (Option.some.inj h1))).2
  have h3 := congrArg (fun l => l[k - 85]?) h2
  try dsimp only at h3
  rw [kof_at K1 (by omega), kof_at K2 (by omega)] at h3
  have h4 := Option.some.inj h3
  unfold kov at h4
  rw [if_neg (by omega), if_neg (by omega), show 85 + (k - 85) = k by omega] at h4
  exact i32_inj r1 r2 (Value.int.inj h4)
theorem oty_a0 : ∀ i : Fin 6, (oty i.val = 1 ∧ klg (100 + i.val) = true) ∨ (oty i.val = 0 ∧ klg (100 + i.val) = false) ∨ (oty i.val = 2 ∧ klg (100 + i.val) = false) := by decide +kernel
theorem HKw {k n : Nat} (h : khp K1 c = khp K2 c') (o1 : OKr K1 r) (o2 : OKr K2 r) (hn : n < 65536) (hk : 100 ≤ k) (hk2 : k < 106) (r1 : rV (klg k) (K1.2 k (65536 * r + n))) (r2 : rV (klg k) (K2.2 k (65536 * r + n))) : K1.2 k (65536 * r + n) = K2.2 k (65536 * r + n) := by
  have e := kor_b h o1 o2
  have eo : obr K1 r = obr K2 r := by
    unfold obr
    rw [e]
  have h1 := congrFun h (obr K1 r + ((k - 100) + 1))
  rw [khp_o1 K1 o1 (by omega), eo, khp_o1 K2 o2 (by omega)] at h1
  have h1 := Option.some.inj h1
  have a4 := oty_a0 ⟨k - 100, by omega⟩
  dsimp only at a4
  rw [show 100 + (k - 100) = k by omega] at h1 a4
  rcases a4 with ⟨b1, b2⟩ | ⟨b1, b2⟩ | ⟨b1, b2⟩
  · rw [b1] at h1
    have h2 : (fun j : Nat => i64 (ka1 K1 k r j)) = (fun j : Nat => i64 (ka1 K2 k r j)) := by
      injection h1 with h1
      injection h1 with _ h1
      injection h1 with _ h1
      injection h1 with h1
      injection h1
    have h3 := congrFun h2 n
    try dsimp only at h3
    unfold ka1 at h3
    rw [if_pos hn, if_pos hn] at h3
    exact rV_inj r1 r2 (fun q => by rw [b2] at q; cases q) (fun _ => h3)
  · rw [b1] at h1
    have h2 : (fun j : Nat => i32 (ka1 K1 k r j)) = (fun j : Nat => i32 (ka1 K2 k r j)) := by
      injection h1 with h1
      injection h1 with _ h1
      injection h1 with _ h1
      injection h1
    have h3 := congrFun h2 n
    try dsimp only at h3
    unfold ka1 at h3
    rw [if_pos hn, if_pos hn] at h3
    exact rV_inj r1 r2 (fun _ => h3) (fun q => by rw [b2] at q; cases q)
  · rw [b1] at h1
    have h2 : (fun j : Nat => i32 (ka1 K1 k r j)) = (fun j : Nat => i32 (ka1 K2 k r j)) := by
      injection h1 with h1
      injection h1 with _ h1
      injection h1 with _ h1
      injection h1
    have h3 := congrFun h2 n
    try dsimp only at h3
    unfold ka1 at h3
    rw [if_pos hn, if_pos hn] at h3
    exact rV_inj r1 r2 (fun _ => h3) (fun q => by rw [b2] at q; cases q)
end TPA
/-! ===== the relation on other records that are the same where one may look ===== -/
def pmL : List Nat := [46, 49, 51, 52, 53, 54, 55, 56, 57, 58, 110, 111, 112, 113, 114, 139, 140, 141, 142, 143, 144, 153, 156, 157, 158, 160, 161, 162, 167]
/-- operation k's cells are the same -/
def opE (K K' : mR) (r : Int) : Prop := K'.2 91 r = K.2 91 r ∧ K'.2 95 r = K.2 95 r ∧ K'.2 96 r = K.2 96 r ∧ K'.2 97 r = K.2 97 r ∧ ∀ i, 0 ≤ i → i < 4 → K'.2 103 (65536 * r + i) = K.2 103 (65536 * r + i) ∧ K'.2 104 (65536 * r + i) = K.2 104 (65536 * r + i) ∧ K'.2 105 (65536 * r + i) = K.2 105 (65536 * r + i)
section TPB
variable {K K' M M' : mR}
theorem OPQ_p {r : Int} {m : mR} (h : OPQ r K m) (e : opE K K' r) : OPQ r K' m := by
  obtain ⟨h1, h2, h3, h4, h5⟩ := h
  obtain ⟨e1, e2, e3, e4, e5⟩ := e
  refine ⟨by rw [e1]; exact h1, by rw [e2]; exact h2, by rw [e3]; exact h3, by rw [e4]; exact h4, fun i i0 i1 => ?_⟩
  obtain ⟨q1, q2, q3⟩ := e5 i i0 i1
  rw [q1, q2, q3]
  exact h5 i i0 i1
theorem PGq_p {t : Int} (t0 : 0 ≤ t) (e25 : M'.1 25 = M.1 25) (hm : ∀ k, k ∈ pmL → ∀ i, 0 ≤ i → M'.2 k i = M.2 k i) : PGq t M M' := ⟨e25, ⟨hm 51 (by decide) t t0, hm 52 (by decide) t t0, hm 53 (by decide) t t0, hm 54 (by decide) t t0, hm 55 (by decide) t t0, hm 56 (by decide) t t0, hm 57 (by decide) t t0, hm 58 (by decide) t t0⟩, fun i i0 _ => ⟨hm 110 (by decide) _ (by omega), hm 111 (by decide) _ (by omega), hm 112 (by decide) _ (by omega), hm 113 (by decide) _ (by omega)⟩, fun i i0 _ => hm 114 (by decide) _ (by omega), fun i i0 => ⟨hm 46 (by decide) i i0, hm 49 (by decide) i i0⟩⟩
theorem PQ20_p (h : PQ20 K M) (hG : ∀ t, 0 ≤ t → t < M.1 26 → GVQ t K M) (w0 : 0 ≤ M.1 151) (e25 : M'.1 25 = M.1 25) (e26 : M'.1 26 = M.1 26) (e149 : M'.1 149 = M.1 149) (e150 : M'.1 150 = M.1 150) (e151 : M'.1 151 = M.1 151) (e152 : M'.1 152 = M.1 152) (hm : ∀ k, k ∈ pmL → ∀ i, 0 ≤ i → M'.2 k i = M.2 k i) (ht : ∀ t, 0 ≤ t → t < M.1 26 → K'.2 78 t = K.2 78 t ∧ ∀ j, 65536 * t ≤ j → j < 65536 * t + 65536 → K'.2 85 j = K.2 85 j ∧ K'.2 86 j = K.2 86 j ∧ K'.2 87 j = K.2 87 j ∧ K'.2 88 j = K.2 88 j ∧ K'.2 89 j = K.2 89 j) (ho : ∀ k, M.1 151 ≤ k → k < M.1 150 + M.1 149 → opE K K' (k % 128)) (hl : 0 ≤ M.1 149 ∧ M.1 151 ≤ M.1 150) (hh : ∀ t, 0 ≤ t → t < M.1 26 → homeK K' t = homeK K t) : PQ20 K' M' := by
  obtain ⟨HT, h1, h2, ⟨g1, g2, g3⟩, h4⟩ := h
  have ea : ∀ k : Int, M'.2 167 (k % 128) = M.2 167 (k % 128) := fun k => hm 167 (by decide) _ (by omega)
  unfold PQ20
  rw [e150, e151, e152, e149, e26]
  refine ⟨HT, fun k k0 k1 i i0 => ?_, fun t t0 t1 => ?_, ⟨fun k k0 k1 => ?_, fun k k0 k1 kn kx => ?_, fun t t0 t1 => ?_⟩, fun q q0 q1 => ?_⟩
  · rw [h1 k k0 k1 i i0]
    refine (hm k ?_ i i0).symm
    unfold pmL
    simp only [List.mem_cons, List.not_mem_nil, or_false]
    omega
  · have w := h2 t t0 t1
    unfold TOK at w ⊢
    rw [hm 139 (by decide) t t0, hm 58 (by decide) t t0, hm 54 (by decide) t t0]
    exact w
  · obtain ⟨o1, o2, -⟩ := ho k k0 (by omega)
    obtain ⟨q1, q2⟩ := g1 k k0 k1
    unfold OPk STPc at *
    rw [o1, o2, e26]
    exact ⟨q1, q2⟩
  · have oe := ho k k0 (by omega)
    obtain ⟨o1, o2, -⟩ := id oe
    rw [o1] at kn
    obtain ⟨z0, z1⟩ := (g1 k k0 k1).1.2 kn
    have kx : M.1 152 - homeK K' (K'.2 95 (k % 128)) ≤ M'.2 167 (k % 128) := kx
    rw [o2, ea, hh _ z0 z1] at kx
    obtain ⟨m0, o, m, p1, p2, p3, p4, p5, p6⟩ := g2 k k0 k1 kn kx
    exact ⟨m0, o, m, p1, by rw [o2]; exact PGq_t p2 (PGq_p z0 e25 hm), OPQ_p p3 oe, by rw [o1, o2]; exact p4, p5, p6⟩
  · rw [e26] at t1
    obtain ⟨n, ⟨n1, n2, n3⟩, n4⟩ := g3 t t0 t1
    have g := hG t t0 t1
    obtain ⟨t2, t3⟩ := ht t t0 t1
    refine ⟨n, ⟨n1, fun k k0 k1 => ?_, fun k k0 k1 => ?_⟩, ?_⟩
    · show M'.2 167 (k % 128) < M.1 152 - homeK K' t
      rw [ea, hh t t0 t1]
      exact n2 k k0 k1
    · show M.1 152 - homeK K' t ≤ M'.2 167 (k % 128)
      rw [ea, hh t t0 t1]
      exact n3 k k0 k1
    · exact TQ_f n4 t2 t3 rfl (fun _ _ _ => ⟨rfl, rfl⟩) (fun _ _ _ => ⟨rfl, rfl, rfl⟩) g.2.1.1.2.2.1 (GVQ_4 g) (hm 51 (by decide) t t0) (fun i i0 => hm 46 (by decide) i i0) (fun i i0 => hm 49 (by decide) i i0) (hm 54 (by decide) t t0) (hm 58 (by decide) t t0) e25
  · obtain ⟨b1, b2, b3⟩ := h4 q q0 q1
    obtain ⟨o1, o2, o3, o4, o5⟩ := ho (M.1 150 + q) (by omega) (by omega)
    unfold LNQ
    rw [o1, o2, o3, o4, hm 153 (by decide) q q0, hm 156 (by decide) q q0, hm 157 (by decide) q q0, hm 158 (by decide) q q0, e26]
    refine ⟨b1, b2, fun z => ?_⟩
    obtain ⟨c1, c2, c3, c4⟩ := b3 z
    refine ⟨c1, c2, c3, fun i i0 i1 => ?_⟩
    obtain ⟨q1, q2, q3⟩ := o5 i i0 i1
    rw [q1, q2, q3, hm 160 (by decide) _ (by omega), hm 161 (by decide) _ (by omega), hm 162 (by decide) _ (by omega)]
    exact c4 i i0 i1
end TPB
