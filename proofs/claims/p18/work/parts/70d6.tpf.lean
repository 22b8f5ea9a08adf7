/-! ===== p20: packet, entry, key, datum keep the relation ===== -/
theorem pm_s : ∀ k, k ∈ pmK → k ∈ pmL := by decide
section TPG
variable {K K1 M M1 : mR} {i : Int} {c1 c2 c3 c4 : Nat → Option am_C} {F A G C : List Nat}
/-- a call that only throws -/
theorem PQs_x {z : Int × mR} (hRel : RX K M) (hM : Ty M) (hIM : IM i M) (hq : PQs K M) (fK : fr F A K K1) (k1 : chk [225] F = true) (k2 : chk [2, 3, 4, 55, 59, 78, 85, 86, 87, 88, 89] A = true) (ho : ∀ r, opE K K1 r) (fz : fr [1] [] M z.2) (cM : Cn z.2) (hm : mhp M1 c3 = mhp z.2 c4) (vM : Ty M1) : PQs K1 M1 := by
  obtain ⟨q0, q1, q2⟩ := hq
  obtain ⟨w0, l0, l1⟩ := IM_l hM hIM
  have fm : ∀ k, k < 179 → mkd k < 3 → nin [1] k = true → M1.1 k = M.1 k := fun k a b d => (HMf hm a b ((Ty_V vM).1 k) (cM.1 k)).trans (fr1 fz k d)
  have am : ∀ (k : Nat) (j : Int), k < 179 → 3 ≤ mkd k → 0 ≤ j → M1.2 k j = M.2 k j := fun k j a b j0 => by
    obtain ⟨n, rfl⟩ : ∃ n : Nat, j = n := ⟨j.toNat, by omega⟩
    rw [show M.2 k = z.2.2 k from (fr2 fz k rfl).symm]
    exact HMa hm a b ((Ty_V vM).2 k n) (cM.2 k n)
  refine ⟨fun j j0 j1 => ?_, fun q j j0 j1 => ?_, fun q => ?_⟩
  · rw [am 145 j (by decide) (by decide) j0, am 146 j (by decide) (by decide) j0, am 147 j (by decide) (by decide) j0, fr2 fK 2 (chk_1 k2 (by decide)), fr2 fK 3 (chk_1 k2 (by decide)), fr2 fK 4 (chk_1 k2 (by decide))]
    exact q0 j j0 j1
  · rw [fm 128 (by decide) (by decide) rfl] at q
    rw [fm 27 (by decide) (by decide) rfl] at j1
    rw [am 131 j (by decide) (by decide) j0, fm 129 (by decide) (by decide) rfl]
    exact q1 q j j0 j1
  · rw [fm 127 (by decide) (by decide) rfl] at q
    refine PQ20_p (q2 q) (RX_GV hRel hIM q).1 w0 (fm 25 (by decide) (by decide) rfl) (fm 26 (by decide) (by decide) rfl) (fm 149 (by decide) (by decide) rfl) (fm 150 (by decide) (by decide) rfl) (fm 151 (by decide) (by decide) rfl) (fm 152 (by decide) (by decide) rfl) (fun k hk j j0 => am k j (pqm_1 hk).1 (pqm_1 hk).2 j0) (fun t _ _ => ?_) (fun k _ _ => ho _) ⟨l0, l1⟩ (fun t _ _ => home_c (fr1 fK 225 (chk_1 k1 (by decide))) (fr2 fK 55 (chk_1 k2 (by decide))) (fr2 fK 59 (chk_1 k2 (by decide))))
    rw [fr2 fK 78 (chk_1 k2 (by decide)), fr2 fK 85 (chk_1 k2 (by decide)), fr2 fK 86 (chk_1 k2 (by decide)), fr2 fK 87 (chk_1 k2 (by decide)), fr2 fK 88 (chk_1 k2 (by decide)), fr2 fK 89 (chk_1 k2 (by decide))]
    exact ⟨rfl, fun _ _ _ => ⟨rfl, rfl, rfl, rfl, rfl⟩⟩
/-- one comes: what is as before, and the new place of the line -/
theorem PQs_n {z : Int × mR} (hRel : RX K M) (hM : Ty M) (hIM : IM i M) (hT : TM K M) (hq : PQs K M) (l8 : M.1 128 = 1) (fK : fr F A K K1) (k1 : chk [225] F = true) (k2 : chk [2, 3, 4, 55, 59, 78, 85, 86, 87, 88, 89] A = true) (L1 : M.1 149 < 40) (e232 : K.1 232 = M.1 148) (hrw : rwO (K.1 232 % 128) K K1) (z149 : z.2.1 149 = M.1 149 + 1) (fz : fr [1, 5, 148, 149] [153, 154, 155, 156, 157, 158, 159, 160, 161, 162] M z.2) (zl : ∀ q, 0 ≤ q → q < M.1 149 → z.2.2 153 q = M.2 153 q ∧ z.2.2 156 q = M.2 156 q ∧ z.2.2 157 q = M.2 157 q ∧ z.2.2 158 q = M.2 158 q ∧ ∀ j, 0 ≤ j → j < 4 → z.2.2 160 (4 * q + j) = M.2 160 (4 * q + j) ∧ z.2.2 161 (4 * q + j) = M.2 161 (4 * q + j) ∧ z.2.2 162 (4 * q + j) = M.2 162 (4 * q + j)) (zn : LNQ K1 z.2 (M.1 149) (K.1 232 % 128)) (cM : Cn z.2) (hm : mhp M1 c3 = mhp z.2 c4) (vM : Ty M1) : PQs K1 M1 := by
  obtain ⟨q0, q1, q2⟩ := hq
  obtain ⟨w0, l0, l1⟩ := IM_l hM hIM
  have pin := IM_pin hIM
  have fz1 : ∀ k, k < 179 → mkd k < 3 → M1.1 k = z.2.1 k := fun k a b => HMf hm a b ((Ty_V vM).1 k) (cM.1 k)
  have fm : ∀ k, k < 179 → mkd k < 3 → nin [1, 5, 148, 149] k = true → M1.1 k = M.1 k := fun k a b d => (fz1 k a b).trans (fr1 fz k d)
  have az : ∀ (k : Nat) (j : Int), k < 179 → 3 ≤ mkd k → 0 ≤ j → M1.2 k j = z.2.2 k j := fun k j a b j0 => by
    obtain ⟨n, rfl⟩ : ∃ n : Nat, j = n := ⟨j.toNat, by omega⟩
    exact HMa hm a b ((Ty_V vM).2 k n) (cM.2 k n)
  have am : ∀ (k : Nat) (j : Int), k < 179 → 3 ≤ mkd k → nin [153, 154, 155, 156, 157, 158, 159, 160, 161, 162] k = true → 0 ≤ j → M1.2 k j = M.2 k j := fun k j a b d j0 => by
    rw [az k j a b j0, fr2 fz k d]
  have hEW : M.1 150 - M.1 151 ≤ 12 := by
    rcases hT.2 with ⟨-, t⟩ | ⟨t, -⟩
    · rcases Int.lt_or_le (M.1 151) (M.1 150) with q | q
      · have w := t.2.1 (M.1 151) (Int.le_refl _) q
        have x := RX_12 hRel l8
        omega
      · omega
    · exact absurd l8 t
  have rr : K.1 232 % 128 = (M.1 150 + M.1 149) % 128 := by rw [e232, pin]
  refine ⟨fun j j0 j1 => ?_, fun q j j0 j1 => ?_, fun q => ?_⟩
  · rw [am 145 j (by decide) (by decide) rfl j0, am 146 j (by decide) (by decide) rfl j0, am 147 j (by decide) (by decide) rfl j0, fr2 fK 2 (chk_1 k2 (by decide)), fr2 fK 3 (chk_1 k2 (by decide)), fr2 fK 4 (chk_1 k2 (by decide))]
    exact q0 j j0 j1
  · rw [fm 128 (by decide) (by decide) rfl] at q
    rw [fm 27 (by decide) (by decide) rfl] at j1
    rw [am 131 j (by decide) (by decide) rfl j0, fm 129 (by decide) (by decide) rfl]
    exact q1 q j j0 j1
  · rw [fm 127 (by decide) (by decide) rfl] at q
    have Q := q2 q
    have e149 : M1.1 149 = M.1 149 + 1 := (fz1 149 (by decide) (by decide)).trans z149
    have e26 : M1.1 26 = M.1 26 := fm 26 (by decide) (by decide) rfl
    refine PQ20_g Q (RX_GV hRel hIM q).1 (fm 25 (by decide) (by decide) rfl) e26 (fm 150 (by decide) (by decide) rfl) (fm 151 (by decide) (by decide) rfl) (fm 152 (by decide) (by decide) rfl) (fun k hk j j0 => am k j (pqm_1 (pm_s k hk)).1 (pqm_1 (pm_s k hk)).2 (chk_1 (l := pmK) rfl hk) j0) (fun t _ _ => ?_) (fun k k0 k1 => rwO_e hrw (by omega)) (fun t _ _ => home_c (fr1 fK 225 (chk_1 k1 (by decide))) (fr2 fK 55 (chk_1 k2 (by decide))) (fr2 fK 59 (chk_1 k2 (by decide)))) (fun p p0 p1 => ?_)
    · rw [fr2 fK 78 (chk_1 k2 (by decide)), fr2 fK 85 (chk_1 k2 (by decide)), fr2 fK 86 (chk_1 k2 (by decide)), fr2 fK 87 (chk_1 k2 (by decide)), fr2 fK 88 (chk_1 k2 (by decide)), fr2 fK 89 (chk_1 k2 (by decide))]
      exact ⟨rfl, fun _ _ _ => ⟨rfl, rfl, rfl, rfl, rfl⟩⟩
    · -- M1's place is z's
      have mv : ∀ row, LNQ K1 z.2 p row → LNQ K1 M1 p row := fun row w => by
        obtain ⟨b1, b2, b3⟩ := w
        unfold LNQ
        rw [az 153 p (by decide) (by decide) p0, az 156 p (by decide) (by decide) p0, az 157 p (by decide) (by decide) p0, az 158 p (by decide) (by decide) p0, fz1 26 (by decide) (by decide)]
        refine ⟨b1, b2, fun zz => ?_⟩
        obtain ⟨c1, c2, c3, c4⟩ := b3 zz
        refine ⟨c1, c2, c3, fun j j0 j1 => ?_⟩
        rw [az 160 _ (by decide) (by decide) (by omega), az 161 _ (by decide) (by decide) (by omega), az 162 _ (by decide) (by decide) (by omega)]
        exact c4 j j0 j1
      refine mv _ ?_
      by_cases ep : p = M.1 149
      · rw [ep, ← rr]
        exact zn
      · obtain ⟨HT, -, -, -, h4⟩ := Q
        have pl : p < M.1 149 := by omega
        obtain ⟨b1, b2, b3⟩ := h4 p p0 pl
        obtain ⟨o1, o2, o3, o4, o5⟩ := rwO_e hrw (v := (M.1 150 + p) % 128) (by omega)
        obtain ⟨z3, z6, z7, z8, z0⟩ := zl p p0 pl
        unfold LNQ
        rw [o1, o2, o3, o4, z3, z6, z7, z8, fr1 fz 26 rfl]
        refine ⟨b1, b2, fun zz => ?_⟩
        obtain ⟨c1, c2, c3, c4⟩ := b3 zz
        refine ⟨c1, c2, c3, fun j j0 j1 => ?_⟩
        obtain ⟨s1, s2, s3⟩ := o5 j j0 j1
        obtain ⟨t1, t2, t3⟩ := z0 j j0 j1
        rw [s1, s2, s3, t1, t2, t3]
        exact c4 j j0 j1
theorem PQs_packet {a0 : Int} {z : Int × mR} (hRel : RX K M) (hM : Ty M) (hIM : IM i M) (hT : TM K M) (hq : PQs K M) (fK : fr F A K K1) (k1 : chk [225] F = true) (k2 : chk [2, 3, 4, 55, 59, 78, 85, 86, 87, 88, 89] A = true) (hrow : (K.1 201 = 1 ∧ 1 ≤ K.1 226 ∧ K.1 232 - K.1 233 < 40 ∧ K.1 200 ≤ 128 ∧ rwO (K.1 232 % 128) K K1 ∧ K1.2 91 (K.1 232 % 128) = 0) ∨ ((K.1 201 = 0 ∨ K.1 226 ≤ 0 ∨ 40 ≤ K.1 232 - K.1 233 ∨ 128 < K.1 200) ∧ ∀ r, opE K K1 r)) (hz : rf_packet a0 M = some z) (cM : Cn z.2) (hm : mhp M1 c3 = mhp z.2 c4) (vM : Ty M1) : PQs K1 M1 := by
  obtain ⟨x1, x2, x3, x4, x5, x6, x7⟩ := RX_fa hRel
  obtain ⟨w0, l0, l1⟩ := IM_l hM hIM
  have pin := IM_pin hIM
  have L1 : M.1 149 ≤ 40 := Int.le_trans (hM.1 149).2 fhi149
  have hp := pk_r (a0 := a0) l0 L1 z hz
  obtain ⟨m_ct, m_pth, m_pld, -⟩ := id hIM
  rcases hrow with ⟨r1, r2, r3, r4, r5, r6⟩ | ⟨r1, r2⟩
  · rcases hp with ⟨p1, -⟩ | ⟨p1, p2, p3, p4, p5, p6⟩
    · exfalso
      omega
    · have l8 : M.1 128 = 1 := by omega
      refine PQs_n hRel hM hIM hT hq l8 fK k1 k2 (by omega) x4 r5 p4 (fr_s p5 fr_0 rfl rfl) (fun q q0 q1 => ?_) ?_ cM hm vM
      · rw [p6, upI_n (by omega), fr2 p5 156 rfl, fr2 p5 157 rfl, fr2 p5 158 rfl, fr2 p5 160 rfl, fr2 p5 161 rfl, fr2 p5 162 rfl]
        exact ⟨rfl, rfl, rfl, rfl, fun _ _ _ => ⟨rfl, rfl, rfl⟩⟩
      · unfold LNQ
        rw [p6, upI_s]
        exact ⟨r6, ⟨by decide, by decide⟩, fun q => absurd rfl q⟩
  · rcases hp with ⟨-, p2⟩ | ⟨p1, p2, p3, -⟩
    · exact PQs_x hRel hM hIM hq fK k1 k2 r2 p2 cM hm vM
    · exfalso
      have := m_pld (by omega)
      omega
theorem PQs_entry {a0 a1 a2 a3 : Int} {z : Int × mR} (hRel : RX K M) (hM : Ty M) (hIM : IM i M) (hT : TM K M) (hq : PQs K M) (fK : fr F A K K1) (k1 : chk [225] F = true) (k2 : chk [2, 3, 4, 55, 59, 78, 85, 86, 87, 88, 89] A = true) (hrow : ((0 ≤ a0 ∧ a0 ≤ 2 ∧ K.1 201 = 1 ∧ 0 ≤ a1 ∧ a1 < K.1 219) ∧ 1 ≤ K.1 226 ∧ K.1 232 - K.1 233 < 40 ∧ rwO (K.1 232 % 128) K K1 ∧ K1.2 91 (K.1 232 % 128) = a0 + 1 ∧ K1.2 95 (K.1 232 % 128) = a1 ∧ K1.2 96 (K.1 232 % 128) = a2 ∧ K1.2 97 (K.1 232 % 128) = a3 ∧ ∀ j, 0 ≤ j → j < 4 → K1.2 103 (65536 * (K.1 232 % 128) + j) = K.2 2 j ∧ K1.2 104 (65536 * (K.1 232 % 128) + j) = K.2 3 j ∧ K1.2 105 (65536 * (K.1 232 % 128) + j) = K.2 4 j) ∨ ((a0 < 0 ∨ 2 < a0 ∨ K.1 201 = 0 ∨ a1 < 0 ∨ K.1 219 ≤ a1 ∨ K.1 226 ≤ 0 ∨ 40 ≤ K.1 232 - K.1 233) ∧ ∀ r, opE K K1 r)) (hz : rf_entry a0 a1 a2 a3 M = some z) (cM : Cn z.2) (hm : mhp M1 c3 = mhp z.2 c4) (vM : Ty M1) : PQs K1 M1 := by
  obtain ⟨x1, x2, x3, x4, x5, x6, x7⟩ := RX_fa hRel
  obtain ⟨w0, l0, l1⟩ := IM_l hM hIM
  have pin := IM_pin hIM
  have L1 : M.1 149 ≤ 40 := Int.le_trans (hM.1 149).2 fhi149
  have hp := en_r (a0 := a0) (a1 := a1) (a2 := a2) (a3 := a3) l0 L1 z hz
  obtain ⟨m_ct, m_pth, m_pld, -⟩ := id hIM
  rcases hrow with ⟨⟨b1, b2, b3, b4, b5⟩, r2, r3, r5, r6, r7, r8, r9, r10⟩ | ⟨r1, r2⟩
  · have q7 : M.1 127 = 1 := by omega
    have e26 := x7 q7
    have l8 : M.1 128 = 1 := by omega
    rcases hp with ⟨p1, -⟩ | ⟨p1, p4, p5, p6, p7, p8, p9, p10, p11⟩
    · exact absurd ⟨⟨b1, by omega⟩, by omega, ⟨b4, by omega⟩, by omega, by omega⟩ p1
    · refine PQs_n hRel hM hIM hT hq l8 fK k1 k2 (by omega) x4 r5 p4 (fr_s p5 fr_0 rfl rfl) (fun q q0 q1 => ?_) ?_ cM hm vM
      · rw [p6, p7, p8, p9, upI_n (by omega), upI_n (by omega), upI_n (by omega), upI_n (by omega)]
        exact ⟨rfl, rfl, rfl, rfl, fun j j0 j1 => p11 _ (by omega)⟩
      · have R : ∀ k, k = 145 ∨ k = 146 ∨ k = 147 → ∀ j, R64 (M.2 k j) := fun k hk j => by
          have w := (Ty_V hM).2 k j
          rcases hk with rfl | rfl | rfl <;> exact w
        unfold LNQ
        rw [p6, p7, p8, p9, upI_s, upI_s, upI_s, upI_s, fr1 p5 26 rfl]
        refine ⟨r6, ⟨by omega, by omega⟩, fun _ => ⟨⟨r7, b4, by omega⟩, r8, r9, fun j j0 j1 => ?_⟩⟩
        obtain ⟨s1, s2, s3⟩ := r10 j j0 j1
        obtain ⟨t1, t2, t3⟩ := p10 j j0 j1
        obtain ⟨u1, u2, u3⟩ := hq.1 j j0 j1
        rw [s1, s2, s3, t1, t2, t3]
        exact ⟨⟨u1, u2, u3⟩, R 145 (Or.inl rfl) j, R 146 (Or.inr (Or.inl rfl)) j, R 147 (Or.inr (Or.inr rfl)) j⟩
  · rcases hp with ⟨-, p2⟩ | ⟨⟨⟨p1, p1b⟩, p2, ⟨p3, p3b⟩, p4, p5⟩, -⟩
    · exact PQs_x hRel hM hIM hq fK k1 k2 r2 p2 cM hm vM
    · exfalso
      have q7 : M.1 127 = 1 := by omega
      have := x7 q7
      omega
theorem PQs_k {z : Int × mR} (hRel : RX K M) (hM : Ty M) (hIM : IM i M) (hq : PQs K M) (fK : fr F A K K1) (k1 : chk [225] F = true) (k2 : chk qkL A = true) (hy : KYR K1 z.2) (fz : fr [1] [145, 146, 147] M z.2) (cM : Cn z.2) (hm : mhp M1 c3 = mhp z.2 c4) (vM : Ty M1) : PQs K1 M1 := by
  obtain ⟨q0, q1, q2⟩ := hq
  obtain ⟨w0, l0, l1⟩ := IM_l hM hIM
  have fm : ∀ k, k < 179 → mkd k < 3 → nin [1] k = true → M1.1 k = M.1 k := fun k a b d => (HMf hm a b ((Ty_V vM).1 k) (cM.1 k)).trans (fr1 fz k d)
  have az : ∀ (k : Nat) (j : Int), k < 179 → 3 ≤ mkd k → 0 ≤ j → M1.2 k j = z.2.2 k j := fun k j a b j0 => by
    obtain ⟨n, rfl⟩ : ∃ n : Nat, j = n := ⟨j.toNat, by omega⟩
    exact HMa hm a b ((Ty_V vM).2 k n) (cM.2 k n)
  have am : ∀ (k : Nat) (j : Int), k < 179 → 3 ≤ mkd k → nin [145, 146, 147] k = true → 0 ≤ j → M1.2 k j = M.2 k j := fun k j a b d j0 => by
    rw [az k j a b j0, fr2 fz k d]
  refine ⟨fun j j0 j1 => ?_, fun q j j0 j1 => ?_, fun q => ?_⟩
  · rw [az 145 j (by decide) (by decide) j0, az 146 j (by decide) (by decide) j0, az 147 j (by decide) (by decide) j0]
    exact hy j j0 j1
  · rw [fm 128 (by decide) (by decide) rfl] at q
    rw [fm 27 (by decide) (by decide) rfl] at j1
    rw [am 131 j (by decide) (by decide) rfl j0, fm 129 (by decide) (by decide) rfl]
    exact q1 q j j0 j1
  · rw [fm 127 (by decide) (by decide) rfl] at q
    refine PQ20_p (q2 q) (RX_GV hRel hIM q).1 w0 (fm 25 (by decide) (by decide) rfl) (fm 26 (by decide) (by decide) rfl) (fm 149 (by decide) (by decide) rfl) (fm 150 (by decide) (by decide) rfl) (fm 151 (by decide) (by decide) rfl) (fm 152 (by decide) (by decide) rfl) (fun k hk j j0 => am k j (pqm_1 hk).1 (pqm_1 hk).2 (chk_1 (l := pmL) rfl hk) j0) (fun t _ _ => ?_) (fun k _ _ => ?_) ⟨l0, l1⟩ (fun t _ _ => home_c (fr1 fK 225 (chk_1 k1 (by decide))) (fr2 fK 55 (chk_1 k2 (by decide))) (fr2 fK 59 (chk_1 k2 (by decide))))
    · rw [fr2 fK 78 (chk_1 k2 (by decide)), fr2 fK 85 (chk_1 k2 (by decide)), fr2 fK 86 (chk_1 k2 (by decide)), fr2 fK 87 (chk_1 k2 (by decide)), fr2 fK 88 (chk_1 k2 (by decide)), fr2 fK 89 (chk_1 k2 (by decide))]
      exact ⟨rfl, fun _ _ _ => ⟨rfl, rfl, rfl, rfl, rfl⟩⟩
    · exact opE_r ⟨fr2 fK 91 (chk_1 k2 (by decide)), fr2 fK 95 (chk_1 k2 (by decide)), fr2 fK 96 (chk_1 k2 (by decide)), fr2 fK 97 (chk_1 k2 (by decide)), fr2 fK 103 (chk_1 k2 (by decide)), fr2 fK 104 (chk_1 k2 (by decide)), fr2 fK 105 (chk_1 k2 (by decide))⟩
theorem key_r {a0 a1 a2 : Int} : RP (rf_key a0 a1 a2 M) (fun z => ((0 ≤ a0 ∧ a0 ≤ 3) ∧ z.2 = mO M [(1, 0)] [(145, upI (M.2 145) a0 a1), (146, upI (M.2 146) a0 a2)]) ∨ ((a0 < 0 ∨ 3 < a0) ∧ z.2 = mO M [(1, 1)] [])) := by
  unfold rf_key
  refine RP_bnd in_r (fun x hx => ?_)
  rcases hx with ⟨e, hx⟩ | ⟨e, x0, x1⟩
  · rw [if_pos e]
    unfold rfl_key_14
    rw [if_neg (show ¬ (1 : Int) ≤ 0 by decide)]
    exact RP_some (Or.inr ⟨by omega, rfl⟩)
  · rw [if_neg (by omega)]
    unfold rfl_key_14
    rw [if_pos (show (0 : Int) ≤ 0 by decide)]
    exact RP_some (Or.inl ⟨⟨x0, by omega⟩, rfl⟩)
theorem datum_r {a0 a1 : Int} : RP (rf_datum a0 a1 M) (fun z => ((0 ≤ a0 ∧ a0 ≤ 3) ∧ z.2 = mO M [(1, 0)] [(147, upI (M.2 147) a0 a1)]) ∨ ((a0 < 0 ∨ 3 < a0) ∧ z.2 = mO M [(1, 1)] [])) := by
  unfold rf_datum
  refine RP_bnd in_r (fun x hx => ?_)
  rcases hx with ⟨e, hx⟩ | ⟨e, x0, x1⟩
  · rw [if_pos e]
    unfold rfl_datum_14
    rw [if_neg (show ¬ (1 : Int) = 0 by decide)]
    exact RP_some (Or.inr ⟨by omega, rfl⟩)
  · rw [if_neg (by omega)]
    unfold rfl_datum_14
    rw [if_pos (show (0 : Int) = 0 by decide)]
    exact RP_some (Or.inl ⟨⟨x0, by omega⟩, rfl⟩)
theorem upI_cg {f g : Int → Int} {a x j : Int} (h : f j = g j) : upI f a x j = upI g a x j := by
  by_cases e : j = a
  · rw [e, upI_s, upI_s]
  · rw [upI_n e, upI_n e]
    exact h
theorem PQs_key {a0 a1 a2 r : Int} {z : Int × mR} (hRel : RX K M) (hM : Ty M) (hIM : IM i M) (hq : PQs K M) (fK : fr F A K K1) (k1 : chk [225] F = true) (k2 : chk (4 :: qkL) A = true) (hky : (r = 0 ∧ (0 ≤ a0 ∧ a0 ≤ 3) ∧ K1.2 2 = upI (K.2 2) a0 a1 ∧ K1.2 3 = upI (K.2 3) a0 a2) ∨ (r = 1 ∧ (a0 < 0 ∨ 3 < a0) ∧ K1.2 2 = K.2 2 ∧ K1.2 3 = K.2 3)) (hz : rf_key a0 a1 a2 M = some z) (cM : Cn z.2) (hm : mhp M1 c3 = mhp z.2 c4) (vM : Ty M1) : PQs K1 M1 := by
  have q0 := hq.1
  have e4 := fr2 fK 4 (chk_1 k2 (by decide))
  rcases key_r z hz with ⟨p1, p2⟩ | ⟨p1, p2⟩ <;> rcases hky with ⟨-, h1, h2, h3⟩ | ⟨-, h1, h2, h3⟩
  · refine PQs_k hRel hM hIM hq fK k1 (chk_s k2 rfl) (fun j j0 j1 => ?_) (by rw [p2]; exact fr_m fr_0 rfl rfl) cM hm vM
    obtain ⟨s1, s2, s3⟩ := q0 j j0 j1
    rw [h2, h3, e4, p2]
    exact ⟨upI_cg s1, upI_cg s2, s3⟩
  · exfalso
    omega
  · exfalso
    omega
  · refine PQs_k hRel hM hIM hq fK k1 (chk_s k2 rfl) (fun j j0 j1 => ?_) (by rw [p2]; exact fr_m fr_0 rfl rfl) cM hm vM
    rw [h2, h3, e4, p2]
    exact q0 j j0 j1
theorem PQs_datum {a0 a1 r : Int} {z : Int × mR} (hRel : RX K M) (hM : Ty M) (hIM : IM i M) (hq : PQs K M) (fK : fr F A K K1) (k1 : chk [225] F = true) (k2 : chk (2 :: 3 :: qkL) A = true) (hky : (r = 0 ∧ (0 ≤ a0 ∧ a0 ≤ 3) ∧ K1.2 4 = upI (K.2 4) a0 a1) ∨ (r = 1 ∧ (a0 < 0 ∨ 3 < a0) ∧ K1.2 4 = K.2 4)) (hz : rf_datum a0 a1 M = some z) (cM : Cn z.2) (hm : mhp M1 c3 = mhp z.2 c4) (vM : Ty M1) : PQs K1 M1 := by
  have q0 := hq.1
  have e2 := fr2 fK 2 (chk_1 k2 (by decide))
  have e3 := fr2 fK 3 (chk_1 k2 (by decide))
  rcases datum_r z hz with ⟨p1, p2⟩ | ⟨p1, p2⟩ <;> rcases hky with ⟨-, h1, h2⟩ | ⟨-, h1, h2⟩
  · refine PQs_k hRel hM hIM hq fK k1 (chk_s k2 rfl) (fun j j0 j1 => ?_) (by rw [p2]; exact fr_m fr_0 rfl rfl) cM hm vM
    obtain ⟨s1, s2, s3⟩ := q0 j j0 j1
    rw [h2, e2, e3, p2]
    exact ⟨s1, s2, upI_cg s3⟩
  · exfalso
    omega
  · exfalso
    omega
  · refine PQs_k hRel hM hIM hq fK k1 (chk_s k2 rfl) (fun j j0 j1 => ?_) (by rw [p2]; exact fr_m fr_0 rfl rfl) cM hm vM
    rw [h2, e2, e3, p2]
    exact q0 j j0 j1
end TPG
