/-! ===== p20: one comes to the line ===== -/
def pmK : List Nat := [46, 49, 51, 52, 53, 54, 55, 56, 57, 58, 110, 111, 112, 113, 114, 139, 140, 141, 142, 143, 144, 167]
section TPF
variable {K K' K1 M M' M1 : mR} {i : Int} {c1 c2 c3 c4 : Nat → Option am_C} {F A G C : List Nat}
/-- as PQ20_p, the line by itself -/
theorem PQ20_g (h : PQ20 K M) (hG : ∀ t, 0 ≤ t → t < M.1 26 → GVQ t K M) (e25 : M'.1 25 = M.1 25) (e26 : M'.1 26 = M.1 26) (e150 : M'.1 150 = M.1 150) (e151 : M'.1 151 = M.1 151) (e152 : M'.1 152 = M.1 152) (hm : ∀ k, k ∈ pmK → ∀ j, 0 ≤ j → M'.2 k j = M.2 k j) (ht : ∀ t, 0 ≤ t → t < M.1 26 → K'.2 78 t = K.2 78 t ∧ ∀ j, 65536 * t ≤ j → j < 65536 * t + 65536 → K'.2 85 j = K.2 85 j ∧ K'.2 86 j = K.2 86 j ∧ K'.2 87 j = K.2 87 j ∧ K'.2 88 j = K.2 88 j ∧ K'.2 89 j = K.2 89 j) (ho : ∀ k, M.1 151 ≤ k → k < M.1 150 → opE K K' (k % 128)) (hh : ∀ t, 0 ≤ t → t < M.1 26 → homeK K' t = homeK K t) (hln : ∀ q, 0 ≤ q → q < M'.1 149 → LNQ K' M' q ((M.1 150 + q) % 128)) : PQ20 K' M' := by
  obtain ⟨HT, h1, h2, ⟨g1, g2, g3⟩, -⟩ := h
  have ea : ∀ k : Int, M'.2 167 (k % 128) = M.2 167 (k % 128) := fun k => hm 167 (by decide) _ (by omega)
  have pg : ∀ t, 0 ≤ t → PGq t M M' := fun t t0 => ⟨e25, ⟨hm 51 (by decide) t t0, hm 52 (by decide) t t0, hm 53 (by decide) t t0, hm 54 (by decide) t t0, hm 55 (by decide) t t0, hm 56 (by decide) t t0, hm 57 (by decide) t t0, hm 58 (by decide) t t0⟩, fun j j0 _ => ⟨hm 110 (by decide) _ (by omega), hm 111 (by decide) _ (by omega), hm 112 (by decide) _ (by omega), hm 113 (by decide) _ (by omega)⟩, fun j j0 _ => hm 114 (by decide) _ (by omega), fun j j0 => ⟨hm 46 (by decide) j j0, hm 49 (by decide) j j0⟩⟩
  unfold PQ20
  rw [e150, e151, e152, e26]
  refine ⟨HT, fun k k0 k1 j j0 => ?_, fun t t0 t1 => ?_, ⟨fun k k0 k1 => ?_, fun k k0 k1 kn kx => ?_, fun t t0 t1 => ?_⟩, hln⟩
  · rw [h1 k k0 k1 j j0]
    refine (hm k ?_ j j0).symm
    unfold pmK
    simp only [List.mem_cons, List.not_mem_nil, or_false]
    omega
  · have w := h2 t t0 t1
    unfold TOK at w ⊢
    rw [hm 139 (by decide) t t0, hm 58 (by decide) t t0, hm 54 (by decide) t t0]
    exact w
  · obtain ⟨o1, o2, -⟩ := ho k k0 (by omega)
    obtain ⟨q1, q2⟩ := g1 k k0 k1
    unfold OPk STPc at *
    rw [o1, o2, e26]
    exact ⟨q1, q2⟩
  · have oe := ho k k0 (by omega)
    obtain ⟨o1, o2, -⟩ := id oe
    rw [o1] at kn
    obtain ⟨z0, z1⟩ := (g1 k k0 k1).1.2 kn
    have kx : M.1 152 - homeK K' (K'.2 95 (k % 128)) ≤ M'.2 167 (k % 128) := kx
    rw [o2, ea, hh _ z0 z1] at kx
    obtain ⟨m0, o, m, p1, p2, p3, p4, p5, p6⟩ := g2 k k0 k1 kn kx
    exact ⟨m0, o, m, p1, by rw [o2]; exact PGq_t p2 (pg _ z0), OPQ_p p3 oe, by rw [o1, o2]; exact p4, p5, p6⟩
  · rw [e26] at t1
    obtain ⟨n, ⟨n1, n2, n3⟩, n4⟩ := g3 t t0 t1
    have g := hG t t0 t1
    obtain ⟨t2, t3⟩ := ht t t0 t1
    refine ⟨n, ⟨n1, fun k k0 k1 => ?_, fun k k0 k1 => ?_⟩, ?_⟩
    · show M'.2 167 (k % 128) < M.1 152 - homeK K' t
      rw [ea, hh t t0 t1]
      exact n2 k k0 k1
    · show M.1 152 - homeK K' t ≤ M'.2 167 (k % 128)
      rw [ea, hh t t0 t1]
      exact n3 k k0 k1
    · exact TQ_f n4 t2 t3 rfl (fun _ _ _ => ⟨rfl, rfl⟩) (fun _ _ _ => ⟨rfl, rfl, rfl⟩) g.2.1.1.2.2.1 (GVQ_4 g) (hm 51 (by decide) t t0) (fun j j0 => hm 46 (by decide) j j0) (fun j j0 => hm 49 (by decide) j j0) (hm 54 (by decide) t t0) (hm 58 (by decide) t t0) e25
/-! what the reference does -/
theorem pk_r {a0 : Int} (L0 : 0 ≤ M.1 149) (L1 : M.1 149 ≤ 40) : RP (rf_packet a0 M) (fun z => ((M.1 128 = 0 ∨ M.1 149 = 40 ∨ 128 < M.1 5) ∧ fr [1] [] M z.2) ∨ (M.1 128 ≠ 0 ∧ M.1 149 < 40 ∧ M.1 5 ≤ 128 ∧ z.2.1 149 = M.1 149 + 1 ∧ fr [1, 5, 148, 149] [153, 154, 155, 159] M z.2 ∧ z.2.2 153 = upI (M.2 153) (M.1 149) 0)) := by
  have bad : ∀ u : Int, 0 < u → (M.1 128 = 0 ∨ M.1 149 = 40 ∨ 128 < M.1 5) → RP (rfl_packet_36 a0 u M) (fun z => ((M.1 128 = 0 ∨ M.1 149 = 40 ∨ 128 < M.1 5) ∧ fr [1] [] M z.2) ∨ (M.1 128 ≠ 0 ∧ M.1 149 < 40 ∧ M.1 5 ≤ 128 ∧ z.2.1 149 = M.1 149 + 1 ∧ fr [1, 5, 148, 149] [153, 154, 155, 159] M z.2 ∧ z.2.2 153 = upI (M.2 153) (M.1 149) 0)) := fun u hu hb => by
    unfold rfl_packet_36
    exact RP_ite (fun g => absurd g (by omega)) (fun _ => RP_some (Or.inl ⟨hb, fr_m fr_0 rfl rfl⟩))
  unfold rf_packet rfl_packet_17
  refine RP_ite (fun q => bad 1 (by decide) (Or.inl q)) (fun q => RP_ite (fun q1 => bad 1 (by decide) (Or.inr (Or.inl q1))) (fun q1 => RP_ite (fun q2 => ?_) (fun q2 => bad 2 (by decide) (Or.inr (Or.inr (by omega))))))
  unfold rfl_packet_36
  refine RP_ite (fun _ => ?_) (fun g => absurd (show (0 : Int) ≤ 0 by decide) g)
  refine RP_bnd (P := fun e => fr [1] [154, 155, 159] M e) (RP_whl (I := fun s : Int × mR => fr [1] [154, 155, 159] M s.2) (fun s hs => ?_) (fr_m fr_0 rfl rfl)) (fun e he => ?_)
  · unfold rfb_packet_73
    exact RP_ite (fun _ => RP_some hs) (fun _ => RP_some (fr_m hs rfl rfl))
  · unfold rfl_packet_108 rf_comes rfl_packet_118
    rw [bnd_some]
    refine RP_some (Or.inr ⟨q, by omega, q2, ?_, fr_m (fr_m (fr_s he fr_0 rfl rfl) rfl rfl) rfl rfl, ?_⟩)
    · show cut (e.1 149 + 1) = _
      rw [fr1 he 149 rfl, cut_i (by omega) (by omega)]
    · show upI (e.2 153) (e.1 149) 0 = _
      rw [fr1 he 149 rfl, fr2 he 153 rfl]
def enI (M : mR) (s : Int × mR) : Prop := (0 ≤ s.1 ∧ s.1 ≤ 4) ∧ fr [1] [156, 157, 158, 160, 161, 162] M s.2 ∧ (∀ j, 0 ≤ j → j < s.1 → s.2.2 160 (4 * M.1 149 + j) = M.2 145 j ∧ s.2.2 161 (4 * M.1 149 + j) = M.2 146 j ∧ s.2.2 162 (4 * M.1 149 + j) = M.2 147 j) ∧ ∀ j, j < 4 * M.1 149 → s.2.2 160 j = M.2 160 j ∧ s.2.2 161 j = M.2 161 j ∧ s.2.2 162 j = M.2 162 j
def enC (a0 a1 : Int) (M : mR) : Prop := (0 ≤ a0 ∧ a0 < 3) ∧ M.1 127 ≠ 0 ∧ (0 ≤ a1 ∧ a1 < M.1 26) ∧ M.1 128 ≠ 0 ∧ M.1 149 ≠ 40
def enP (a0 a1 a2 a3 : Int) (M : mR) (z : Int × mR) : Prop := (¬ enC a0 a1 M ∧ fr [1] [] M z.2) ∨ (enC a0 a1 M ∧ z.2.1 149 = M.1 149 + 1 ∧ fr [1, 148, 149] [153, 156, 157, 158, 160, 161, 162] M z.2 ∧ z.2.2 153 = upI (M.2 153) (M.1 149) (a0 + 1) ∧ z.2.2 156 = upI (M.2 156) (M.1 149) a1 ∧ z.2.2 157 = upI (M.2 157) (M.1 149) a2 ∧ z.2.2 158 = upI (M.2 158) (M.1 149) a3 ∧ (∀ j, 0 ≤ j → j < 4 → z.2.2 160 (4 * M.1 149 + j) = M.2 145 j ∧ z.2.2 161 (4 * M.1 149 + j) = M.2 146 j ∧ z.2.2 162 (4 * M.1 149 + j) = M.2 147 j) ∧ ∀ j, j < 4 * M.1 149 → z.2.2 160 j = M.2 160 j ∧ z.2.2 161 j = M.2 161 j ∧ z.2.2 162 j = M.2 162 j)
theorem en_r {a0 a1 a2 a3 : Int} (L0 : 0 ≤ M.1 149) (L1 : M.1 149 ≤ 40) : RP (rf_entry a0 a1 a2 a3 M) (enP a0 a1 a2 a3 M) := by
  have bad : ∀ u : Int, 0 < u → ¬ enC a0 a1 M → RP (rfl_entry_52 a0 a1 a2 a3 u M) (enP a0 a1 a2 a3 M) := fun u hu hb => by
    unfold rfl_entry_52
    exact RP_ite (fun g => absurd g (by omega)) (fun _ => RP_some (Or.inl ⟨hb, fr_m fr_0 rfl rfl⟩))
  unfold rf_entry rfl_entry_27 rfl_entry_47
  refine RP_bnd in_r (fun u hu => ?_)
  refine RP_ite (fun q => bad 1 (by decide) (fun z => by have := z.1; omega)) (fun q => RP_ite (fun q1 => bad 1 (by decide) (fun z => z.2.1 q1)) (fun q1 => RP_bnd in_r (fun v hv => RP_ite (fun q2 => bad 1 (by decide) (fun z => by have := z.2.2.1; omega)) (fun q2 => RP_ite (fun q3 => bad 2 (by decide) (fun z => z.2.2.2.1 q3)) (fun q3 => RP_ite (fun q4 => bad 2 (by decide) (fun z => z.2.2.2.2 q4)) (fun q4 => ?_))))))
  have hC : enC a0 a1 M := ⟨by omega, q1, by omega, q3, q4⟩
  unfold rfl_entry_52
  refine RP_ite (fun _ => ?_) (fun g => absurd (show (0 : Int) ≤ 0 by decide) g)
  have eM : ∃ M1, M1 = mO M [(1, 0)] [(156, upI (M.2 156) (M.1 149) a1), (157, upI (M.2 157) (M.1 149) a2), (158, upI (M.2 158) (M.1 149) a3)] := ⟨_, rfl⟩
  obtain ⟨M1, eM⟩ := eM
  rw [← eM]
  have f1 : fr [1] [156, 157, 158, 160, 161, 162] M M1 := by rw [eM]; exact fr_m fr_0 rfl rfl
  have g6 : M1.2 156 = upI (M.2 156) (M.1 149) a1 := by rw [eM]; rfl
  have g7 : M1.2 157 = upI (M.2 157) (M.1 149) a2 := by rw [eM]; rfl
  have g8 : M1.2 158 = upI (M.2 158) (M.1 149) a3 := by rw [eM]; rfl
  have r0 : M1.2 160 = M.2 160 := by rw [eM]; rfl
  have r1 : M1.2 161 = M.2 161 := by rw [eM]; rfl
  have r2 : M1.2 162 = M.2 162 := by rw [eM]; rfl
  refine RP_bnd (P := fun e => enI M (4, e) ∧ e.2 156 = M1.2 156 ∧ e.2 157 = M1.2 157 ∧ e.2 158 = M1.2 158) (RP_whl (I := fun s : Int × mR => enI M s ∧ s.2.2 156 = M1.2 156 ∧ s.2.2 157 = M1.2 157 ∧ s.2.2 158 = M1.2 158) (fun s hs => ?_) ⟨⟨⟨Int.le_refl _, show (0 : Int) ≤ 4 by decide⟩, f1, fun j j0 j1 => by have j1 : j < 0 := j1; omega, fun j _ => by show M1.2 160 j = _ ∧ M1.2 161 j = _ ∧ M1.2 162 j = _; rw [r0, r1, r2]; exact ⟨rfl, rfl, rfl⟩⟩, rfl, rfl, rfl⟩) (fun e he => ?_)
  · obtain ⟨⟨⟨s0, s1⟩, sf, s2, s3⟩, s6, s7, s8⟩ := hs
    unfold rfb_entry_98
    refine RP_ite (fun g => RP_some ?_) (fun g => ?_)
    · have e4 : s.1 = 4 := by omega
      refine ⟨?_, s6, s7, s8⟩
      show enI M (4, s.2)
      rw [← e4]
      exact ⟨⟨s0, by omega⟩, sf, s2, s3⟩
    · rw [show s.2.1 149 = M.1 149 from fr1 sf 149 rfl, show s.2.2 145 = M.2 145 from fr2 sf 145 rfl, show s.2.2 146 = M.2 146 from fr2 sf 146 rfl, show s.2.2 147 = M.2 147 from fr2 sf 147 rfl, cut_i (z := 4 * M.1 149) (by omega) (by omega), cut_i (z := 4 * M.1 149 + s.1) (by omega) (by omega), cut_i (z := s.1 + 1) (by omega) (by omega)]
      refine RP_some ⟨⟨⟨show 0 ≤ s.1 + 1 by omega, show s.1 + 1 ≤ 4 by omega⟩, fr_m sf rfl rfl, fun j j0 j1 => ?_, fun j hj => ?_⟩, s6, s7, s8⟩
      · have j1 : j < s.1 + 1 := j1
        show upI (s.2.2 160) (4 * M.1 149 + s.1) (M.2 145 s.1) (4 * M.1 149 + j) = _ ∧ upI (s.2.2 161) (4 * M.1 149 + s.1) (M.2 146 s.1) (4 * M.1 149 + j) = _ ∧ upI (s.2.2 162) (4 * M.1 149 + s.1) (M.2 147 s.1) (4 * M.1 149 + j) = _
        by_cases e : j = s.1
        · rw [e, upI_s, upI_s, upI_s]
          exact ⟨rfl, rfl, rfl⟩
        · rw [upI_n (by omega), upI_n (by omega), upI_n (by omega)]
          exact s2 j j0 (by omega)
      · show upI (s.2.2 160) (4 * M.1 149 + s.1) _ j = _ ∧ upI (s.2.2 161) (4 * M.1 149 + s.1) _ j = _ ∧ upI (s.2.2 162) (4 * M.1 149 + s.1) _ j = _
        rw [upI_n (by omega), upI_n (by omega), upI_n (by omega)]
        exact s3 j hj
  · obtain ⟨⟨-, ef, e2, e3⟩, e6, e7, e8⟩ := he
    have ef : fr [1] [156, 157, 158, 160, 161, 162] M e := ef
    unfold rfl_entry_173 rf_comes rfl_entry_180
    rw [bnd_some]
    refine RP_some (Or.inr ⟨hC, ?_, fr_m (fr_s ef fr_0 rfl rfl) rfl rfl, ?_, e6.trans g6, e7.trans g7, e8.trans g8, e2, e3⟩)
    · show cut (e.1 149 + 1) = _
      rw [fr1 ef 149 rfl, cut_i (by omega) (by omega)]
    · show upI (e.2 153) (e.1 149) (cut (1 + a0)) = _
      rw [fr1 ef 149 rfl, fr2 ef 153 rfl, cut_i (by omega) (by omega), show 1 + a0 = a0 + 1 by omega]
end TPF
