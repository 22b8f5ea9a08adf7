
section SMF
variable {K M : mR} {ac a r d t s : Int}
theorem XRa_of (hN : NDR_nx K M) (h : XE K ac a r) : XRa K ac a r := by
  have n8 := NDR_8 hN
  obtain ⟨a0, a1, a2⟩ := h.1
  exact ⟨⟨K, XRk_of h (by omega)⟩, fun j j0 j1 e => n401 hN (by omega) (by omega) e⟩
theorem DWF_of (gp : PGm K M) (hD : DEd d K M) (hX : XDm ac d K M) : DWF K d ∧ (ac = -1 → DP0 K d) := by
  obtain ⟨gN, gA, m20, m21, m22, m29⟩ := gp
  obtain ⟨x1, x2, x3⟩ := hX
  have ar : (K.2 47 d = M.2 103 d ∧ 0 ≤ M.2 103 d ∧ M.2 103 d < M.1 22) → ARw K d := fun h => by
    obtain ⟨q1, q2, q3⟩ := h
    obtain ⟨-, -, -, r1, r2, r3⟩ := gA _ q2 q3
    unfold ARw
    rw [q1, r1]
    exact ⟨⟨q2, by omega⟩, r2, r3⟩
  rcases hD with ⟨-, e2, hp, e47, e49, he⟩ | ⟨-, e2, hp, h47, he, e51⟩ | ⟨-, e2, h46, h47, he, he2⟩ | ⟨e1, e2, ⟨i0, i1, h46⟩, e47, e49, e51⟩ | ⟨-, e2, h46, e47, e49, e51⟩
  · have s := PLS_s hp m20 m29
    have x := XRa_of gN (x1 e2).1
    exact ⟨Or.inl ⟨e2, ⟨s.2.1, s.2.2⟩, e47, e49, by have := he.2.1; omega, ac, x⟩, fun q => ⟨fun z => absurd e49 z, fun _ => by rw [q] at x; exact x⟩⟩
  · have s := PLS_s hp m20 m29
    have x := XRa_of gN (x2 e2).1
    exact ⟨Or.inr (Or.inl ⟨e2, ⟨s.2.1, s.2.2⟩, ar h47, by have := he.2.1; omega, ⟨ac, x⟩, e51⟩), fun q => ⟨fun _ => by rw [q] at x; exact x, fun z => absurd e51 z⟩⟩
  · have x := XRa_of gN (x3 e2).1
    have y := XRa_of gN (x3 e2).2.1
    exact ⟨Or.inr (Or.inr (Or.inl ⟨e2, ar h47, by have := he.2.1; omega, ⟨ac, x⟩, by have := he2.2.1; omega, ⟨ac, y⟩⟩)), fun q => ⟨fun _ => by rw [q] at x; exact x, fun _ => by rw [q] at y; exact y⟩⟩
  · refine ⟨Or.inr (Or.inr (Or.inr ⟨?_, ⟨by omega, by omega⟩, by omega, fun _ => by omega, e47, e51⟩)), fun _ => ⟨fun z => absurd e49 z, fun z => absurd e51 z⟩⟩
    rcases e1 with e1 | e1
    · exact Or.inl (e2.trans e1)
    · exact Or.inr (Or.inl (e2.trans e1))
  · exact ⟨Or.inr (Or.inr (Or.inr ⟨Or.inr (Or.inr e2), ⟨by omega, by omega⟩, by omega, fun q => by omega, e47, e51⟩)), fun _ => ⟨fun z => absurd e49 z, fun z => absurd e51 z⟩⟩
theorem TWF_of (gp : PGm K M) (hT : TBm t K M) (hA : ACm K M) : TWF K t := by
  have hT' := hT
  obtain ⟨⟨t0, t7⟩, ⟨k72, n0, n4, hk, -⟩, hX, hP, ⟨k78, ⟨q0, q72⟩, -⟩, -⟩ := hT
  refine ⟨⟨t0, t7⟩, by omega, by omega, fun i i0 i1 => ⟨?_, XRa_of gp.1 (hX i i0 (by omega)).1⟩, fun ks => ?_⟩
  · have := (hk i i0 (by omega)).2.1
    omega
  · obtain ⟨a0, a1⟩ := lk_A hT' (ks := ks)
    obtain ⟨⟨p1, p2, p2'⟩, ⟨p3, p4, p4'⟩, -, -, p8⟩ := hA _ a0 a1
    refine ⟨by omega, by omega, fun i i0 i1 => ?_⟩
    obtain ⟨d1, d2⟩ := p8 (K.2 43 (lkK K t ks).1 + i) (by omega) (by omega)
    exact (DWF_of gp d1 d2).1
theorem SWk_of (gp : PGm K M) (hA : ACm K M) (hs : STm s K M) : SWk K s := by
  obtain ⟨⟨e52, e53, e54, e55⟩, -, h⟩ := hs
  rcases h with ⟨k, e56, d1, d2⟩ | ⟨k, he, hE⟩ | ⟨k, hT⟩
  · obtain ⟨x, y⟩ := DWF_of gp d1 d2
    rw [← e56] at x y
    exact Or.inl ⟨e52.trans k, x, y rfl⟩
  · exact Or.inr (Or.inl ⟨e52.trans k, XRa_of gp.1 hE⟩)
  · refine Or.inr (Or.inr ⟨e52.trans k, ?_⟩)
    rw [e55]
    exact TWF_of gp hT hA
end SMF

section SMH
variable {K K1 K2 : mR} {s d a r : Int}

def MKD (s : Int) (K y : mR) : Prop := fr [] [60, 61, 62] K y ∧ (∀ x, 0 ≤ x → xb (K.2 60) s x → xb (y.2 60) s x) ∧ (∀ x, 0 ≤ x → xb (K.2 61) s x → xb (y.2 61) s x) ∧ (∀ b, 0 ≤ b → b < 32 → btt_nx (K.2 62 s) b → btt_nx (y.2 62 s) b) ∧ (∀ q, q < 4 * s ∨ 4 * s + 4 ≤ q → y.2 60 q = K.2 60 q ∧ y.2 61 q = K.2 61 q) ∧ ∀ q, q ≠ s → y.2 62 q = K.2 62 q
theorem MKD_0 : MKD s K K := ⟨fr_0, fun _ _ h => h, fun _ _ h => h, fun _ _ _ h => h, fun _ _ => ⟨rfl, rfl⟩, fun _ _ => rfl⟩
theorem MKD_t (h : MKD s K K1) (g : MKD s K1 K2) : MKD s K K2 := by
  obtain ⟨h1, h2, h3, h4, h5, h6⟩ := h
  obtain ⟨g1, g2, g3, g4, g5, g6⟩ := g
  exact ⟨fr_s g1 h1 rfl rfl, fun x x0 q => g2 x x0 (h2 x x0 q), fun x x0 q => g3 x x0 (h3 x x0 q), fun b b0 b1 q => g4 b b0 b1 (h4 b b0 b1 q), fun q hq => ⟨(g5 q hq).1.trans (h5 q hq).1, (g5 q hq).2.trans (h5 q hq).2⟩, fun q hq => (g6 q hq).trans (h6 q hq)⟩
theorem MKD_60 {x : Int} (x0 : 0 ≤ x) (x1 : x < 256) : MKD s K (mO K [] [(60, MK (K.2 60) s x)]) ∧ xb ((mO K [] [(60, MK (K.2 60) s x)]).2 60) s x := by
  refine ⟨⟨fr_m fr_0 rfl rfl, fun y y0 q => ?_, fun _ _ q => q, fun _ _ _ q => q, fun q hq => ⟨?_, rfl⟩, fun _ _ => rfl⟩, ?_⟩
  · show xb (MK (K.2 60) s x) s y
    exact (xb_MK x0 y0).mpr (Or.inl q)
  · show MK (K.2 60) s x q = _
    exact MK_o x0 x1 hq
  · show xb (MK (K.2 60) s x) s x
    exact (xb_MK x0 x0).mpr (Or.inr rfl)
theorem MKD_61 {x : Int} (x0 : 0 ≤ x) (x1 : x < 256) : MKD s K (mO K [] [(61, MK (K.2 61) s x)]) ∧ xb ((mO K [] [(61, MK (K.2 61) s x)]).2 61) s x := by
  refine ⟨⟨fr_m fr_0 rfl rfl, fun _ _ q => q, fun y y0 q => ?_, fun _ _ _ q => q, fun q hq => ⟨rfl, ?_⟩, fun _ _ => rfl⟩, ?_⟩
  · show xb (MK (K.2 61) s x) s y
    exact (xb_MK x0 y0).mpr (Or.inl q)
  · show MK (K.2 61) s x q = _
    exact MK_o x0 x1 hq
  · show xb (MK (K.2 61) s x) s x
    exact (xb_MK x0 x0).mpr (Or.inr rfl)

def SLX (K : mR) (a r : Int) : Prop := r ≠ -1 → (0 ≤ a ∧ r ≤ 800) ∧ ∀ i, a ≤ i → i ≤ r → K.2 18 i = 400 → 0 ≤ K.2 19 i ∧ K.2 19 i ≤ 220
theorem SLX_f {F A : List Nat} (h : SLX K a r) (f : fr F A K K1) (c : chk [18, 19] A = true) : SLX K1 a r := by
  unfold SLX
  rw [fr2 f 18 (chk_1 c (by decide)), fr2 f 19 (chk_1 c (by decide))]
  exact h
theorem gexpr_u (s0 : 0 ≤ s) (s1 : s < 48) (h : SLX K a r) : RP (kf_sp_gatherExpr s a r K) (fun y => MKD s K y.2 ∧ ∀ x, RDE K a r 0 x → xb (y.2.2 60) s x) := by
  by_cases hr : r = -1
  · rw [hr, gexpr_0]
    exact RP_some ⟨MKD_0, fun x q => absurd rfl q.2.1⟩
  obtain ⟨⟨a0, r8⟩, hs⟩ := h hr
  unfold kf_sp_gatherExpr
  refine RP_bnd (P := fun e : mR => MKD s K e ∧ ∀ j, a ≤ j → j ≤ r → K.2 18 j = 400 → xb (e.2 60) s (K.2 19 j)) (RP_whl (I := fun q : Int × mR => a ≤ q.1 ∧ (q.1 ≤ r + 1 ∨ q.1 = a) ∧ MKD s K q.2 ∧ ∀ j, a ≤ j → j < q.1 → j ≤ r → K.2 18 j = 400 → xb (q.2.2 60) s (K.2 19 j)) (fun q hq => ?_) ⟨Int.le_refl _, Or.inr rfl, MKD_0, fun j j0 j1 => by have j1 : j < a := j1; omega⟩) (fun e he => RP_some ⟨he.1, fun x q => ?_⟩)
  · obtain ⟨i, q⟩ := q
    obtain ⟨i0, i1, hm, hx⟩ := hq
    have i0 : a ≤ i := i0
    have i1 : i ≤ r + 1 ∨ i = a := i1
    have hm : MKD s K q := hm
    have hx : ∀ j, a ≤ j → j < i → j ≤ r → K.2 18 j = 400 → xb (q.2 60) s (K.2 19 j) := hx
    unfold kfb_sp_gatherExpr_3
    refine RP_ite (fun g => absurd g hr) (fun _ => RP_ite (fun g => RP_some ⟨hm, fun j j0 j1 e => hx j j0 (by have g : r < i := g; omega) j1 e⟩) (fun g => ?_))
    have g : ¬ r < i := g
    have c1 : cut (i + 1) = i + 1 := cut_i (by omega) (by omega)
    show RP (if q.2 18 i = 400 then bnd (kf_sp_mark_b60 s (q.2 19 i) q) fun y9 => if (204 : Int) ≤ q.2 19 i then kfl_sp_gatherExpr_76 s r i s (q.2 19 i) y9.2 else kfl_sp_gatherExpr_76 s r i s (cut (q.2 19 i - (q.2 19 i).tmod 17)) y9.2 else kfl_sp_gatherExpr_79 s r i q) _
    rw [fr2 hm.1 18 rfl, fr2 hm.1 19 rfl]
    refine RP_ite (fun e => ?_) (fun e => ?_)
    · obtain ⟨x0, x1⟩ := hs i i0 (by omega) e
      obtain ⟨m1, m2⟩ := MKD_60 (s := s) (K := q) x0 (show K.2 19 i < 256 by omega)
      rw [mark60 s0 s1 x0 (by omega), bnd_some]
      obtain ⟨q1, e1⟩ : ∃ q1, q1 = mO q [] [(60, MK (q.2 60) s (K.2 19 i))] := ⟨_, rfl⟩
      rw [← e1] at m1 m2
      have go : ∀ x : Int, 0 ≤ x → x < 256 → RP (kfl_sp_gatherExpr_76 s r i s x q1) (sel (fun q : Int × mR => a ≤ q.1 ∧ (q.1 ≤ r + 1 ∨ q.1 = a) ∧ MKD s K q.2 ∧ ∀ j, a ≤ j → j < q.1 → j ≤ r → K.2 18 j = 400 → xb (q.2.2 60) s (K.2 19 j)) (fun e : mR => MKD s K e ∧ ∀ j, a ≤ j → j ≤ r → K.2 18 j = 400 → xb (e.2 60) s (K.2 19 j))) := fun x y0 y1 => by
        unfold kfl_sp_gatherExpr_76 kfl_sp_gatherExpr_79
        obtain ⟨n1, n2⟩ := MKD_60 (s := s) (K := q1) y0 y1
        rw [mark60 s0 s1 y0 y1, bnd_some, c1]
        refine RP_some ⟨show a ≤ i + 1 by omega, Or.inl (show i + 1 ≤ r + 1 by omega), MKD_t hm (MKD_t m1 n1), fun j j0 j1 j2 e => ?_⟩
        have j1 : j < i + 1 := j1
        obtain ⟨z0, -⟩ := hs j j0 j2 e
        refine n1.2.1 _ z0 ?_
        by_cases ej : j = i
        · rw [ej]
          exact m2
        · exact m1.2.1 _ z0 (hx j j0 (by omega) j2 e)
      show RP (if (204 : Int) ≤ K.2 19 i then kfl_sp_gatherExpr_76 s r i s (K.2 19 i) (mO q [] [(60, MK (q.2 60) s (K.2 19 i))]) else kfl_sp_gatherExpr_76 s r i s (cut (K.2 19 i - (K.2 19 i).tmod 17)) (mO q [] [(60, MK (q.2 60) s (K.2 19 i))])) _
      rw [← e1, Int.tmod_eq_emod_of_nonneg x0, cut_i (z := K.2 19 i - K.2 19 i % 17) (by omega) (by omega)]
      exact RP_ite (fun _ => go _ x0 (by omega)) (fun _ => go _ (by omega) (by omega))
    · unfold kfl_sp_gatherExpr_79
      rw [c1]
      refine RP_some ⟨show a ≤ i + 1 by omega, Or.inl (show i + 1 ≤ r + 1 by omega), hm, fun j j0 j1 j2 e' => ?_⟩
      have j1 : j < i + 1 := j1
      by_cases ej : j = i
      · rw [ej] at e'
        exact absurd e' e
      · exact hx j j0 (by omega) j2 e'
  · obtain ⟨-, -, i, i0, i1, e1, e2⟩ := q
    rw [← e2]
    exact he.2 i i0 i1 e1

def SLD (K : mR) (d : Int) : Prop := SLX K (K.2 48 d) (K.2 49 d) ∧ SLX K (K.2 50 d) (K.2 51 d) ∧ (K.2 47 d = -1 ∨ (0 ≤ K.2 47 d ∧ K.2 47 d ≤ 7)) ∧ (K.2 46 d = -1 ∨ (0 ≤ K.2 46 d ∧ K.2 46 d ≤ 220)) ∧ (K.2 45 d = 324 ∨ K.2 45 d = 325 → K.2 46 d ≤ 187) ∧ (K.2 45 d = 61 ∨ K.2 45 d = 327 → 0 ≤ K.2 46 d)
theorem SLD_m (h : SLD K d) (m : MKD s K K1) : SLD K1 d := by
  have f := m.1
  unfold SLD SLX
  rw [fr2 f 18 rfl, fr2 f 19 rfl, fr2 f 45 rfl, fr2 f 46 rfl, fr2 f 47 rfl, fr2 f 48 rfl, fr2 f 49 rfl, fr2 f 50 rfl, fr2 f 51 rfl]
  exact h
theorem RDE_m {k : Nat} {x : Int} (m : MKD s K K1) : RDE K1 a r k x ↔ RDE K a r k x := by
  unfold RDE
  rw [fr2 m.1 18 rfl, fr2 m.1 19 rfl]

def GDo (s d : Int) (K y : mR) : Prop := MKD s K y ∧ (∀ x, RDD K d 0 x → xb (y.2 60) s x) ∧ (∀ x, WRD K d 0 x → xb (y.2 61) s x) ∧ (K.2 47 d ≠ -1 → btt_nx (y.2 62 s) (K.2 47 d))
theorem g172_u {v5 v6 : Int} (s0 : 0 ≤ s) (s1 : s < 48) (v0 : 0 ≤ v5) (v1 : v5 ≤ 220) : RP (kfl_sp_gatherDeed_172 s v5 v6 K) (fun y => MKD s K y.2 ∧ (v6 = 0 → v5 < 204 → xb (y.2.2 60) s (v5 - v5 % 17))) := by
  unfold kfl_sp_gatherDeed_172
  refine RP_ite (fun _ => RP_ite (fun g => RP_some ⟨MKD_0, fun _ q => by omega⟩) (fun g => ?_)) (fun g => RP_some ⟨MKD_0, fun q => absurd q g⟩)
  rw [Int.tmod_eq_emod_of_nonneg v0, cut_i (z := v5 - v5 % 17) (by omega) (by omega), mark60 s0 s1 (by omega) (by omega), bnd_some]
  obtain ⟨m1, m2⟩ := MKD_60 (s := s) (K := K) (x := v5 - v5 % 17) (by omega) (by omega)
  exact RP_some ⟨m1, fun _ _ => m2⟩
theorem g140_u {v5 u0 : Int} (s0 : 0 ≤ s) (s1 : s < 48) (v0 : 0 ≤ v5) (v1 : v5 ≤ 220) (hu : u0 = 0 ∨ (u0 = 16 ∧ v5 ≤ 187)) : RP (kfl_sp_gatherDeed_140 s v5 u0 K) (fun y => MKD s K y.2 ∧ (u0 = 0 → v5 < 204 → xb (y.2.2 60) s (v5 - v5 % 17)) ∧ (u0 = 16 → ∀ i, 1 ≤ i → i ≤ 16 → xb (y.2.2 61) s (v5 + i))) := by
  unfold kfl_sp_gatherDeed_140
  refine RP_bnd (P := fun e : mR => MKD s K e ∧ ∀ i, 1 ≤ i → i ≤ u0 → xb (e.2 61) s (v5 + i)) (RP_whl (I := fun q : Int × mR => (1 ≤ q.1 ∧ q.1 ≤ 17) ∧ MKD s K q.2 ∧ ∀ i, 1 ≤ i → i < q.1 → i ≤ u0 → xb (q.2.2 61) s (v5 + i)) (fun q hq => ?_) ⟨⟨Int.le_refl _, show (1 : Int) ≤ 17 by decide⟩, MKD_0, fun i i0 i1 => by have i1 : i < 1 := i1; omega⟩) (fun e he => ?_)
  · obtain ⟨i, q⟩ := q
    obtain ⟨⟨i0, i1⟩, hm, hx⟩ := hq
    have i0 : 1 ≤ i := i0
    have hm : MKD s K q := hm
    have hx : ∀ j, 1 ≤ j → j < i → j ≤ u0 → xb (q.2 61) s (v5 + j) := hx
    unfold kfb_sp_gatherDeed_145
    refine RP_ite (fun g => RP_some ⟨hm, fun j j0 j1 => hx j j0 (by have g : u0 < i := g; omega) j1⟩) (fun g => ?_)
    have g : ¬ u0 < i := g
    show RP (bnd (kf_sp_mark_b61 s (cut (v5 + i)) q) fun y9 => some (Sum.inl (cut (i + 1), y9.2))) _
    rw [cut_i (z := v5 + i) (by omega) (by omega), cut_i (z := i + 1) (by omega) (by omega), mark61 s0 s1 (by omega) (by omega), bnd_some]
    obtain ⟨m1, m2⟩ := MKD_61 (s := s) (K := q) (x := v5 + i) (by omega) (by omega)
    refine RP_some ⟨⟨show 1 ≤ i + 1 by omega, show i + 1 ≤ 17 by omega⟩, MKD_t hm m1, fun j j0 j1 j2 => ?_⟩
    have j1 : j < i + 1 := j1
    by_cases ej : j = i
    · rw [ej]; exact m2
    · exact m1.2.2.1 _ (by omega) (hx j j0 (by omega) j2)
  · refine RP_w (g172_u (K := e) (v6 := u0) s0 s1 v0 v1) (fun y hy => ⟨MKD_t he.1 hy.1, hy.2, fun q i i0 i1 => hy.1.2.2.1 _ (by omega) (he.2 i i0 (by omega))⟩)
theorem g81_u (s0 : 0 ≤ s) (s1 : s < 48) (h : SLD K d) : RP (kfl_sp_gatherDeed_81 s d K) (fun y => MKD s K y.2 ∧ (∀ x, (K.2 45 d = 61 ∨ K.2 45 d = 327) ∧ K.2 46 d ≠ -1 ∧ K.2 46 d < 204 ∧ x = K.2 46 d - K.2 46 d % 17 → xb (y.2.2 60) s x) ∧ ∀ x, WRD K d 0 x → xb (y.2.2 61) s x) := by
  obtain ⟨-, -, -, h46, h45, -⟩ := h
  unfold kfl_sp_gatherDeed_81
  refine RP_ite (fun g => RP_some ⟨MKD_0, fun x q => absurd g q.2.1, fun x q => ?_⟩) (fun g => ?_)
  · rcases q with ⟨-, q, -⟩ | ⟨q, -⟩
    · exact absurd g q
    · exact absurd q (by decide)
  have r46 : 0 ≤ K.2 46 d ∧ K.2 46 d ≤ 220 := by
    rcases h46 with q | q
    · exact absurd q g
    · exact q
  rw [mark61 s0 s1 r46.1 (by omega), bnd_some]
  obtain ⟨m1, m2⟩ := MKD_61 (s := s) (K := K) r46.1 (show K.2 46 d < 256 by omega)
  obtain ⟨q1, e1⟩ : ∃ q1, q1 = mO K [] [(61, MK (K.2 61) s (K.2 46 d))] := ⟨_, rfl⟩
  rw [← e1] at m1 m2
  show RP (if (mO K [] [(61, MK (K.2 61) s (K.2 46 d))]).2 45 d = 324 then kfl_sp_gatherDeed_134 s (K.2 46 d) (mO K [] [(61, MK (K.2 61) s (K.2 46 d))]) else if (mO K [] [(61, MK (K.2 61) s (K.2 46 d))]).2 45 d = 325 then kfl_sp_gatherDeed_134 s (K.2 46 d) (mO K [] [(61, MK (K.2 61) s (K.2 46 d))]) else kfl_sp_gatherDeed_140 s (K.2 46 d) 0 (mO K [] [(61, MK (K.2 61) s (K.2 46 d))])) _
  rw [← e1, fr2 m1.1 45 rfl]
  have wr : ∀ y : mR, MKD s q1 y → (K.2 45 d = 324 ∨ K.2 45 d = 325 → ∀ i, 1 ≤ i → i ≤ 16 → xb (y.2 61) s (K.2 46 d + i)) → ∀ x, WRD K d 0 x → xb (y.2 61) s x := fun y my hy x q => by
    rcases q with ⟨-, -, q⟩ | ⟨q, -⟩
    · have h0 := my.2.2.1 _ r46.1 m2
      rcases q with q | ⟨q1, q2, q3⟩
      · rw [q]; exact h0
      · by_cases e : x = K.2 46 d
        · rw [e]; exact h0
        · have z := hy q1 (x - K.2 46 d) (by omega) (by omega)
          rw [show K.2 46 d + (x - K.2 46 d) = x by omega] at z
          exact z
    · exact absurd q (by decide)
  have g134 : (K.2 45 d = 324 ∨ K.2 45 d = 325) → RP (kfl_sp_gatherDeed_134 s (K.2 46 d) q1) (fun y => MKD s K y.2 ∧ (∀ x, (K.2 45 d = 61 ∨ K.2 45 d = 327) ∧ K.2 46 d ≠ -1 ∧ K.2 46 d < 204 ∧ x = K.2 46 d - K.2 46 d % 17 → xb (y.2.2 60) s x) ∧ ∀ x, WRD K d 0 x → xb (y.2.2 61) s x) := fun e => by
    unfold kfl_sp_gatherDeed_134
    exact RP_w (g140_u (K := q1) s0 s1 r46.1 r46.2 (Or.inr ⟨rfl, h45 e⟩)) (fun y hy => ⟨MKD_t m1 hy.1, fun x q => by have := q.1; omega, wr _ hy.1 (fun _ => hy.2.2 rfl)⟩)
  refine RP_ite (fun e => g134 (Or.inl e)) (fun n1 => RP_ite (fun e => g134 (Or.inr e)) (fun n2 => ?_))
  exact RP_w (g140_u (K := q1) s0 s1 r46.1 r46.2 (Or.inl rfl)) (fun y hy => ⟨MKD_t m1 hy.1, fun x q => by rw [q.2.2.2]; exact hy.2.1 rfl q.2.2.1, wr _ hy.1 (fun e => by omega)⟩)
theorem gdeed_u (s0 : 0 ≤ s) (s1 : s < 48) (h : SLD K d) : RP (kf_sp_gatherDeed s d K) (fun y => GDo s d K y.2) := by
  obtain ⟨h1, h2, h47, h46, h45, h61⟩ := id h
  unfold kf_sp_gatherDeed
  refine RP_bnd (gexpr_u s0 s1 h1) (fun y hy => ?_)
  obtain ⟨m1, x1⟩ := hy
  have h2' : SLX y.2 (y.2.2 50 d) (y.2.2 51 d) := by rw [fr2 m1.1 50 rfl, fr2 m1.1 51 rfl]; exact SLX_f h2 m1.1 rfl
  refine RP_bnd (gexpr_u s0 s1 h2') (fun z hz => ?_)
  obtain ⟨m2, x2⟩ := hz
  rw [fr2 m1.1 50 rfl, fr2 m1.1 51 rfl] at x2
  have m12 := MKD_t m1 m2
  rw [fr2 m12.1 47 rfl]
  have fin : ∀ q : mR, MKD s K q → MKD s z.2 q → (K.2 47 d ≠ -1 → btt_nx (q.2 62 s) (K.2 47 d)) → RP (kfl_sp_gatherDeed_81 s d q) (fun y => GDo s d K y.2) := fun q mq mz hb => by
    refine RP_w (g81_u s0 s1 (SLD_m h mq)) (fun w hw => ?_)
    obtain ⟨w1, w2, w3⟩ := hw
    refine ⟨MKD_t mq w1, fun x hx => ?_, fun x hx => w3 x ?_, fun e => w1.2.2.2.1 _ (by omega) (by omega) (hb e)⟩
    · have nn : RDE K (K.2 48 d) (K.2 49 d) 0 x ∨ RDE K (K.2 50 d) (K.2 51 d) 0 x → 0 ≤ x := fun hh => by
        rcases hh with ⟨-, hr, i, i0, i1, e1, e2⟩ | ⟨-, hr, i, i0, i1, e1, e2⟩
        · have := (h1 hr).2 i i0 i1 e1
          omega
        · have := (h2 hr).2 i i0 i1 e1
          omega
      rcases hx with hx | hx | ⟨-, e1, e2, e3⟩ | ⟨e, -⟩
      · exact w1.2.1 x (nn (Or.inl hx)) (mz.2.1 x (nn (Or.inl hx)) (m2.2.1 x (nn (Or.inl hx)) (x1 x hx)))
      · exact w1.2.1 x (nn (Or.inr hx)) (mz.2.1 x (nn (Or.inr hx)) (x2 x ((RDE_m m1).mpr hx)))
      · refine w2 x ?_
        rw [fr2 mq.1 45 rfl, fr2 mq.1 46 rfl]
        exact ⟨e1, fun q => by have := h61 e1; omega, e2, e3⟩
      · exact absurd e (by decide)
    · unfold WRD at hx ⊢
      rw [fr2 mq.1 45 rfl, fr2 mq.1 46 rfl, fr2 mq.1 47 rfl]
      exact hx
  refine RP_ite (fun e => fin z.2 m12 MKD_0 (fun q => absurd e q)) (fun e => ?_)
  have b47 : 0 ≤ K.2 47 d ∧ K.2 47 d ≤ 7 := by
    rcases h47 with q | q
    · exact absurd q e
    · exact q
  have mz : MKD s z.2 (mO z.2 [] [(62, upI (z.2.2 62) s (or32 (z.2.2 62 s) (shl32 1 (K.2 47 d))))]) := by
    refine ⟨fr_m fr_0 rfl rfl, fun _ _ q => q, fun _ _ q => q, fun b b0 b1 q => ?_, fun _ _ => ⟨rfl, rfl⟩, fun q hq => ?_⟩
    · show btt_nx (upI (z.2.2 62) s (or32 (z.2.2 62 s) (shl32 1 (K.2 47 d))) s) b
      rw [upI_s, btt_or_nx b0 b1]
      exact Or.inl q
    · show upI (z.2.2 62) s _ q = _
      rw [upI_n hq]
  refine fin _ (MKD_t m12 mz) mz (fun _ => ?_)
  show btt_nx (upI (z.2.2 62) s (or32 (z.2.2 62 s) (shl32 1 (K.2 47 d))) s) (K.2 47 d)
  rw [upI_s, btt_or_nx b47.1 (by omega)]
  exact Or.inr ((btt_s8 b47.1 (by omega) b47.1 (by omega)).mpr rfl)

theorem GDo_c {K0 : mR} (h : GDo s d K1 K2) (m : MKD s K0 K1) : GDo s d K0 K2 := by
  obtain ⟨h1, h2, h3, h4⟩ := h
  have f := m.1
  refine ⟨MKD_t m h1, fun x q => h2 x ?_, fun x q => h3 x ?_, fun q => ?_⟩
  · unfold RDD at q ⊢
    rw [RDE_m m, RDE_m m, fr2 f 45 rfl, fr2 f 46 rfl, fr2 f 47 rfl, fr2 f 48 rfl, fr2 f 49 rfl, fr2 f 50 rfl, fr2 f 51 rfl]
    exact q
  · unfold WRD at q ⊢
    rw [fr2 f 45 rfl, fr2 f 46 rfl, fr2 f 47 rfl]
    exact q
  · rw [fr2 f 47 rfl] at h4
    exact h4 q
theorem GDo_m {K3 : mR} (h : GDo s d K K2) (m : MKD s K2 K3) (hd : SLD K d) : GDo s d K K3 := by
  obtain ⟨h1, h2, h3, h4⟩ := h
  obtain ⟨s1, s2, s47, s46, s45, s61⟩ := hd
  refine ⟨MKD_t h1 m, fun x q => m.2.1 x ?_ (h2 x q), fun x q => m.2.2.1 x ?_ (h3 x q), fun q => m.2.2.2.1 _ (by omega) (by omega) (h4 q)⟩
  · rcases q with ⟨-, hr, i, i0, i1, e1, e2⟩ | ⟨-, hr, i, i0, i1, e1, e2⟩ | ⟨-, e1, e2, e3⟩ | ⟨e, -⟩
    · have := (s1 hr).2 i i0 i1 e1
      omega
    · have := (s2 hr).2 i i0 i1 e1
      omega
    · have := s61 e1
      omega
    · exact absurd e (by decide)
  · rcases q with ⟨-, q1, q2⟩ | ⟨q, -⟩
    · rcases q2 with q2 | ⟨-, q2, -⟩
      · omega
      · omega
    · exact absurd q (by decide)
theorem gaction_u {a : Int} (s0 : 0 ≤ s) (s1 : s < 48) (c0 : 0 ≤ K.2 44 a ∧ K.2 44 a ≤ 12) (f0 : 0 ≤ K.2 43 a ∧ K.2 43 a ≤ 4000) (h : ∀ i, 0 ≤ i → i < K.2 44 a → SLD K (K.2 43 a + i)) : RP (kf_sp_gatherAction s a K) (fun y => MKD s K y.2 ∧ ∀ i, 0 ≤ i → i < K.2 44 a → GDo s (K.2 43 a + i) K y.2) := by
  unfold kf_sp_gatherAction
  refine RP_bnd (P := fun e : mR => MKD s K e ∧ ∀ i, 0 ≤ i → i < K.2 44 a → GDo s (K.2 43 a + i) K e) (RP_whl (I := fun q : Int × mR => (0 ≤ q.1 ∧ q.1 ≤ K.2 44 a) ∧ MKD s K q.2 ∧ ∀ i, 0 ≤ i → i < q.1 → GDo s (K.2 43 a + i) K q.2) (fun q hq => ?_) ⟨⟨Int.le_refl _, c0.1⟩, MKD_0, fun i i0 i1 => by have i1 : i < 0 := i1; omega⟩) (fun e he => RP_some he)
  obtain ⟨i, q⟩ := q
  obtain ⟨⟨i0, i1⟩, hm, hx⟩ := hq
  have i0 : 0 ≤ i := i0
  have i1 : i ≤ K.2 44 a := i1
  have hm : MKD s K q := hm
  have hx : ∀ j, 0 ≤ j → j < i → GDo s (K.2 43 a + j) K q := hx
  unfold kfb_sp_gatherAction_9
  show RP (if q.2 44 a ≤ i then some (Sum.inr q) else bnd (kf_sp_gatherDeed s (cut (q.2 43 a + i)) q) fun y4 => some (Sum.inl (cut (i + 1), y4.2))) _
  rw [fr2 hm.1 44 rfl, fr2 hm.1 43 rfl]
  refine RP_ite (fun g => RP_some ⟨hm, fun j j0 j1 => hx j j0 (by omega)⟩) (fun g => ?_)
  rw [cut_i (z := K.2 43 a + i) (by omega) (by omega), cut_i (z := i + 1) (by omega) (by omega)]
  refine RP_bnd (gdeed_u (K := q) s0 s1 (SLD_m (h i i0 (by omega)) hm)) (fun y hy => RP_some ⟨⟨show 0 ≤ i + 1 by omega, show i + 1 ≤ K.2 44 a by omega⟩, MKD_t hm hy.1, fun j j0 j1 => ?_⟩)
  have j1 : j < i + 1 := j1
  by_cases ej : j = i
  · rw [ej]
    exact GDo_c hy hm
  · exact GDo_m (hx j j0 (by omega)) hy.1 (h j j0 (by omega))
end SMH

section SMI
variable {K K1 K2 : mR} {s d a r t : Int}

def SLA (K : mR) (a : Int) : Prop := (0 ≤ K.2 44 a ∧ K.2 44 a ≤ 12) ∧ (0 ≤ K.2 43 a ∧ K.2 43 a ≤ 4000) ∧ ∀ i, 0 ≤ i → i < K.2 44 a → SLD K (K.2 43 a + i)
def SLt (K : mR) (t : Int) : Prop := (0 ≤ K.2 72 t ∧ K.2 72 t ≤ 4) ∧ (0 ≤ K.2 73 t ∧ K.2 73 t ≤ 8) ∧ (∀ i, 0 ≤ i → i < K.2 72 t → SLX K (K.2 79 (65536 * t + i)) (K.2 80 (65536 * t + i))) ∧ SLA K (K.2 74 t) ∧ ∀ i, 0 ≤ i → i < K.2 73 t → SLA K (K.2 83 (65536 * t + i))
def SLs (K : mR) (s : Int) : Prop := (K.2 52 s = 1 ∧ SLX K (K.2 57 s) (K.2 58 s)) ∨ (K.2 52 s = 0 ∧ SLD K (K.2 56 s)) ∨ (K.2 52 s = 2 ∧ SLt K (K.2 55 s))
theorem SLA_m (h : SLA K a) (m : MKD s K K1) : SLA K1 a := by
  obtain ⟨h1, h2, h3⟩ := h
  have f := m.1
  unfold SLA
  rw [fr2 f 44 rfl, fr2 f 43 rfl]
  exact ⟨h1, h2, fun i i0 i1 => SLD_m (h3 i i0 i1) m⟩

def GAo (s a : Int) (K y : mR) : Prop := ∀ i, 0 ≤ i → i < K.2 44 a → GDo s (K.2 43 a + i) K y
theorem GAo_c {K0 : mR} (h : GAo s a K1 K2) (m : MKD s K0 K1) : GAo s a K0 K2 := fun i i0 i1 => by
  have q := h i (by omega) (by rw [fr2 m.1 44 rfl]; exact i1)
  rw [fr2 m.1 43 rfl] at q
  exact GDo_c q m
theorem GAo_m {K3 : mR} (h : GAo s a K K2) (m : MKD s K2 K3) (ha : SLA K a) : GAo s a K K3 := fun i i0 i1 => GDo_m (h i i0 i1) m (ha.2.2 i i0 i1)
theorem gact_u (s0 : 0 ≤ s) (s1 : s < 48) (ha : SLA K a) : RP (kf_sp_gatherAction s a K) (fun y => MKD s K y.2 ∧ GAo s a K y.2) := gaction_u s0 s1 ha.1 ha.2.1 ha.2.2

def GSo (s : Int) (K y : mR) : Prop := MKD s K y ∧ (∀ x, RDs K s 0 x → xb (y.2 60) s x) ∧ (∀ x, WRs K s 0 x → xb (y.2 61) s x) ∧ ∀ j, RDs K s 1 j ∨ WRs K s 1 j → (0 ≤ j / 64 ∧ j / 64 ≤ 7) ∧ btt_nx (y.2 62 s) (j / 64)

theorem GDo_w (h : GDo s d K K1) (hd : SLD K d) {j : Int} (q : RDD K d 1 j ∨ WRD K d 1 j) : (0 ≤ j / 64 ∧ j / 64 ≤ 7) ∧ btt_nx (K1.2 62 s) (j / 64) := by
  have w : K.2 47 d ≠ -1 ∧ 64 * K.2 47 d ≤ j ∧ j < 64 * K.2 47 d + 64 := by
    rcases q with q | q
    · rcases q with ⟨q, -⟩ | ⟨q, -⟩ | ⟨q, -⟩ | ⟨-, q⟩
      · exact absurd q (by decide)
      · exact absurd q (by decide)
      · exact absurd q (by decide)
      · exact q
    · rcases q with ⟨q, -⟩ | ⟨-, q⟩
      · exact absurd q (by decide)
      · exact q
  obtain ⟨w1, w2, w3⟩ := w
  obtain ⟨-, -, s47, -⟩ := hd
  have e : j / 64 = K.2 47 d := by omega
  rw [e]
  exact ⟨by omega, h.2.2.2 w1⟩
theorem keysg_u (s0 : 0 ≤ s) (s1 : s < 48) (t0 : 0 ≤ t) (h : SLt K t) : RP (whl (kfb_sp_gather_115 s t) (0, K)) (fun e => MKD s K e ∧ ∀ i, 0 ≤ i → i < K.2 72 t → ∀ x, RDE K (K.2 79 (65536 * t + i)) (K.2 80 (65536 * t + i)) 0 x → xb (e.2 60) s x) := by
  obtain ⟨⟨n0, n4⟩, -, hk, -⟩ := h
  refine RP_whl (I := fun q : Int × mR => (0 ≤ q.1 ∧ q.1 ≤ K.2 72 t) ∧ MKD s K q.2 ∧ ∀ i, 0 ≤ i → i < q.1 → ∀ x, RDE K (K.2 79 (65536 * t + i)) (K.2 80 (65536 * t + i)) 0 x → xb (q.2.2 60) s x) (fun q hq => ?_) ⟨⟨Int.le_refl _, n0⟩, MKD_0, fun i i0 i1 => by have i1 : i < 0 := i1; omega⟩
  obtain ⟨i, q⟩ := q
  obtain ⟨⟨i0, i1⟩, hm, hx⟩ := hq
  have i0 : 0 ≤ i := i0
  have i1 : i ≤ K.2 72 t := i1
  have hm : MKD s K q := hm
  have hx : ∀ j, 0 ≤ j → j < i → ∀ x, RDE K (K.2 79 (65536 * t + j)) (K.2 80 (65536 * t + j)) 0 x → xb (q.2 60) s x := hx
  unfold kfb_sp_gather_115
  show RP (if q.2 72 t ≤ i then some (Sum.inr q) else bnd (kf_sp_gatherExpr s (q.2 79 (65536 * t + i)) (q.2 80 (65536 * t + i)) q) fun y17 => some (Sum.inl (cut (i + 1), y17.2))) _
  rw [fr2 hm.1 72 rfl, fr2 hm.1 79 rfl, fr2 hm.1 80 rfl, cut_i (z := i + 1) (by omega) (by omega)]
  refine RP_ite (fun g => RP_some ⟨hm, fun j j0 j1 => hx j j0 (by omega)⟩) (fun g => ?_)
  refine RP_bnd (gexpr_u (K := q) s0 s1 (SLX_f (hk i i0 (by omega)) hm.1 rfl)) (fun y hy => RP_some ⟨⟨show 0 ≤ i + 1 by omega, show i + 1 ≤ K.2 72 t by omega⟩, MKD_t hm hy.1, fun j j0 j1 x q1 => ?_⟩)
  have j1 : j < i + 1 := j1
  by_cases ej : j = i
  · rw [ej] at q1
    exact hy.2 x ((RDE_m hm).mpr q1)
  · refine hy.1.2.1 x ?_ (hx j j0 (by omega) x q1)
    obtain ⟨-, hr, k, k0, k1, e1, e2⟩ := q1
    have := (hk j j0 (by omega) hr).2 k k0 k1 e1
    omega
theorem listg_u (s0 : 0 ≤ s) (s1 : s < 48) (h : SLt K t) : RP (whl (kfb_sp_gather_156 s t) (0, K)) (fun e => MKD s K e ∧ ∀ i, 0 ≤ i → i < K.2 73 t → GAo s (K.2 83 (65536 * t + i)) K e) := by
  obtain ⟨-, ⟨n0, n8⟩, -, -, hk⟩ := h
  refine RP_whl (I := fun q : Int × mR => (0 ≤ q.1 ∧ q.1 ≤ K.2 73 t) ∧ MKD s K q.2 ∧ ∀ i, 0 ≤ i → i < q.1 → GAo s (K.2 83 (65536 * t + i)) K q.2) (fun q hq => ?_) ⟨⟨Int.le_refl _, n0⟩, MKD_0, fun i i0 i1 => by have i1 : i < 0 := i1; omega⟩
  obtain ⟨i, q⟩ := q
  obtain ⟨⟨i0, i1⟩, hm, hx⟩ := hq
  have i0 : 0 ≤ i := i0
  have i1 : i ≤ K.2 73 t := i1
  have hm : MKD s K q := hm
  have hx : ∀ j, 0 ≤ j → j < i → GAo s (K.2 83 (65536 * t + j)) K q := hx
  unfold kfb_sp_gather_156
  show RP (if q.2 73 t ≤ i then some (Sum.inr q) else bnd (kf_sp_gatherAction s (q.2 83 (65536 * t + i)) q) fun y9 => some (Sum.inl (cut (i + 1), y9.2))) _
  rw [fr2 hm.1 73 rfl, fr2 hm.1 83 rfl, cut_i (z := i + 1) (by omega) (by omega)]
  refine RP_ite (fun g => RP_some ⟨hm, fun j j0 j1 => hx j j0 (by omega)⟩) (fun g => ?_)
  refine RP_bnd (gact_u (K := q) s0 s1 (SLA_m (hk i i0 (by omega)) hm)) (fun y hy => RP_some ⟨⟨show 0 ≤ i + 1 by omega, show i + 1 ≤ K.2 73 t by omega⟩, MKD_t hm hy.1, fun j j0 j1 => ?_⟩)
  have j1 : j < i + 1 := j1
  by_cases ej : j = i
  · rw [ej]
    exact GAo_c hy.2 hm
  · exact GAo_m (hx j j0 (by omega)) hy.1 (hk j j0 (by omega))

theorem gstep_u (s0 : 0 ≤ s) (s1 : s < 48) (t0 : K.2 52 s = 2 → 0 ≤ K.2 55 s) (h : SLs K s) : RP (kfl_sp_gather_35 s K) (fun y => GSo s (mO K [] [(62, upI (K.2 62) s 0)]) y.2) := by
  obtain ⟨L, eL⟩ : ∃ L, L = mO K [] [(62, upI (K.2 62) s 0)] := ⟨_, rfl⟩
  have fL : fr [] [62] K L := by rw [eL]; exact fr_m fr_0 rfl rfl
  have rw1 : ∀ y : mR, GSo s L y → GSo s (mO K [] [(62, upI (K.2 62) s 0)]) y := fun y q => by rw [← eL]; exact q
  unfold kfl_sp_gather_35
  rw [← eL]
  have no1 : ∀ {k : Nat} {x a r : Int}, k ≠ 0 → ¬ RDE L a r k x := fun hk q => hk q.1
  rcases h with ⟨k, h⟩ | ⟨k, h⟩ | ⟨k, h⟩
  · rw [if_pos k]
    have h' : SLX L (K.2 57 s) (K.2 58 s) := SLX_f h fL rfl
    refine RP_bnd (gexpr_u s0 s1 h') (fun y hy => RP_some ⟨hy.1, fun x q => ?_, fun x q => ?_, fun j q => ?_⟩)
    · rcases q with ⟨-, q⟩ | ⟨q, -⟩ | ⟨q, -⟩ | ⟨q, -⟩
      · rw [fr2 fL 57 rfl, fr2 fL 58 rfl] at q
        exact hy.2 x q
      · rw [fr2 fL 52 rfl] at q; omega
      · rw [fr2 fL 52 rfl] at q; omega
      · exact absurd q (by decide)
    · rcases q with ⟨q, -⟩ | ⟨q, -⟩ | ⟨q, -⟩
      · rw [fr2 fL 52 rfl] at q; omega
      · rw [fr2 fL 52 rfl] at q; omega
      · exact absurd q (by decide)
    · rcases q with q | q
      · rcases q with ⟨-, q⟩ | ⟨q, -⟩ | ⟨q, -⟩ | ⟨q, -⟩
        · exact absurd q (no1 (by decide))
        · rw [fr2 fL 52 rfl] at q; omega
        · rw [fr2 fL 52 rfl] at q; omega
        · exact absurd q (by decide)
      · rcases q with ⟨q, -⟩ | ⟨q, -⟩ | ⟨q, -⟩
        · rw [fr2 fL 52 rfl] at q; omega
        · rw [fr2 fL 52 rfl] at q; omega
        · exact absurd q (by decide)
  · rw [if_neg (by omega), if_pos k]
    have h' : SLD L (K.2 56 s) := by
      unfold SLD SLX
      rw [fr2 fL 18 rfl, fr2 fL 19 rfl, fr2 fL 45 rfl, fr2 fL 46 rfl, fr2 fL 47 rfl, fr2 fL 48 rfl, fr2 fL 49 rfl, fr2 fL 50 rfl, fr2 fL 51 rfl]
      exact h
    refine RP_bnd (gdeed_u s0 s1 h') (fun y hy => RP_some ⟨hy.1, fun x q => ?_, fun x q => ?_, fun j q => ?_⟩)
    · rcases q with ⟨q, -⟩ | ⟨-, q⟩ | ⟨q, -⟩ | ⟨q, -⟩
      · rw [fr2 fL 52 rfl] at q; omega
      · rw [fr2 fL 56 rfl] at q
        exact hy.2.1 x q
      · rw [fr2 fL 52 rfl] at q; omega
      · exact absurd q (by decide)
    · rcases q with ⟨-, q⟩ | ⟨q, -⟩ | ⟨q, -⟩
      · rw [fr2 fL 56 rfl] at q
        exact hy.2.2.1 x q
      · rw [fr2 fL 52 rfl] at q; omega
      · exact absurd q (by decide)
    · refine GDo_w hy h' ?_
      rcases q with q | q
      · rcases q with ⟨q, -⟩ | ⟨-, q⟩ | ⟨q, -⟩ | ⟨q, -⟩
        · rw [fr2 fL 52 rfl] at q; omega
        · rw [fr2 fL 56 rfl] at q
          exact Or.inl q
        · rw [fr2 fL 52 rfl] at q; omega
        · exact absurd q (by decide)
      · rcases q with ⟨-, q⟩ | ⟨q, -⟩ | ⟨q, -⟩
        · rw [fr2 fL 56 rfl] at q
          exact Or.inr q
        · rw [fr2 fL 52 rfl] at q; omega
        · exact absurd q (by decide)
  · rw [if_neg (by omega), if_neg (by omega)]
    have t0 := t0 k
    obtain ⟨t, et⟩ : ∃ t, t = K.2 55 s := ⟨_, rfl⟩
    rw [← et] at h t0 ⊢
    have l55 : L.2 55 s = t := by rw [fr2 fL 55 rfl]; exact et.symm
    have mL : ∀ {a r : Int}, SLX K a r → SLX L a r := fun q => SLX_f q fL rfl
    have dL : ∀ {d : Int}, SLD K d → SLD L d := fun q => by
      unfold SLD SLX at q ⊢
      rw [fr2 fL 18 rfl, fr2 fL 19 rfl, fr2 fL 45 rfl, fr2 fL 46 rfl, fr2 fL 47 rfl, fr2 fL 48 rfl, fr2 fL 49 rfl, fr2 fL 50 rfl, fr2 fL 51 rfl]
      exact q
    have aL : ∀ {a : Int}, SLA K a → SLA L a := fun q => by
      unfold SLA
      rw [fr2 fL 43 rfl, fr2 fL 44 rfl]
      exact ⟨q.1, q.2.1, fun i i0 i1 => dL (q.2.2 i i0 i1)⟩
    have hL : SLt L t := by
      unfold SLt
      rw [fr2 fL 72 rfl, fr2 fL 73 rfl, fr2 fL 74 rfl, fr2 fL 79 rfl, fr2 fL 80 rfl, fr2 fL 83 rfl]
      exact ⟨h.1, h.2.1, fun i i0 i1 => mL (h.2.2.1 i i0 i1), aL h.2.2.2.1, fun i i0 i1 => aL (h.2.2.2.2 i i0 i1)⟩
    refine RP_bnd (keysg_u s0 s1 t0 hL) (fun e he => ?_)
    obtain ⟨m1, x1⟩ := he
    unfold kfl_sp_gather_153 kfl_sp_gather_184
    have hLe : SLt e t := by
      have f := m1.1
      unfold SLt
      rw [fr2 f 72 rfl, fr2 f 73 rfl, fr2 f 74 rfl, fr2 f 79 rfl, fr2 f 80 rfl, fr2 f 83 rfl]
      exact ⟨hL.1, hL.2.1, fun i i0 i1 => SLX_f (hL.2.2.1 i i0 i1) f rfl, SLA_m hL.2.2.2.1 m1, fun i i0 i1 => SLA_m (hL.2.2.2.2 i i0 i1) m1⟩
    refine RP_bnd (listg_u s0 s1 hLe) (fun q hq => ?_)
    obtain ⟨m2, x2⟩ := hq
    have m12 := MKD_t m1 m2
    rw [fr2 m12.1 74 rfl]
    refine RP_bnd (gact_u s0 s1 (SLA_m hL.2.2.2.1 m12)) (fun y hy => RP_some ?_)
    obtain ⟨m3, x3⟩ := hy
    have acts : ∀ a, ACTS L s a → SLA L a ∧ GAo s a L y.2 := fun a qa => by
      unfold ACTS at qa
      rw [l55] at qa
      rcases qa with qa | ⟨i, i0, i1, qa⟩
      · rw [qa]
        exact ⟨hL.2.2.2.1, GAo_c x3 m12⟩
      · rw [← qa]
        refine ⟨hL.2.2.2.2 i i0 i1, ?_⟩
        have z := x2 i i0 (by rw [fr2 m1.1 73 rfl]; exact i1)
        rw [fr2 m1.1 83 rfl] at z
        exact GAo_m (GAo_c z m1) m3 (hL.2.2.2.2 i i0 i1)
    refine ⟨MKD_t m12 m3, fun x q => ?_, fun x q => ?_, fun j q => ?_⟩
    · rcases q with ⟨q, -⟩ | ⟨q, -⟩ | ⟨-, q⟩ | ⟨q, -⟩
      · rw [fr2 fL 52 rfl] at q; omega
      · rw [fr2 fL 52 rfl] at q; omega
      · rcases q with ⟨i, i0, i1, q⟩ | ⟨a, qa, i, i0, i1, q⟩
        · rw [l55] at i1 q
          have nn : 0 ≤ x := by
            obtain ⟨-, hr, k, k0, k1, e1, e2⟩ := q
            have := (hL.2.2.1 i i0 i1 hr).2 k k0 k1 e1
            omega
          exact m3.2.1 x nn (m2.2.1 x nn (x1 i i0 i1 x q))
        · exact ((acts a qa).2 i i0 i1).2.1 x q
      · exact absurd q (by decide)
    · rcases q with ⟨q, -⟩ | ⟨-, a, qa, i, i0, i1, q⟩ | ⟨q, -⟩
      · rw [fr2 fL 52 rfl] at q; omega
      · exact ((acts a qa).2 i i0 i1).2.2.1 x q
      · exact absurd q (by decide)
    · rcases q with q | q
      · rcases q with ⟨q, -⟩ | ⟨q, -⟩ | ⟨-, q⟩ | ⟨q, -⟩
        · rw [fr2 fL 52 rfl] at q; omega
        · rw [fr2 fL 52 rfl] at q; omega
        · rcases q with ⟨i, -, -, q⟩ | ⟨a, qa, i, i0, i1, q⟩
          · exact absurd q (no1 (by decide))
          · exact GDo_w ((acts a qa).2 i i0 i1) ((acts a qa).1.2.2 i i0 i1) (Or.inl q)
        · exact absurd q (by decide)
      · rcases q with ⟨q, -⟩ | ⟨-, a, qa, i, i0, i1, q⟩ | ⟨q, -⟩
        · rw [fr2 fL 52 rfl] at q; omega
        · exact GDo_w ((acts a qa).2 i i0 i1) ((acts a qa).1.2.2 i i0 i1) (Or.inr q)
        · exact absurd q (by decide)
end SMI

section SMJ
variable {K : mR} {s d a r t j : Int}

def LYh (s j h : Int) (K : mR) : Prop := ((MT (K.2 61) (K.2 60) s j ∨ MT (K.2 61) (K.2 61) s j ∨ K.2 53 j = s) → K.2 59 s + 1 ≤ h) ∧ (MT (K.2 60) (K.2 61) s j → K.2 59 s ≤ h) ∧ (and32 (K.2 62 s) (K.2 62 j) ≠ 0 → h = K.2 59 s)

def LYb (s j h b : Int) (K : mR) : Prop := ((MT (K.2 61) (K.2 60) s j ∨ MT (K.2 61) (K.2 61) s j ∨ K.2 53 j = s) → K.2 59 s + 1 ≤ h) ∧ (MT (K.2 60) (K.2 61) s j → K.2 59 s ≤ h) ∧ (and32 (K.2 62 s) (K.2 62 j) ≠ 0 → b = K.2 59 s)
theorem LYb_m {h h' b b' : Int} (g : LYb s j h b K) (hh : h ≤ h') (hb : b ≠ -1 → b' = b) (h0 : 0 ≤ K.2 59 s) : LYb s j h' b' K := by
  obtain ⟨g1, g2, g3⟩ := g
  exact ⟨fun q => by have := g1 q; omega, fun q => by have := g2 q; omega, fun q => by have := g3 q; rw [hb (by omega)]; exact this⟩
theorem st_u {v2 v3 v4 v5 v6 : Int} (n : v2 ≤ 12) (v0 : 0 ≤ v5) (v1 : v5 ≤ 100) : RP (kfl_sp_earliest_178 v2 v3 v4 v5 v6 K) (fun y => y ≠ -1 → v5 ≤ y ∧ y < v2 ∧ (v6 = -1 ∨ v6 = y)) := by
  unfold kfl_sp_earliest_178
  refine RP_bnd (P := sel (fun e : Int => v5 ≤ e ∧ e < v2 ∧ (v6 = -1 ∨ v6 = e)) (fun _ : Unit => True)) (RP_whl (I := fun q : Int => v5 ≤ q ∧ q ≤ 101) (fun q hq => ?_) ⟨Int.le_refl _, by show v5 ≤ 101; omega⟩) (RP_sl (fun e he => RP_some (fun _ => he)) (fun _ _ => RP_some (fun q => absurd rfl q)))
  obtain ⟨q0, q1⟩ := hq
  unfold kfb_sp_earliest_182
  refine RP_ite (fun _ => RP_some trivial) (fun g => ?_)
  have c1 : cut (q + 1) = q + 1 := cut_i (by omega) (by omega)
  have p263 : RP (kfl_sp_earliest_263 v2 v3 v4 v6 q K) (sel (fun q : Int => v5 ≤ q ∧ q ≤ 101) (sel (fun e : Int => v5 ≤ e ∧ e < v2 ∧ (v6 = -1 ∨ v6 = e)) (fun _ : Unit => True))) := by
    unfold kfl_sp_earliest_263
    rw [c1]
    exact RP_some ⟨show v5 ≤ q + 1 by omega, show q + 1 ≤ 101 by omega⟩
  have p236 : ∀ v8 u0 : Int, (v8 ≠ 0 → v6 = -1 ∨ v6 = q) → RP (kfl_sp_earliest_236 v2 v3 v4 v6 q v8 u0 K) (sel (fun q : Int => v5 ≤ q ∧ q ≤ 101) (sel (fun e : Int => v5 ≤ e ∧ e < v2 ∧ (v6 = -1 ∨ v6 = e)) (fun _ : Unit => True))) := fun v8 u0 hv => by
    unfold kfl_sp_earliest_236
    exact RP_ite (fun _ => p263) (fun e => RP_ite (fun _ => p263) (fun _ => RP_ite (fun _ => p263) (fun _ => RP_some ⟨q0, by omega, hv e⟩)))
  have p206 : ∀ v8 : Int, (v8 ≠ 0 → v6 = -1 ∨ v6 = q) → RP (kfl_sp_earliest_206 v2 v3 v4 v6 q v8 K) (sel (fun q : Int => v5 ≤ q ∧ q ≤ 101) (sel (fun e : Int => v5 ≤ e ∧ e < v2 ∧ (v6 = -1 ∨ v6 = e)) (fun _ : Unit => True))) := fun v8 hv => by
    unfold kfl_sp_earliest_206 kfl_sp_earliest_235
    exact RP_ite (fun _ => p236 _ _ hv) (fun _ => RP_ite (fun _ => p236 _ _ hv) (fun _ => p236 _ _ hv))
  unfold kfl_sp_earliest_201
  exact RP_ite (fun e => p206 _ (fun _ => Or.inl e)) (fun _ => RP_ite (fun e => p206 _ (fun _ => Or.inr e)) (fun _ => p206 _ (fun q => absurd rfl q)))
theorem early_u {v2 v3 v4 : Int} (j0 : 0 ≤ j) (j1 : j < 48) (n : v2 ≤ 12) (hh : ∀ s, 0 ≤ s → s < j → 0 ≤ K.2 59 s ∧ K.2 59 s < 12) : RP (kf_sp_earliest j v2 v3 v4 K) (fun y => y ≠ -1 → (0 ≤ y ∧ y < v2) ∧ ∀ s, 0 ≤ s → s < j → LYh s j y K) := by
  unfold kf_sp_earliest
  refine RP_bnd (P := sel (fun _ : Unit => True) (fun e : Int × Int => (0 ≤ e.1 ∧ e.1 ≤ 13) ∧ ∀ s, 0 ≤ s → s < j → LYb s j e.1 e.2 K)) (RP_whl (I := fun q : Int × Int × Int => (0 ≤ q.2.2 ∧ q.2.2 ≤ j) ∧ (0 ≤ q.1 ∧ q.1 ≤ 13) ∧ ∀ s, 0 ≤ s → s < q.2.2 → LYb s j q.1 q.2.1 K) (fun q hq => ?_) ⟨⟨Int.le_refl _, j0⟩, ⟨Int.le_refl _, show (0 : Int) ≤ 13 by decide⟩, fun s s0 s1 => by have s1 : s < 0 := s1; omega⟩) (RP_sl (fun _ _ => RP_some (fun q => absurd rfl q)) (fun e he => ?_))
  · obtain ⟨h, b, i⟩ := q
    obtain ⟨⟨i0, i1⟩, ⟨h0, h1⟩, hb⟩ := hq
    have i0 : 0 ≤ i := i0
    have i1 : i ≤ j := i1
    have h0 : 0 ≤ h := h0
    have h1 : h ≤ 13 := h1
    have hb : ∀ s, 0 ≤ s → s < i → LYb s j h b K := hb
    unfold kfb_sp_earliest_9
    refine RP_ite (fun g => RP_some ⟨⟨h0, h1⟩, fun s s0 s1 => hb s s0 (by have g : j ≤ i := g; omega)⟩) (fun g => ?_)
    have g : ¬ j ≤ i := g
    obtain ⟨k0, k1⟩ := hh i i0 (by omega)
   
    have fin : ∀ u : Int, 0 ≤ u → u ≤ 13 → ((MT (K.2 61) (K.2 60) i j ∨ MT (K.2 61) (K.2 61) i j ∨ K.2 53 j = i) → K.2 59 i + 1 ≤ u) → (MT (K.2 60) (K.2 61) i j → K.2 59 i ≤ u) → RP (kfl_sp_earliest_115 j v2 v3 v4 h b i u K) (sel (fun q : Int × Int × Int => (0 ≤ q.2.2 ∧ q.2.2 ≤ j) ∧ (0 ≤ q.1 ∧ q.1 ≤ 13) ∧ ∀ s, 0 ≤ s → s < q.2.2 → LYb s j q.1 q.2.1 K) (sel (fun _ : Unit => True) (fun e : Int × Int => (0 ≤ e.1 ∧ e.1 ≤ 13) ∧ ∀ s, 0 ≤ s → s < j → LYb s j e.1 e.2 K))) := fun u u0 u1 c1 c2 => by
      unfold kfl_sp_earliest_115 kfl_sp_earliest_163 kfl_sp_earliest_172
      rw [max_k, bnd_some, cut_i (z := i + 1) (by omega) (by omega)]
      obtain ⟨w, ew, w0, w1, w2, w3⟩ : ∃ w, w = (if h < u then u else h) ∧ h ≤ w ∧ u ≤ w ∧ 0 ≤ w ∧ w ≤ 13 := by
        by_cases q : h < u
        · exact ⟨_, rfl, by rw [if_pos q]; omega, by rw [if_pos q]; omega, by rw [if_pos q]; omega, by rw [if_pos q]; omega⟩
        · exact ⟨_, rfl, by rw [if_neg q]; omega, by rw [if_neg q]; omega, by rw [if_neg q]; omega, by rw [if_neg q]; omega⟩
      rw [← ew]
      have step : ∀ b' : Int, (b ≠ -1 → b' = b) → (and32 (K.2 62 i) (K.2 62 j) ≠ 0 → b' = K.2 59 i) → ((0 ≤ i + 1 ∧ i + 1 ≤ j) ∧ (0 ≤ w ∧ w ≤ 13) ∧ ∀ s, 0 ≤ s → s < i + 1 → LYb s j w b' K) := fun b' e1 e2 => ⟨by omega, ⟨w2, w3⟩, fun s s0 s1 => by
        by_cases es : s = i
        · rw [es]
          exact ⟨fun q => by have := c1 q; omega, fun q => by have := c2 q; omega, e2⟩
        · exact LYb_m (hb s s0 (by omega)) w0 e1 (hh s s0 (by omega)).1⟩
      refine RP_ite (fun e => RP_some (step b (fun _ => rfl) (fun q => absurd e q))) (fun e => RP_ite (fun e2 => RP_some (step (K.2 59 i) (fun q => absurd e2 q) (fun _ => rfl))) (fun e2 => RP_ite (fun e3 => RP_some (step (K.2 59 i) (fun _ => e3.symm) (fun _ => rfl))) (fun _ => RP_some trivial)))
    have p62 : RP (kfl_sp_earliest_62 j v2 v3 v4 h b i K) (sel (fun q : Int × Int × Int => (0 ≤ q.2.2 ∧ q.2.2 ≤ j) ∧ (0 ≤ q.1 ∧ q.1 ≤ 13) ∧ ∀ s, 0 ≤ s → s < q.2.2 → LYb s j q.1 q.2.1 K) (sel (fun _ : Unit => True) (fun e : Int × Int => (0 ≤ e.1 ∧ e.1 ≤ 13) ∧ ∀ s, 0 ≤ s → s < j → LYb s j e.1 e.2 K))) := by
      unfold kfl_sp_earliest_62 kfl_sp_earliest_67
      rw [if_neg (by decide), cut_i (z := K.2 59 i + 1) (by omega) (by omega)]
      exact fin _ (by omega) (by omega) (fun _ => Int.le_refl _) (fun _ => by omega)
    show RP (bnd (kf_sp_meet_b61_b60 i j K) fun y32 => if y32 = 0 then bnd (kf_sp_meet_b61_b61 i j K) fun y36 => if y36 = 0 then if K.2 53 j = i then kfl_sp_earliest_62 j v2 v3 v4 h b i K else kfl_sp_earliest_67 j v2 v3 v4 h b i 0 K else kfl_sp_earliest_62 j v2 v3 v4 h b i K else kfl_sp_earliest_62 j v2 v3 v4 h b i K) _
    refine RP_bnd (meet_10 i0 (by omega) j0 j1) (fun y hy => RP_ite (fun e1 => RP_bnd (meet_11 i0 (by omega) j0 j1) (fun z hz => RP_ite (fun e2 => RP_ite (fun _ => p62) (fun e3 => ?_)) (fun _ => p62))) (fun _ => p62))
    have n1 : ¬ MT (K.2 61) (K.2 60) i j := by
      rcases hy with ⟨q, -⟩ | ⟨-, q⟩
      · omega
      · exact q
    have n2 : ¬ MT (K.2 61) (K.2 61) i j := by
      rcases hz with ⟨q, -⟩ | ⟨-, q⟩
      · omega
      · exact q
    have no : ¬ (MT (K.2 61) (K.2 60) i j ∨ MT (K.2 61) (K.2 61) i j ∨ K.2 53 j = i) := fun q => by
      rcases q with q | q | q
      · exact n1 q
      · exact n2 q
      · exact e3 q
    unfold kfl_sp_earliest_67
    rw [if_pos rfl]
    refine RP_bnd (meet_01 i0 (by omega) j0 j1) (fun w hw => RP_ite (fun e4 => fin 0 (Int.le_refl _) (by decide) (fun q => absurd q no) (fun q => ?_)) (fun _ => fin _ k0 (by omega) (fun q => absurd q no) (fun _ => Int.le_refl _)))
    rcases hw with ⟨z, -⟩ | ⟨-, z⟩
    · omega
    · exact absurd q z
  · obtain ⟨⟨e0, e1⟩, hb⟩ := he
    refine RP_w (st_u (K := K) n e0 (by omega)) (fun y hy q => ?_)
    obtain ⟨y1, y2, y3⟩ := hy q
    refine ⟨⟨by omega, y2⟩, fun s s0 s1 => ?_⟩
    obtain ⟨g1, g2, g3⟩ := hb s s0 s1
    have k0 := (hh s s0 s1).1
    refine ⟨fun q => by have := g1 q; omega, fun q => by have := g2 q; omega, fun q => ?_⟩
    have := g3 q
    rcases y3 with y3 | y3
    · omega
    · omega
end SMJ

section SMK
variable {K K1 q : mR} {s s' i : Int}

theorem fpd {d x : Int} (h : SLD K d) (q : RDD K d 0 x ∨ WRD K d 0 x) : 0 ≤ x ∧ x < 256 := by
  obtain ⟨s1, s2, s47, s46, s45, s61⟩ := h
  rcases q with q | q
  · rcases q with ⟨-, hr, i, i0, i1, e1, e2⟩ | ⟨-, hr, i, i0, i1, e1, e2⟩ | ⟨-, e1, e2, e3⟩ | ⟨e, -⟩
    · have := (s1 hr).2 i i0 i1 e1
      omega
    · have := (s2 hr).2 i i0 i1 e1
      omega
    · have := s61 e1
      omega
    · exact absurd e (by decide)
  · rcases q with ⟨-, q1, q2⟩ | ⟨q, -⟩
    · rcases q2 with q2 | ⟨z, q2, q3⟩
      · omega
      · have := s45 z
        omega
    · exact absurd q (by decide)
theorem fps {x : Int} (h : SLs K s) (q : RDs K s 0 x ∨ WRs K s 0 x) : 0 ≤ x ∧ x < 256 := by
  have act : ∀ a, K.2 52 s = 2 → ACTS K s a → SLA K a := fun a k qa => by
    rcases h with ⟨k', -⟩ | ⟨k', -⟩ | ⟨-, h⟩
    · omega
    · omega
    · rcases qa with qa | ⟨i, i0, i1, qa⟩
      · rw [qa]; exact h.2.2.2.1
      · rw [← qa]; exact h.2.2.2.2 i i0 i1
  rcases q with q | q
  · rcases q with ⟨k, q⟩ | ⟨k, q⟩ | ⟨k, q⟩ | ⟨q, -⟩
    · rcases h with ⟨-, h⟩ | ⟨k', -⟩ | ⟨k', -⟩
      · obtain ⟨-, hr, i, i0, i1, e1, e2⟩ := q
        have := (h hr).2 i i0 i1 e1
        omega
      · omega
      · omega
    · rcases h with ⟨k', -⟩ | ⟨-, h⟩ | ⟨k', -⟩
      · omega
      · exact fpd h (Or.inl q)
      · omega
    · rcases q with ⟨i, i0, i1, q⟩ | ⟨a, qa, i, i0, i1, q⟩
      · rcases h with ⟨k', -⟩ | ⟨k', -⟩ | ⟨-, h⟩
        · omega
        · omega
        · obtain ⟨-, hr, j, j0, j1, e1, e2⟩ := q
          have := (h.2.2.1 i i0 i1 hr).2 j j0 j1 e1
          omega
      · exact fpd ((act a k qa).2.2 i i0 i1) (Or.inl q)
    · exact absurd q (by decide)
  · rcases q with ⟨k, q⟩ | ⟨k, a, qa, i, i0, i1, q⟩ | ⟨q, -⟩
    · rcases h with ⟨k', -⟩ | ⟨-, h⟩ | ⟨k', -⟩
      · omega
      · exact fpd h (Or.inr q)
      · omega
    · exact fpd ((act a k qa).2.2 i i0 i1) (Or.inr q)
    · exact absurd q (by decide)

def GM (s : Int) (K q : mR) : Prop := (∀ x, RDs K s 0 x → xb (q.2 60) s x) ∧ (∀ x, WRs K s 0 x → xb (q.2 61) s x) ∧ ∀ j, RDs K s 1 j ∨ WRs K s 1 j → (0 ≤ j / 64 ∧ j / 64 ≤ 7) ∧ btt_nx (q.2 62 s) (j / 64)

def LY2 (s s' : Int) (K : mR) (H : Int → Int) : Prop := (∀ x, WRs K s 0 x → RDs K s' 0 x ∨ WRs K s' 0 x → H s + 1 ≤ H s') ∧ (∀ x, RDs K s 0 x → WRs K s' 0 x → H s ≤ H s') ∧ (K.2 53 s' = s → H s + 1 ≤ H s') ∧ ∀ j, (RDs K s 1 j ∨ WRs K s 1 j) → (RDs K s' 1 j ∨ WRs K s' 1 j) → H s = H s'
theorem LY2_of {h : Int} (a : SLs K s) (b : SLs K s') (g : GM s K q) (g' : GM s' K q) (l : LYh s s' h q) (e53 : q.2 53 = K.2 53) : (∀ x, WRs K s 0 x → RDs K s' 0 x ∨ WRs K s' 0 x → q.2 59 s + 1 ≤ h) ∧ (∀ x, RDs K s 0 x → WRs K s' 0 x → q.2 59 s ≤ h) ∧ (K.2 53 s' = s → q.2 59 s + 1 ≤ h) ∧ ∀ j, (RDs K s 1 j ∨ WRs K s 1 j) → (RDs K s' 1 j ∨ WRs K s' 1 j) → h = q.2 59 s := by
  obtain ⟨l1, l2, l3⟩ := l
  refine ⟨fun x w r => l1 ?_, fun x w r => l2 ?_, fun e => l1 (Or.inr (Or.inr (by rw [e53]; exact e))), fun j w r => l3 (fun z => ?_)⟩
  · obtain ⟨x0, x1⟩ := fps a (Or.inr w)
    rcases r with r | r
    · exact Or.inl ⟨x, x0, x1, g.2.1 x w, g'.1 x r⟩
    · exact Or.inr (Or.inl ⟨x, x0, x1, g.2.1 x w, g'.2.1 x r⟩)
  · obtain ⟨x0, x1⟩ := fps a (Or.inl w)
    exact ⟨x, x0, x1, g.1 x w, g'.2.1 x r⟩
  · obtain ⟨⟨j0, j1⟩, b1⟩ := g.2.2 j w
    obtain ⟨-, b2⟩ := g'.2.2 j r
    exact (and32_0.mp z) (j / 64) j0 (by omega) ⟨b1, b2⟩
def stF : List Nat := [16, 18, 19, 43, 44, 45, 46, 47, 48, 49, 50, 51, 52, 53, 54, 55, 56, 57, 58, 72, 73, 74, 79, 80, 83]
theorem RDs_f {F A : List Nat} {k : Nat} {x : Int} (f : fr F A K K1) (c : chk stF A = true) : RDs K1 s k x ↔ RDs K s k x := by
  unfold RDs RDD RDE ACTS
  rw [fr2 f 18 (chk_1 c (by decide)), fr2 f 19 (chk_1 c (by decide)), fr2 f 43 (chk_1 c (by decide)), fr2 f 44 (chk_1 c (by decide)), fr2 f 45 (chk_1 c (by decide)), fr2 f 46 (chk_1 c (by decide)), fr2 f 47 (chk_1 c (by decide)), fr2 f 48 (chk_1 c (by decide)), fr2 f 49 (chk_1 c (by decide)), fr2 f 50 (chk_1 c (by decide)), fr2 f 51 (chk_1 c (by decide)), fr2 f 52 (chk_1 c (by decide)), fr2 f 53 (chk_1 c (by decide)), fr2 f 55 (chk_1 c (by decide)), fr2 f 56 (chk_1 c (by decide)), fr2 f 57 (chk_1 c (by decide)), fr2 f 58 (chk_1 c (by decide)), fr2 f 72 (chk_1 c (by decide)), fr2 f 73 (chk_1 c (by decide)), fr2 f 74 (chk_1 c (by decide)), fr2 f 79 (chk_1 c (by decide)), fr2 f 80 (chk_1 c (by decide)), fr2 f 83 (chk_1 c (by decide))]
theorem WRs_f {F A : List Nat} {k : Nat} {x : Int} (f : fr F A K K1) (c : chk stF A = true) : WRs K1 s k x ↔ WRs K s k x := by
  unfold WRs WRD ACTS
  rw [fr2 f 43 (chk_1 c (by decide)), fr2 f 44 (chk_1 c (by decide)), fr2 f 45 (chk_1 c (by decide)), fr2 f 46 (chk_1 c (by decide)), fr2 f 47 (chk_1 c (by decide)), fr2 f 52 (chk_1 c (by decide)), fr2 f 55 (chk_1 c (by decide)), fr2 f 56 (chk_1 c (by decide)), fr2 f 73 (chk_1 c (by decide)), fr2 f 74 (chk_1 c (by decide)), fr2 f 83 (chk_1 c (by decide))]

theorem astep_l {lk : Int → (Int → Int) → Int × (Int → Int)} (h : SWF K lk s) (h' : SWF K lk s') (lt : s < s') (p : K.2 53 s < s) (l : LY2 s s' K (K.2 59)) (e : K.2 59 s' < K.2 59 s) (x : XSt) : astep K lk s (astep K lk s' x) = astep K lk s' (astep K lk s x) := by
  obtain ⟨l1, l2, l3, l4⟩ := l
  refine astep_s h h' (by omega) (by omega) (fun q => by have := l3 q; omega) (fun k j k2 w => ?_) (fun k j k2 w r => ?_) x
  · have kk : k = 0 ∨ k = 1 := by omega
    rcases kk with rfl | rfl
    · exact ⟨fun r => by have := l1 j w (Or.inl r); omega, fun r => by have := l1 j w (Or.inr r); omega⟩
    · exact ⟨fun r => by have := l4 j (Or.inr w) (Or.inl r); omega, fun r => by have := l4 j (Or.inr w) (Or.inr r); omega⟩
  · have kk : k = 0 ∨ k = 1 := by omega
    rcases kk with rfl | rfl
    · have := l2 j r w
      omega
    · have := l4 j (Or.inl r) (Or.inr w)
      omega
end SMK

section SML
variable {K : mR}
def syA : List Nat := [59, 60, 61, 62, 63, 64, 65]
def SYI (K : mR) (q : Int × Int × mR) : Prop := (0 ≤ q.2.1 ∧ q.2.1 ≤ K.1 225) ∧ fr [] syA K q.2.2 ∧ (∀ s, 0 ≤ s → s < q.2.1 → GM s K q.2.2 ∧ 0 ≤ q.2.2.2 59 s ∧ q.2.2.2 59 s < 12) ∧ ∀ s s', 0 ≤ s → s < s' → s' < q.2.1 → LY2 s s' K (q.2.2.2 59)
theorem xb_row {k k' : Int → Int} {s x : Int} (x0 : 0 ≤ x) (x1 : x < 256) (h : ∀ r, 4 * s ≤ r → r < 4 * s + 4 → k' r = k r) : xb k s x → xb k' s x := fun q => (xb_r x0 x1 h).mpr q
theorem settle_u {v2 v3 v4 : Int} (k0 : 0 ≤ K.1 225) (k48 : K.1 225 ≤ 48) (n : v2 ≤ 12) (hS : ∀ s, 0 ≤ s → s < K.1 225 → SLs K s ∧ (K.2 52 s = 2 → 0 ≤ K.2 55 s)) : RP (kf_sp_settle v2 v3 v4 K) (fun y => y.1 = -1 → fr [226] syA K y.2 ∧ (∀ s, 0 ≤ s → s < K.1 225 → 0 ≤ y.2.2 59 s ∧ y.2.2 59 s < 12) ∧ ∀ s s', 0 ≤ s → s < s' → s' < K.1 225 → LY2 s s' K (y.2.2 59)) := by
  unfold kf_sp_settle
  refine RP_bnd (u_kf_Arrays_fill0_b63 0 K) (fun a ha => RP_bnd (u_kf_Arrays_fill0_b64 0 a.2) (fun b hb => RP_bnd (u_kf_Arrays_fill0_b65 0 b.2) (fun c hc => ?_)))
  have fc : fr [] syA K c.2 := fr_s hc (fr_s hb (fr_s ha fr_0 (by decide +kernel) (by decide +kernel)) (by decide +kernel) (by decide +kernel)) (by decide +kernel) (by decide +kernel)
  refine RP_bnd (P := sel (fun e : Int × mR => e.1 ≠ -1) (fun e : Int × mR => ∃ h, SYI K (h, K.1 225, e.2))) (RP_whl (I := SYI K) (fun q hq => ?_) ⟨⟨Int.le_refl _, k0⟩, fc, fun s s0 s1 => by have s1 : s < 0 := s1; omega, fun s s' s0 s1 s2 => by have s2 : s' < 0 := s2; omega⟩) (RP_sl (fun e he => RP_some (fun q => absurd q he)) (fun e he => ?_))
  · obtain ⟨st, i, q⟩ := q
    obtain ⟨⟨i0, i1⟩, fq, hg, hl⟩ := id hq
    have i0 : 0 ≤ i := i0
    have i1 : i ≤ K.1 225 := i1
    have fq : fr [] syA K q := fq
    have hg : ∀ s, 0 ≤ s → s < i → GM s K q ∧ 0 ≤ q.2 59 s ∧ q.2 59 s < 12 := hg
    have hl : ∀ s s', 0 ≤ s → s < s' → s' < i → LY2 s s' K (q.2 59) := hl
    unfold kfb_sp_settle_30
    show RP (if q.1 225 ≤ i then some (Sum.inr (Sum.inr (st, q))) else bnd (kf_sp_gather i q) fun y25 => if y25.2.2 55 i = -1 then kfl_sp_settle_73 v2 v3 v4 st i (-1) y25.2 else kfl_sp_settle_73 v2 v3 v4 st i (y25.2.2 55 i) y25.2) _
    rw [fr1 fq 225 rfl]
    refine RP_ite (fun g => RP_some ⟨st, ?_⟩) (fun g => ?_)
    · rw [show K.1 225 = i by omega]
      exact hq
    obtain ⟨hs1, hs2⟩ := hS i i0 (by omega)
    unfold kf_sp_gather
    rw [bnd_a_nx]
    refine RP_bnd (rowclear_k i0 (by omega)) (fun e he => ?_)
    obtain ⟨e1, -, e3⟩ := he
    have fe : fr [] syA K e := fr_s e1 fq (by decide +kernel) (by decide +kernel)
    have hse : SLs e i := by
      unfold SLs SLt SLA SLD SLX at hs1 ⊢
      rw [fr2 fe 18 rfl, fr2 fe 19 rfl, fr2 fe 43 rfl, fr2 fe 44 rfl, fr2 fe 45 rfl, fr2 fe 46 rfl, fr2 fe 47 rfl, fr2 fe 48 rfl, fr2 fe 49 rfl, fr2 fe 50 rfl, fr2 fe 51 rfl, fr2 fe 52 rfl, fr2 fe 55 rfl, fr2 fe 56 rfl, fr2 fe 57 rfl, fr2 fe 58 rfl, fr2 fe 72 rfl, fr2 fe 73 rfl, fr2 fe 74 rfl, fr2 fe 79 rfl, fr2 fe 80 rfl, fr2 fe 83 rfl]
      exact hs1
    refine RP_bnd (gstep_u (K := e) i0 (by omega) (by rw [fr2 fe 52 rfl, fr2 fe 55 rfl]; exact hs2) hse) (fun y hy => ?_)
    obtain ⟨m1, g1, g2, g3⟩ := hy
    have fL : fr [] syA K (mO e [] [(62, upI (e.2 62) i 0)]) := fr_m fe rfl rfl
    have fy : fr [] syA K y.2 := fr_s m1.1 fL (by decide +kernel) (by decide +kernel)
    have gi : GM i K y.2 := ⟨fun x w => g1 x ((RDs_f fL (by decide +kernel)).mpr w), fun x w => g2 x ((WRs_f fL (by decide +kernel)).mpr w), fun j w => g3 j (by
      rcases w with w | w
      · exact Or.inl ((RDs_f fL (by decide +kernel)).mpr w)
      · exact Or.inr ((WRs_f fL (by decide +kernel)).mpr w))⟩
    have y59 : y.2.2 59 = q.2 59 := by
      rw [fr2 m1.1 59 rfl]
      show e.2 59 = _
      rw [fr2 e1 59 rfl]
    have go : ∀ s, 0 ≤ s → s < i → GM s K y.2 := fun s s0 s1 => by
      obtain ⟨⟨o1, o2, o3⟩, -⟩ := hg s s0 s1
      have r60 : ∀ r, 4 * s ≤ r → r < 4 * s + 4 → y.2.2 60 r = q.2 60 r := fun r a0 a1 => by
        rw [(m1.2.2.2.2.1 r (by omega)).1]
        show e.2 60 r = _
        exact (e3 r (by omega)).1
      have r61 : ∀ r, 4 * s ≤ r → r < 4 * s + 4 → y.2.2 61 r = q.2 61 r := fun r a0 a1 => by
        rw [(m1.2.2.2.2.1 r (by omega)).2]
        show e.2 61 r = _
        exact (e3 r (by omega)).2
      have r62 : y.2.2 62 s = q.2 62 s := by
        rw [m1.2.2.2.2.2 s (by omega)]
        show upI (e.2 62) i 0 s = _
        rw [upI_n (by omega), fr2 e1 62 rfl]
      have sl := (hS s s0 (by omega)).1
      exact ⟨fun x w => xb_row (fps sl (Or.inl w)).1 (fps sl (Or.inl w)).2 r60 (o1 x w), fun x w => xb_row (fps sl (Or.inr w)).1 (fps sl (Or.inr w)).2 r61 (o2 x w), fun j w => by rw [r62]; exact o3 j w⟩
    have p109 : ∀ v8 u0 : Int, RP (kfl_sp_settle_109 v2 v3 v4 st i v8 u0 y.2) (sel (SYI K) (sel (fun e : Int × mR => e.1 ≠ -1) (fun e : Int × mR => ∃ h, SYI K (h, K.1 225, e.2)))) := fun v8 u0 => by
      unfold kfl_sp_settle_109
      refine RP_bnd (early_u (K := y.2) i0 (by omega) n (fun s s0 s1 => by rw [y59]; exact (hg s s0 s1).2)) (fun h hh => RP_ite (fun e => RP_some (show i ≠ -1 by omega)) (fun e => RP_bndT (fun z => ?_)))
      obtain ⟨⟨h0, h1⟩, hl2⟩ := hh e
      rw [cut_i (z := i + 1) (by omega) (by omega)]
      refine RP_some ⟨⟨show 0 ≤ i + 1 by omega, show i + 1 ≤ K.1 225 by omega⟩, fr_m fy rfl rfl, fun s s0 s1 => ?_, fun s s' s0 s1 s2 => ?_⟩
      · have s1 : s < i + 1 := s1
        refine ⟨?_, ?_⟩
        · by_cases es : s = i
          · rw [es]; exact gi
          · exact go s s0 (by omega)
        · show 0 ≤ upI (y.2.2 59) i h s ∧ upI (y.2.2 59) i h s < 12
          by_cases es : s = i
          · rw [es, upI_s]; omega
          · rw [upI_n es, y59]
            exact (hg s s0 (by omega)).2
      · have s2 : s' < i + 1 := s2
        show LY2 s s' K (upI (y.2.2 59) i h)
        by_cases es : s' = i
        · rw [es]
          obtain ⟨l1, l2, l3, l4⟩ := LY2_of (hS s s0 (by omega)).1 hs1 (go s s0 (by omega)) gi (hl2 s s0 (by omega)) (fr2 fy 53 rfl)
          unfold LY2
          rw [upI_s, upI_n (show s ≠ i by omega)]
          exact ⟨l1, l2, l3, fun j w r => (l4 j w r).symm⟩
        · have l := hl s s' s0 s1 (by omega)
          unfold LY2 at l ⊢
          rw [upI_n es, upI_n (show s ≠ i by omega), y59]
          exact l
    have p73 : ∀ u0 : Int, RP (kfl_sp_settle_73 v2 v3 v4 st i u0 y.2) (sel (SYI K) (sel (fun e : Int × mR => e.1 ≠ -1) (fun e : Int × mR => ∃ h, SYI K (h, K.1 225, e.2)))) := fun u0 => by
      unfold kfl_sp_settle_73 kfl_sp_settle_93
      exact RP_ite (fun _ => RP_ite (fun _ => p109 _ _) (fun _ => RP_bndT (fun _ => p109 _ _))) (fun _ => RP_bndT (fun _ => RP_ite (fun _ => p109 _ _) (fun _ => RP_bndT (fun _ => p109 _ _))))
    exact RP_ite (fun _ => p73 _) (fun _ => p73 _)
  · obtain ⟨h, ⟨-, f, hg, hl⟩⟩ := he
    unfold kfl_sp_settle_199
    refine RP_some (fun _ => ⟨fr_m (fr_s f fr_0 (by decide +kernel) (by decide +kernel)) rfl rfl, fun s s0 s1 => (hg s s0 s1).2, hl⟩)
end SML
