/-! ===== the reference touches one row at a time ===== -/
section TRW
variable {K M K0 M0 M1 M2 : mR} {s : Int}
def MRo (s : Int) (M M' : mR) : Prop := (∀ r, (r < 221 * s ∨ 221 * s + 221 ≤ r) → M'.2 135 r = M.2 135 r ∧ M'.2 136 r = M.2 136 r) ∧ ∀ r, (r < 8 * s ∨ 8 * s + 8 ≤ r) → M'.2 137 r = M.2 137 r
theorem MRo_0 : MRo s M M := ⟨fun _ _ => ⟨rfl, rfl⟩, fun _ _ => rfl⟩
theorem MRo_t (h : MRo s M M1) (h2 : MRo s M1 M2) : MRo s M M2 := ⟨fun r hr => ⟨(h2.1 r hr).1.trans (h.1 r hr).1, (h2.1 r hr).2.trans (h.1 r hr).2⟩, fun r hr => (h2.2 r hr).trans (h.2 r hr)⟩
def TF (s : Int) (M0 M : mR) : Prop := fr [] [135, 136, 137] M0 M ∧ MRo s M0 M
theorem code_o (s0 : 0 ≤ s) (s1 : s < 48) (hN : NDR K0 M0) (h20 : M0.1 20 ≤ 12) (h : TF s M0 M) {a b : Int} (a0 : 0 ≤ a) (hb : b ≤ M0.1 28) : RP (rf_readsCode s a b M) (fun z => TF s M0 z.2) := by
  have b8 : M0.1 28 ≤ 800 := hN.1.2.2
  unfold rf_readsCode
  refine RP_bnd (P := fun e => TF s M0 e) (RP_whl (I := fun q : Int × mR => 0 ≤ q.1 ∧ TF s M0 q.2) (fun q hq => ?_) ⟨a0, h⟩) (fun e he => RP_some he)
  obtain ⟨i, M1⟩ := q
  obtain ⟨i0, f2, hT⟩ := hq
  have i0 : 0 ≤ i := i0
  have f2 : fr [] [135, 136, 137] M0 M1 := f2
  have hT : MRo s M0 M1 := hT
  unfold rfb_readsCode_3
  dsimp only
  refine RP_ite (fun g => RP_some ⟨f2, hT⟩) (fun g => ?_)
  have hD := hN.2 i i0 (by omega)
  rw [← fr2 f2 65 rfl, ← fr2 f2 67 rfl] at hD
  unfold rfl_readsCode_129
  rw [cut_i (show -2147483648 ≤ i + 1 by omega) (by omega), n1_1]
  have i1 : (0 : Int) ≤ i + 1 := by omega
  rcases hD with ⟨h1, h2, h3, h4, h5, h6⟩ | ⟨h1, h2, h3, h4, h5⟩ | ⟨h1, h2, h3, h4, h5⟩ | ⟨h1, h2, h3, h4⟩
  · rw [if_pos h1, ix221 s0 s1 h3 (by omega), Int.tdiv_eq_ediv_of_nonneg h3, ix221b s0 s1 (by omega) (by omega) (by omega) (by omega)]
    refine RP_some ⟨i1, fr_m f2 rfl rfl, MRo_t hT ⟨fun r hr => ⟨?_, rfl⟩, fun r hr => rfl⟩⟩
    show upI (upI (M1.2 135) (221 * s + M1.2 67 i) 1) (221 * s + (192 + M1.2 67 i / 16)) 1 r = _
    rw [upI_n (by omega), upI_n (by omega)]
  · rw [if_neg (by omega), if_pos h1, ix221b s0 s1 (by omega) (by omega) (by omega) (by omega)]
    refine RP_some ⟨i1, fr_m f2 rfl rfl, MRo_t hT ⟨fun r hr => ⟨?_, rfl⟩, fun r hr => rfl⟩⟩
    show upI (M1.2 135) (221 * s + (192 + M1.2 67 i)) 1 r = _
    rw [upI_n (by omega)]
  · rw [if_neg (by omega), if_neg (by omega), if_pos h1, ix221b s0 s1 (by omega) (by omega) (by omega) (by omega)]
    refine RP_some ⟨i1, fr_m f2 rfl rfl, MRo_t hT ⟨fun r hr => ⟨?_, rfl⟩, fun r hr => rfl⟩⟩
    show upI (M1.2 135) (221 * s + (204 + M1.2 67 i)) 1 r = _
    rw [upI_n (by omega)]
  · rw [if_neg h1, if_neg h3, if_neg h2]
    exact RP_some ⟨i1, f2, hT⟩
theorem place_o (s0 : 0 ≤ s) (s1 : s < 48) (h20 : M0.1 20 ≤ 12) (h : TF s M0 M) {a b : Int} (hp : PLS (M0.1 20) (M0.1 21) (M0.2 29) (M0.2 34) a b) : RP (rf_writesPlace s b M) (fun z => TF s M0 z.2) := by
  obtain ⟨f2, hT⟩ := h
  unfold rf_writesPlace
  rcases hp with ⟨h1, h2, h3, h4⟩ | ⟨h1, h2, h3, h4⟩
  · rw [if_neg (by omega), ix221b s0 s1 (by omega) (by omega) (by omega) (by omega)]
    refine RP_some ⟨fr_m f2 rfl rfl, MRo_t hT ⟨fun r hr => ⟨rfl, ?_⟩, fun r hr => rfl⟩⟩
    show upI (M.2 136) (221 * s + (204 + b)) _ r = _
    rw [upI_n (by omega)]
  · rw [if_pos h1, show cut (b - 16) = b - 16 from cut_i (by omega) (by omega), Int.tdiv_eq_ediv_of_nonneg (show 0 ≤ b - 16 by omega), ix221b s0 s1 (by omega) (by omega) (by omega) (by omega), ix221 s0 s1 (by omega) (by omega), show cut (221 * s + b - 16) = 221 * s + (b - 16) by rw [cut_i (by omega) (by omega)]; omega]
    refine RP_some ⟨fr_m f2 rfl rfl, MRo_t hT ⟨fun r hr => ⟨?_, ?_⟩, fun r hr => rfl⟩⟩
    · show upI (M.2 135) (221 * s + (192 + (b - 16) / 16)) _ r = _
      rw [upI_n (by omega)]
    · show upI (M.2 136) (221 * s + (b - 16)) _ r = _
      rw [upI_n (by omega)]
theorem deed_o (s0 : 0 ≤ s) (s1 : s < 48) (hP : GP K0 M0) (h : TF s M0 M) {k : Int} (k0 : 0 ≤ k) (k1 : k < M0.1 99) : RP (rf_touches s k M) (fun z => TF s M0 z.2) := by
  obtain ⟨hN, h20, h22, -, hD, hR, -, -, -, hF⟩ := hP
  have hk := hD.2 k k0 k1
  obtain ⟨rg1, rg2⟩ := hR k k0 k1
  have c221 : cut (221 * s) = 221 * s := cut_i (by omega) (by omega)
  have t159 : ∀ m, TF s M0 m → RP (rfl_touches_159 k (221 * s) m) (fun z => TF s M0 z.2) := by
    intro m hm
    unfold rfl_touches_159
    have go : (M0.2 101 k = 324 ∨ M0.2 101 k = 325) → RP (rfl_touches_184 k (221 * s) m) (fun z => TF s M0 z.2) := by
      intro ht
      have hi : 0 ≤ M0.2 104 k ∧ M0.2 104 k < M0.1 20 := by
        rcases hk with ⟨t1, -⟩ | ⟨t1, -⟩ | ⟨t1, -⟩ | ⟨t1, t2, ⟨t3, t4, -⟩, -⟩ | ⟨t1, -⟩
        · omega
        · omega
        · omega
        · exact ⟨t3, t4⟩
        · omega
      have nF := hF (M0.2 34 (M0.2 104 k))
      unfold rfl_touches_184
      rw [fr2 hm.1 104 rfl, show cut (cut (221 * s + 192) + M0.2 104 k) = 221 * s + 192 + M0.2 104 k by rw [cut_i (show -2147483648 ≤ 221 * s + 192 by omega) (by omega), cut_i (by omega) (by omega)], n1_1]
      refine RP_bnd (gadd_r (M := mO m [] [(136, upI (m.2 136) (221 * s + 192 + M0.2 104 k) 1)]) s0 s1 hi.1 (by omega) (by show 0 ≤ m.2 29 (m.2 34 (M0.2 104 k)); rw [fr2 hm.1 29 rfl, fr2 hm.1 34 rfl]; omega) (by show m.2 29 (m.2 34 (M0.2 104 k)) ≤ 16; rw [fr2 hm.1 29 rfl, fr2 hm.1 34 rfl]; omega)) (fun g hg => RP_some ?_)
      obtain ⟨g1, g2⟩ := hg
      refine ⟨fr_s g1 (fr_m hm.1 rfl rfl) rfl rfl, MRo_t hm.2 ⟨fun r hr => ⟨?_, ?_⟩, fun r hr => ?_⟩⟩
      · rw [fr2 g1 135 rfl]
        rfl
      · rw [g2 r]
        show (if 221 * s + 16 * M0.2 104 k ≤ r ∧ r < 221 * s + 16 * M0.2 104 k + m.2 29 (m.2 34 (M0.2 104 k)) then 1 else upI (m.2 136) (221 * s + 192 + M0.2 104 k) 1 r) = _
        rw [fr2 hm.1 29 rfl, fr2 hm.1 34 rfl, if_neg (by omega), upI_n (by omega)]
      · rw [fr2 g1 137 rfl]
        rfl
    rw [fr2 hm.1 101 rfl]
    exact RP_ite (fun g => go (Or.inl g)) (fun _ => RP_ite (fun g => go (Or.inr g)) (fun _ => RP_some hm))
  have t136 : ∀ m, TF s M0 m → RP (rfl_touches_136 k (221 * s) m) (fun z => TF s M0 z.2) := by
    intro m hm
    unfold rfl_touches_136
    refine RP_ite (fun g => t159 _ ⟨fr_m hm.1 rfl rfl, MRo_t hm.2 ⟨fun r hr => ⟨rfl, ?_⟩, fun r hr => rfl⟩⟩) (fun _ => t159 m hm)
    show upI (m.2 136) (cut (221 * s + 220)) _ r = _
    rw [cut_i (by omega) (by omega), upI_n (by omega)]
  have t103 : ∀ m, TF s M0 m → RP (rfl_touches_103 s k (221 * s) m) (fun z => TF s M0 z.2) := by
    intro m hm
    have go : (M0.2 101 k = 1 ∨ M0.2 101 k = 327) → RP (rfl_touches_125 s k (221 * s) m) (fun z => TF s M0 z.2) := by
      intro ht
      have hp : ∃ a, PLS (M0.1 20) (M0.1 21) (M0.2 29) (M0.2 34) a (M0.2 102 k) := by
        rcases hk with ⟨t1, t2, t3, -⟩ | ⟨t1, t2, t3, -⟩ | ⟨t1, -⟩ | ⟨t1, -⟩ | ⟨t1, -⟩
        · exact ⟨_, t3⟩
        · exact ⟨_, t3⟩
        · omega
        · omega
        · omega
      obtain ⟨a, hp⟩ := hp
      unfold rfl_touches_125
      rw [fr2 hm.1 102 rfl]
      exact RP_bnd (place_o s0 s1 h20 hm hp) (fun y hy => t136 y.2 hy)
    unfold rfl_touches_103
    rw [fr2 hm.1 101 rfl]
    exact RP_ite (fun g => go (Or.inl g)) (fun _ => RP_ite (fun g => go (Or.inr g)) (fun _ => t136 m hm))
  have t64 : ∀ m, TF s M0 m → RP (rfl_touches_64 s k (221 * s) m) (fun z => TF s M0 z.2) := by
    intro m hm
    have go : (M0.2 101 k = 1 ∨ M0.2 101 k = 328) → RP (rfl_touches_86 s k (221 * s) m) (fun z => TF s M0 z.2) := by
      intro ht
      unfold rfl_touches_86
      rw [fr2 hm.1 107 rfl, fr2 hm.1 108 rfl]
      exact RP_bnd (code_o s0 s1 hN h20 hm (rg1 ht).2 (rg1 ht).1) (fun y hy => t103 y.2 hy)
    unfold rfl_touches_64
    rw [fr2 hm.1 101 rfl]
    exact RP_ite (fun g => go (Or.inl g)) (fun _ => RP_ite (fun g => go (Or.inr g)) (fun _ => t103 m hm))
  have go : (M0.2 101 k = 327 ∨ M0.2 101 k = 328) → RP (rfl_touches_30 s k (221 * s) M) (fun z => TF s M0 z.2) := by
    intro ht
    have hi : 0 ≤ M0.2 103 k ∧ M0.2 103 k < M0.1 22 := by
      rcases hk with ⟨t1, -⟩ | ⟨t1, t2, t3, ⟨t4, t5, t6⟩, -⟩ | ⟨t1, t2, t3, ⟨t4, t5, t6⟩, -⟩ | ⟨t1, -⟩ | ⟨t1, -⟩
      · omega
      · exact ⟨t5, t6⟩
      · exact ⟨t5, t6⟩
      · omega
      · omega
    unfold rfl_touches_30
    rw [fr2 h.1 105 rfl, fr2 h.1 106 rfl]
    refine RP_bnd (code_o s0 s1 hN h20 h (rg2 ht).2 (rg2 ht).1) (fun y hy => ?_)
    unfold rfl_touches_47
    rw [fr2 hy.1 103 rfl, show cut (cut (8 * s) + M0.2 103 k) = 8 * s + M0.2 103 k by rw [cut_i (show -2147483648 ≤ 8 * s by omega) (by omega), cut_i (by omega) (by omega)]]
    refine t64 _ ⟨fr_m hy.1 rfl rfl, MRo_t hy.2 ⟨fun r hr => ⟨rfl, rfl⟩, fun r hr => ?_⟩⟩
    show upI (y.2.2 137) (8 * s + M0.2 103 k) _ r = _
    rw [upI_n (by omega)]
  unfold rf_touches
  rw [fr2 h.1 101 rfl, c221]
  exact RP_ite (fun g => go (Or.inl g)) (fun _ => RP_ite (fun g => go (Or.inr g)) (fun _ => t64 M h))
theorem action_o (s0 : 0 ≤ s) (s1 : s < 48) (hP : GP K0 M0) (hA : ACw K0 M0) (h : TF s M0 M) {a : Int} (a0 : 0 ≤ a) (a1 : a < M0.1 25) : RP (rf_touchesAction s a M) (fun z => TF s M0 z.2) := by
  obtain ⟨c1, c2, c3, c4, c5⟩ := hA a a0 a1
  have c6 := hP.2.2.2.2.2.2.2.2.1 a a0 a1
  have c7 := hP.2.2.2.1
  unfold rf_touchesAction
  rw [fr2 h.1 109 rfl]
  refine RP_bnd (P := fun e => TF s M0 e) (RP_whl (I := fun q : Int × mR => 0 ≤ q.1 ∧ TF s M0 q.2) (fun q hq => ?_) ⟨c2, h⟩) (fun e he => RP_some he)
  obtain ⟨i, m⟩ := q
  obtain ⟨i0, hS⟩ := hq
  have i0 : 0 ≤ i := i0
  have hS : TF s M0 m := hS
  unfold rfb_touchesAction_7
  dsimp only
  rw [fr2 hS.1 109 rfl, fr2 hS.1 50 rfl, cut_i (show -2147483648 ≤ M0.2 109 a + M0.2 50 a by omega) (by omega)]
  refine RP_ite (fun _ => RP_some hS) (fun g => RP_bnd (deed_o s0 s1 hP hS i0 (by omega)) (fun y hy => ?_))
  unfold rfl_touchesAction_30
  rw [cut_i (by omega) (by omega)]
  exact RP_some ⟨(by show 0 ≤ i + 1; omega), hy⟩
theorem step_o (hP : GP K0 M0) (hA : ACw K0 M0) (h26 : M0.1 26 ≤ 8) (hT : TBn (M0.1 26) K0 M0) (h27 : M0.1 27 ≤ 48) (hC : CSn (M0.1 27) K0 M0) (s0 : 0 ≤ s) (s1 : s < M0.1 27) : RP (rfb_touchesAll_53 (s, M0)) (fun v => ∃ M', v = Sum.inl (s + 1, M') ∧ TF s M0 M') := by
  have s48 : s < 48 := by omega
  have fin : ∀ m : mR, rfl_touchesAll_210 s m = some (Sum.inl (s + 1, m)) := by
    intro m
    unfold rfl_touchesAll_210
    rw [cut_i (by omega) (by omega)]
  have h0 : TF s M0 M0 := ⟨fr_0, MRo_0⟩
  obtain ⟨c1, c2, c3, c4, c5, c6⟩ := hC s s0 s1
  unfold rfb_touchesAll_53
  dsimp only
  rw [if_neg (show ¬ M0.1 27 ≤ s by omega)]
  rcases c6 with ⟨d1, d2, d3, d4, d5, d6⟩ | ⟨d1, d2, d3, d4, d5, d6⟩ | ⟨d1, ⟨d2, d3⟩, d4, d5⟩
  · rw [if_pos d1]
    refine RP_bnd (deed_o s0 s48 hP h0 d5 d6) (fun y hy => ?_)
    rw [fin]
    exact RP_some ⟨_, rfl, hy⟩
  · have r2 := hP.2.2.2.2.2.2.2.1 s s0 s1 d1
    rw [if_neg (by omega), if_pos d1]
    refine RP_bnd (code_o s0 s48 hP.1 hP.2.1 h0 r2.2 r2.1) (fun y hy => ?_)
    rw [fin]
    exact RP_some ⟨_, rfl, hy⟩
  · have hB := hT (M0.2 63 s) d2 d3
    have rg := hP.2.2.2.2.2.2.1 (M0.2 63 s) d2 d3
    obtain ⟨k1, k2, k3, k4, -⟩ := hB.1
    obtain ⟨l1, l2, l3, l4⟩ := hB.2.1
    rw [if_neg (by omega), if_neg (by omega), show cut (4 * M0.2 63 s) = 4 * M0.2 63 s from cut_i (by omega) (by omega)]
    refine RP_bnd (P := fun e => TF s M0 e) (RP_whl (I := fun q : Int × mR => 4 * M0.2 63 s ≤ q.1 ∧ TF s M0 q.2) (fun q hq => ?_) ⟨Int.le_refl _, h0⟩) (fun m1 h1 => ?_)
    · obtain ⟨i, m⟩ := q
      obtain ⟨i0, hS⟩ := hq
      have i0 : 4 * M0.2 63 s ≤ i := i0
      have hS : TF s M0 m := hS
      unfold rfb_touchesAll_125
      dsimp only
      rw [fr2 hS.1 51 rfl, fr2 hS.1 110 rfl, fr2 hS.1 111 rfl, show cut (cut (4 * M0.2 63 s) + M0.2 51 (M0.2 63 s)) = 4 * M0.2 63 s + M0.2 51 (M0.2 63 s) by rw [cut_i (show -2147483648 ≤ 4 * M0.2 63 s by omega) (by omega), cut_i (by omega) (by omega)]]
      refine RP_ite (fun _ => RP_some hS) (fun g => ?_)
      have r2 := rg (i - 4 * M0.2 63 s) (by omega) (by omega)
      rw [show 4 * M0.2 63 s + (i - 4 * M0.2 63 s) = i by omega] at r2
      refine RP_bnd (code_o s0 s48 hP.1 hP.2.1 hS r2.2 r2.1) (fun y hy => ?_)
      unfold rfl_touchesAll_156
      rw [cut_i (by omega) (by omega)]
      exact RP_some ⟨(by show _ ≤ i + 1; omega), hy⟩
    unfold rfl_touchesAll_162
    rw [show cut (8 * M0.2 63 s) = 8 * M0.2 63 s from cut_i (by omega) (by omega)]
    refine RP_bnd (P := fun e => TF s M0 e) (RP_whl (I := fun q : Int × mR => 8 * M0.2 63 s ≤ q.1 ∧ TF s M0 q.2) (fun q hq => ?_) ⟨Int.le_refl _, h1⟩) (fun m2 h2 => ?_)
    · obtain ⟨i, m⟩ := q
      obtain ⟨i0, hS⟩ := hq
      have i0 : 8 * M0.2 63 s ≤ i := i0
      have hS : TF s M0 m := hS
      unfold rfb_touchesAll_167
      dsimp only
      rw [fr2 hS.1 53 rfl, fr2 hS.1 114 rfl, show cut (cut (8 * M0.2 63 s) + M0.2 53 (M0.2 63 s)) = 8 * M0.2 63 s + M0.2 53 (M0.2 63 s) by rw [cut_i (show -2147483648 ≤ 8 * M0.2 63 s by omega) (by omega), cut_i (by omega) (by omega)]]
      refine RP_ite (fun _ => RP_some hS) (fun g => ?_)
      obtain ⟨-, r1, r2⟩ := l4 (i - 8 * M0.2 63 s) (by omega) (by omega)
      rw [show 8 * M0.2 63 s + (i - 8 * M0.2 63 s) = i by omega] at r1 r2
      refine RP_bnd (action_o s0 s48 hP hA hS r1 r2) (fun y hy => ?_)
      unfold rfl_touchesAll_193
      rw [cut_i (by omega) (by omega)]
      exact RP_some ⟨(by show _ ≤ i + 1; omega), hy⟩
    unfold rfl_touchesAll_199
    obtain ⟨b1, b2, b3⟩ := hB.2.2.2.1
    rw [fr2 h2.1 57 rfl]
    refine RP_bnd (action_o s0 s48 hP hA h2 b2 b3) (fun y hy => ?_)
    rw [fin]
    exact RP_some ⟨_, rfl, hy⟩
end TRW
