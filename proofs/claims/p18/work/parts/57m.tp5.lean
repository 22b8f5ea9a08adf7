/-! ===== the stages: tables of the class against the reference's, as they were when each operation came in ===== -/
def wT (M : mR) (T : Nat → Int → Int) : mR := (M.1, fun k => if 139 ≤ k ∧ k ≤ 144 then T k else M.2 k)
/-- the rows of table t are the same -/
def TEt (t : Int) (T T' : Nat → Int → Int) : Prop := T' 139 t = T 139 t ∧ (∀ j, 96 * t ≤ j → j < 96 * t + 96 → T' 140 j = T 140 j ∧ T' 141 j = T 141 j) ∧ ∀ j, 384 * t ≤ j → j < 384 * t + 384 → T' 142 j = T 142 j ∧ T' 143 j = T 143 j ∧ T' 144 j = T 144 j
/-- those that came in ahead of cycle x are the ones below n -/
def NX (W E : Int) (a : Int → Int) (x n : Int) : Prop := (W ≤ n ∧ n ≤ E) ∧ (∀ k, W ≤ k → k < n → a (k % 128) < x) ∧ ∀ k, n ≤ k → k < E → x ≤ a (k % 128)
theorem NX_n {W E x n : Int} {a : Int → Int} (h : NX W E a x n) (hn : ∀ k, W ≤ k → k < E → a (k % 128) ≠ x) : NX W E a (x + 1) n := by
  obtain ⟨h1, h2, h3⟩ := h
  refine ⟨h1, fun k k0 k1 => ?_, fun k k0 k1 => ?_⟩
  · have := h2 k k0 k1
    omega
  · have := h3 k k0 k1
    have := hn k (by omega) k1
    omega
theorem NX_o {W E x n k0 : Int} {a : Int → Int} (h : NX W E a x n) (hm : ∀ k l, W ≤ k → k < l → l < E → a (k % 128) < a (l % 128)) (c0 : W ≤ k0) (c1 : k0 < E) (c2 : a (k0 % 128) = x) : n = k0 ∧ NX W E a (x + 1) (k0 + 1) := by
  obtain ⟨h1, h2, h3⟩ := h
  have e : n = k0 := by
    rcases Int.lt_trichotomy n k0 with q | q | q
    · have t1 := h3 n (Int.le_refl _) (by omega)
      have t2 := hm n k0 (by omega) q c1
      omega
    · exact q
    · have := h2 k0 c0 q
      omega
  refine ⟨e, ⟨by omega, by omega⟩, fun k q0 q1 => ?_, fun k q0 q1 => ?_⟩
  · rcases Int.lt_or_le k k0 with q | q
    · have := hm k k0 q0 q c1
      omega
    · rw [show k = k0 by omega]
      omega
  · have := hm k0 k c0 (by omega) q1
    omega
def pgF : List Nat := 151 :: 152 :: rF_doFirst
theorem fr_y {u v : List Nat} {x y : mR} (h : fr u v x y) : fr u v y x := ⟨fun k hk => (h.1 k hk).symm, fun k hk => (h.2 k hk).symm⟩
/-- what tables are like is the same -/
def PGq (t : Int) (M m : mR) : Prop := m.1 25 = M.1 25 ∧ (m.2 51 t = M.2 51 t ∧ m.2 52 t = M.2 52 t ∧ m.2 53 t = M.2 53 t ∧ m.2 54 t = M.2 54 t ∧ m.2 55 t = M.2 55 t ∧ m.2 56 t = M.2 56 t ∧ m.2 57 t = M.2 57 t ∧ m.2 58 t = M.2 58 t) ∧ (∀ i, 0 ≤ i → i < 4 → m.2 110 (4 * t + i) = M.2 110 (4 * t + i) ∧ m.2 111 (4 * t + i) = M.2 111 (4 * t + i) ∧ m.2 112 (4 * t + i) = M.2 112 (4 * t + i) ∧ m.2 113 (4 * t + i) = M.2 113 (4 * t + i)) ∧ (∀ i, 0 ≤ i → i < 8 → m.2 114 (8 * t + i) = M.2 114 (8 * t + i)) ∧ ∀ i, 0 ≤ i → m.2 46 i = M.2 46 i ∧ m.2 49 i = M.2 49 i
theorem PGq_f {t : Int} {M m : mR} {G C : List Nat} (f : fr G C M m) (c3 : chk [25] G = true) (c4 : chk [46, 49, 51, 52, 53, 54, 55, 56, 57, 58, 110, 111, 112, 113, 114] C = true) : PGq t M m := by
  unfold PGq
  rw [fr1 f 25 (chk_1 c3 (by decide)), fr2 f 46 (chk_1 c4 (by decide)), fr2 f 49 (chk_1 c4 (by decide)), fr2 f 51 (chk_1 c4 (by decide)), fr2 f 52 (chk_1 c4 (by decide)), fr2 f 53 (chk_1 c4 (by decide)), fr2 f 54 (chk_1 c4 (by decide)), fr2 f 55 (chk_1 c4 (by decide)), fr2 f 56 (chk_1 c4 (by decide)), fr2 f 57 (chk_1 c4 (by decide)), fr2 f 58 (chk_1 c4 (by decide)), fr2 f 110 (chk_1 c4 (by decide)), fr2 f 111 (chk_1 c4 (by decide)), fr2 f 112 (chk_1 c4 (by decide)), fr2 f 113 (chk_1 c4 (by decide)), fr2 f 114 (chk_1 c4 (by decide))]
  exact ⟨rfl, ⟨rfl, rfl, rfl, rfl, rfl, rfl, rfl, rfl⟩, fun _ _ _ => ⟨rfl, rfl, rfl, rfl⟩, fun _ _ _ => rfl, fun _ _ => ⟨rfl, rfl⟩⟩
theorem PGq_t {t : Int} {M M' m : mR} (h : PGq t M m) (g : PGq t M M') : PGq t M' m := by
  obtain ⟨a1, ⟨b1, b2, b3, b4, b5, b6, b7, b8⟩, a3, a4, a5⟩ := h
  obtain ⟨c1, ⟨d1, d2, d3, d4, d5, d6, d7, d8⟩, c3, c4, c5⟩ := g
  refine ⟨a1.trans c1.symm, ⟨b1.trans d1.symm, b2.trans d2.symm, b3.trans d3.symm, b4.trans d4.symm, b5.trans d5.symm, b6.trans d6.symm, b7.trans d7.symm, b8.trans d8.symm⟩, fun i i0 i1 => ?_, fun i i0 i1 => (a4 i i0 i1).trans (c4 i i0 i1).symm, fun i i0 => ⟨(a5 i i0).1.trans (c5 i i0).1.symm, (a5 i i0).2.trans (c5 i i0).2.symm⟩⟩
  obtain ⟨e1, e2, e3, e4⟩ := a3 i i0 i1
  obtain ⟨f1, f2, f3, f4⟩ := c3 i i0 i1
  exact ⟨e1.trans f1.symm, e2.trans f2.symm, e3.trans f3.symm, e4.trans f4.symm⟩
theorem GVQ_g {t : Int} {K M m : mR} (h : GVQ t K M) (g : PGq t M m) : GVQ t K m := by
  obtain ⟨h1, h2, h3, h4, h5⟩ := h
  obtain ⟨c1, c2, c3, c4, c5⟩ := g
  refine ⟨h1, ?_, fun a a0 a1 => ?_, by rw [c1]; exact h4, by rw [c2.2.2.2.2.2.2.2, c2.2.2.2.1]; exact h5⟩
  · rw [c1]
    exact TB1_c h2 ⟨⟨rfl, rfl, rfl, rfl, rfl, rfl⟩, fun _ _ _ => ⟨rfl, rfl, rfl, rfl, rfl⟩, c2, c3, c4⟩
  · rw [c1] at a1
    obtain ⟨b1, b2, b3, b4⟩ := h3 a a0 a1
    rw [(c5 a a0).1]
    refine ⟨b1, b2, b3, fun i i0 i1 => ?_⟩
    rw [(c5 (4 * a + i) (by omega)).2]
    exact b4 i i0 i1
/-- an operation on entries that the class has not done yet: what the reference did -/
def PNDc (K M : mR) (T T' : Nat → Int → Int) (r : Int) : Prop := ∃ m0 o m, (∀ k, 139 ≤ k → k ≤ 144 → ∀ i, 0 ≤ i → m0.2 k i = T k i) ∧ PGq (K.2 95 r) M m0 ∧ OPQ r K m0 ∧ srvM (K.2 95 r) (K.2 91 r) m0 = some (o, m) ∧ fr [] svG m0 m ∧ ∀ k, 139 ≤ k → k ≤ 144 → ∀ i, 0 ≤ i → m.2 k i = T' k i
def OPk (K M : mR) (r : Int) : Prop := (0 ≤ K.2 91 r ∧ K.2 91 r ≤ 3) ∧ (K.2 91 r ≠ 0 → 0 ≤ K.2 95 r ∧ K.2 95 r < M.1 26)
def STPc (K M : mR) (T T' : Nat → Int → Int) (r : Int) : Prop := ∀ t, 0 ≤ t → t < M.1 26 → K.2 91 r = 0 ∨ t ≠ K.2 95 r → TEt t T T'
/-- x: for each table the cycle ahead of which those came in that have passed it -/
def PQg (K M : mR) (W E : Int) (a x : Int → Int) (HT : Int → Nat → Int → Int) : Prop := (∀ k, W ≤ k → k < E → OPk K M (k % 128) ∧ STPc K M (HT k) (HT (k + 1)) (k % 128)) ∧ (∀ k, W ≤ k → k < E → K.2 91 (k % 128) ≠ 0 → x (K.2 95 (k % 128)) ≤ a (k % 128) → PNDc K M (HT k) (HT (k + 1)) (k % 128)) ∧ ∀ t, 0 ≤ t → t < M.1 26 → ∃ n, NX W E a (x t) n ∧ TQ t K (wT M (HT n))
section TP5
variable {K M K' M' : mR} {W E : Int} {a x x' : Int → Int} {HT : Int → Nat → Int → Int}
theorem GVQ_f {t : Int} {F A G C : List Nat} (h : GVQ t K M) (hK : fr F A K K') (hM : fr G C M M') (c2 : chk [39, 40, 72, 73, 74, 75, 76, 77, 79, 80, 81, 82, 83] A = true) (c3 : chk [25] G = true) (c4 : chk [46, 49, 51, 52, 53, 54, 55, 56, 57, 58, 110, 111, 112, 113, 114] C = true) : GVQ t K' M' := by
  obtain ⟨h1, h2, h3, h4, h5⟩ := h
  refine ⟨h1, ?_, PAq_f h3 hK hM (chk_s c2 rfl) c3 (chk_s c4 rfl), ?_, ?_⟩
  · rw [fr1 hM 25 (chk_1 c3 (by decide))]
    exact TB1_f h2 hK hM (chk_s c2 rfl) (chk_s c4 rfl)
  · rw [fr1 hM 25 (chk_1 c3 (by decide))]
    exact h4
  · rw [fr2 hM 58 (chk_1 c4 (by decide)), fr2 hM 54 (chk_1 c4 (by decide))]
    exact h5
theorem OPQ_c {r : Int} (h : OPQ r K M) (e91 : K'.2 91 = K.2 91) (e95 : K'.2 95 = K.2 95) (e96 : K'.2 96 = K.2 96) (e97 : K'.2 97 = K.2 97) (er : ∀ i, 0 ≤ i → i < 4 → K'.2 103 (65536 * r + i) = K.2 103 (65536 * r + i) ∧ K'.2 104 (65536 * r + i) = K.2 104 (65536 * r + i) ∧ K'.2 105 (65536 * r + i) = K.2 105 (65536 * r + i)) : OPQ r K' M := by
  obtain ⟨h1, h2, h3, h4, h5⟩ := h
  refine ⟨by rw [e91]; exact h1, by rw [e95]; exact h2, by rw [e96]; exact h3, by rw [e97]; exact h4, fun i i0 i1 => ?_⟩
  obtain ⟨q1, q2, q3⟩ := er i i0 i1
  rw [q1, q2, q3]
  exact h5 i i0 i1
/-- rows of one operation lie apart from another's -/
theorem rw_o {r r' i : Int} (h : r' ≠ r) (i0 : 0 ≤ i) (i1 : i < 65536) : 65536 * r' + i < 65536 * r ∨ 65536 * r + 65536 ≤ 65536 * r' + i := by omega
theorem TQ_w {t : Int} {T T' : Nat → Int → Int} (h : TQ t K (wT M T)) (g : GVQ t K M) (hK : K'.2 78 t = K.2 78 t ∧ ∀ j, 65536 * t ≤ j → j < 65536 * t + 65536 → K'.2 85 j = K.2 85 j ∧ K'.2 86 j = K.2 86 j ∧ K'.2 87 j = K.2 87 j ∧ K'.2 88 j = K.2 88 j ∧ K'.2 89 j = K.2 89 j) (hT : TEt t T T') : TQ t K' (wT M T') := TQ_f h hK.1 hK.2 hT.1 hT.2.1 hT.2.2 g.2.1.1.2.2.1 (GVQ_4 g) rfl (fun _ _ => rfl) (fun _ _ => rfl) rfl rfl rfl
theorem TEt_0 {t : Int} {T : Nat → Int → Int} : TEt t T T := ⟨rfl, fun _ _ _ => ⟨rfl, rfl⟩, fun _ _ _ => ⟨rfl, rfl, rfl⟩⟩
/-- nobody is in stage g -/
theorem stg_0 (h : PQg K M W E a x HT) (hx : ∀ t, x' t = x t ∨ (x' t = x t + 1 ∧ ∀ k, W ≤ k → k < E → a (k % 128) ≠ x t)) : PQg K M W E a x' HT := by
  obtain ⟨h1, h2, h3⟩ := h
  refine ⟨h1, fun k k0 k1 kn kx => h2 k k0 k1 kn ?_, fun t t0 t1 => ?_⟩
  · rcases hx (K.2 95 (k % 128)) with e | ⟨e, -⟩ <;> omega
  · obtain ⟨n, n1, n2⟩ := h3 t t0 t1
    refine ⟨n, ?_, n2⟩
    rcases hx t with e | ⟨e, q⟩
    · rw [e]; exact n1
    · rw [e]; exact NX_n n1 q
/-- operation k0 has been in stage g -/
theorem stg_1 {g k0 : Int} (h : PQg K M W E a x HT) (hG : ∀ t, 0 ≤ t → t < M.1 26 → GVQ t K M) (h26 : M.1 26 ≤ 8) (hm : ∀ k l, W ≤ k → k < l → l < E → a (k % 128) < a (l % 128)) (hE : E - W ≤ 64) (c0 : W ≤ k0) (c1 : k0 < E) (hx : ∀ t, (homeK K t ≠ g ∧ x' t = x t) ∨ (homeK K t = g ∧ x t = a (k0 % 128) ∧ x' t = x t + 1)) (hp : fr [] kA_op_work_b71 K K') (hw : (K.2 91 (k0 % 128) = 0 ∧ fr [] wkL K K' ∧ rwL (k0 % 128) K K') ∨ (K.2 91 (k0 % 128) ≠ 0 ∧ ((g ≠ homeK K (K.2 95 (k0 % 128)) ∧ K' = K) ∨ (g = homeK K (K.2 95 (k0 % 128)) ∧ ∃ w, kf_tb_serve (K.2 95 (k0 % 128)) (k0 % 128) K = some w ∧ K' = mO w.2 [] [(98, upI (w.2.2 98) (k0 % 128) w.1)])))) : PQg K' M W E a x' HT ∧ rwL (k0 % 128) K K' := by
  obtain ⟨h1, h2, h3⟩ := h
  have e91 : K'.2 91 = K.2 91 := fr2 hp 91 rfl
  have e95 : K'.2 95 = K.2 95 := fr2 hp 95 rfl
  have e96 : K'.2 96 = K.2 96 := fr2 hp 96 rfl
  have e97 : K'.2 97 = K.2 97 := fr2 hp 97 rfl
  obtain ⟨⟨o0, o1⟩, o2⟩ := (h1 k0 c0 c1).1
  have st0 := (h1 k0 c0 c1).2
  -- what becomes of the tables and of the rows
  have T : rwL (k0 % 128) K K' ∧ ∀ t, 0 ≤ t → t < M.1 26 → (homeK K t = g → TQ t K (wT M (HT k0)) → TQ t K' (wT M (HT (k0 + 1)))) ∧ (homeK K t ≠ g → ∀ n, TQ t K (wT M (HT n)) → TQ t K' (wT M (HT n))) := by
    rcases hw with ⟨w0, w1, w2⟩ | ⟨w0, ⟨w1, w2⟩ | ⟨w1, w, hs, hK⟩⟩
    · have same : ∀ t, K'.2 78 t = K.2 78 t ∧ ∀ j, 65536 * t ≤ j → j < 65536 * t + 65536 → K'.2 85 j = K.2 85 j ∧ K'.2 86 j = K.2 86 j ∧ K'.2 87 j = K.2 87 j ∧ K'.2 88 j = K.2 88 j ∧ K'.2 89 j = K.2 89 j := fun t => by
        rw [fr2 w1 78 rfl, fr2 w1 85 rfl, fr2 w1 86 rfl, fr2 w1 87 rfl, fr2 w1 88 rfl, fr2 w1 89 rfl]
        exact ⟨rfl, fun _ _ _ => ⟨rfl, rfl, rfl, rfl, rfl⟩⟩
      exact ⟨w2, fun t t0 t1 => ⟨fun _ q => TQ_w q (hG t t0 t1) (same t) (st0 t t0 t1 (Or.inl w0)), fun _ n q => TQ_w q (hG t t0 t1) (same t) TEt_0⟩⟩
    · rw [w2]
      refine ⟨rwL_0, fun t t0 t1 => ⟨fun q1 q => TQ_w q (hG t t0 t1) ⟨rfl, fun _ _ _ => ⟨rfl, rfl, rfl, rfl, rfl⟩⟩ (st0 t t0 t1 (Or.inr (fun z => w1 (by rw [← z]; exact q1.symm)))), fun _ n q => q⟩⟩
    · obtain ⟨z0, z1⟩ := o2 w0
      have hg : homeK K (K.2 95 (k0 % 128)) = g := w1.symm
      rcases hx (K.2 95 (k0 % 128)) with ⟨q, -⟩ | ⟨-, q, -⟩
      · exact absurd hg q
      obtain ⟨m0, o, m, p1, p2, p3, p4, p5, p6⟩ := h2 k0 c0 c1 w0 (by omega)
      obtain ⟨n, n1, n2⟩ := h3 _ z0 z1
      have en := (NX_o n1 hm c0 c1 q.symm).1
      rw [en] at n2
      have g0 := hG _ z0 z1
      have gm : GVQ (K.2 95 (k0 % 128)) K m0 := GVQ_g g0 p2
      have q0 : TQ (K.2 95 (k0 % 128)) K m0 := by
        refine TQ_f n2 rfl (fun _ _ _ => ⟨rfl, rfl, rfl, rfl, rfl⟩) (p1 139 (by decide) (by decide) _ z0) (fun j j0 _ => ⟨p1 140 (by decide) (by decide) j (by omega), p1 141 (by decide) (by decide) j (by omega)⟩) (fun j j0 _ => ⟨p1 142 (by decide) (by decide) j (by omega), p1 143 (by decide) (by decide) j (by omega), p1 144 (by decide) (by decide) j (by omega)⟩) g0.2.1.1.2.2.1 (GVQ_4 g0) p2.2.1.1 (fun i i0 => (p2.2.2.2.2 i i0).1) (fun i i0 => (p2.2.2.2.2 i i0).2) p2.2.1.2.2.2.1 p2.2.1.2.2.2.2.2.2.2 p2.1
      have k153 : K.2 91 (k0 % 128) = m0.2 153 0 := p3.1
      have k156 : K.2 95 (k0 % 128) = m0.2 156 0 := p3.2.1
      have S := serve_q gm q0 p3 (by omega) w (o, m) hs (by rw [← k153]; exact p4)
      obtain ⟨s1, s2, s3, s4, s5, s6⟩ := S
      have f98 : ∀ k, k ≠ 98 → K'.2 k = w.2.2 k := fun k hk => by rw [hK]; exact mO2_n (fun z => hk z.symm)
      refine ⟨fun j hj => ?_, fun t t0 t1 => ⟨fun q1 q => ?_, fun q1 n q => ?_⟩⟩
      · rw [f98 103 (by decide), f98 104 (by decide), f98 105 (by decide), fr2 s3 105 rfl]
        exact ⟨(s5.2.2 j hj).1, (s5.2.2 j hj).2, rfl⟩
      · by_cases et : t = K.2 95 (k0 % 128)
        · rw [et]
          refine TQ_f s2 (by rw [f98 78 (by decide)]) (fun j _ _ => by rw [f98 85 (by decide), f98 86 (by decide), f98 87 (by decide), f98 88 (by decide), f98 89 (by decide)]; exact ⟨rfl, rfl, rfl, rfl, rfl⟩) (p6 139 (by decide) (by decide) _ z0).symm (fun j j0 _ => ⟨(p6 140 (by decide) (by decide) j (by omega)).symm, (p6 141 (by decide) (by decide) j (by omega)).symm⟩) (fun j j0 _ => ⟨(p6 142 (by decide) (by decide) j (by omega)).symm, (p6 143 (by decide) (by decide) j (by omega)).symm, (p6 144 (by decide) (by decide) j (by omega)).symm⟩) ?_ ?_ ?_ ?_ ?_ ?_ ?_ ?_
          · show m.2 51 _ ≤ 4
            rw [fr2 p5 51 rfl]
            exact gm.2.1.1.2.2.1
          · show ∀ a, 0 ≤ a → a < m.1 25 → m.2 46 a ≤ 4
            rw [fr2 p5 46 rfl, fr1 p5 25 rfl]
            exact GVQ_4 gm
          · show M.2 51 _ = m.2 51 _
            rw [fr2 p5 51 rfl]; exact p2.2.1.1.symm
          · show ∀ a, 0 ≤ a → M.2 46 a = m.2 46 a
            rw [fr2 p5 46 rfl]; exact fun i i0 => ((p2.2.2.2.2 i i0).1).symm
          · show ∀ i, 0 ≤ i → M.2 49 i = m.2 49 i
            rw [fr2 p5 49 rfl]; exact fun i i0 => ((p2.2.2.2.2 i i0).2).symm
          · show M.2 54 _ = m.2 54 _
            rw [fr2 p5 54 rfl]; exact p2.2.1.2.2.2.1.symm
          · show M.2 58 _ = m.2 58 _
            rw [fr2 p5 58 rfl]; exact p2.2.1.2.2.2.2.2.2.2.symm
          · show M.1 25 = m.1 25
            rw [fr1 p5 25 rfl]; exact p2.1.symm
        · refine TQ_w q (hG t t0 t1) ⟨?_, fun j j0 j1 => ?_⟩ (st0 t t0 t1 (Or.inr et))
          · rw [f98 78 (by decide)]
            exact s5.1 t et
          · rw [f98 85 (by decide), f98 86 (by decide), f98 87 (by decide), f98 88 (by decide), f98 89 (by decide)]
            exact s5.2.1 j (by omega)
      · have et : t ≠ K.2 95 (k0 % 128) := fun z => q1 (by rw [z]; exact hg)
        refine TQ_w q (hG t t0 t1) ⟨?_, fun j j0 j1 => ?_⟩ TEt_0
        · rw [f98 78 (by decide)]
          exact s5.1 t et
        · rw [f98 85 (by decide), f98 86 (by decide), f98 87 (by decide), f98 88 (by decide), f98 89 (by decide)]
          exact s5.2.1 j (by omega)
  obtain ⟨hR, hT⟩ := T
  refine ⟨⟨fun k q0 q1 => ?_, fun k q0 q1 kn kx => ?_, fun t t0 t1 => ?_⟩, hR⟩
  · obtain ⟨u1, u2⟩ := h1 k q0 q1
    unfold OPk STPc
    rw [e91, e95]
    exact ⟨u1, u2⟩
  · rw [e91] at kn
    rw [e95] at kx
    have go : PNDc K M (HT k) (HT (k + 1)) (k % 128) → k ≠ k0 → PNDc K' M (HT k) (HT (k + 1)) (k % 128) := fun hp ne => by
      obtain ⟨m0, o, m, p1, p2, p3, p4, p5, p6⟩ := hp
      refine ⟨m0, o, m, p1, by rw [e95]; exact p2, OPQ_c p3 e91 e95 e96 e97 (fun i i0 i1 => hR _ (rw_o (by omega) i0 (by omega))), by rw [e91, e95]; exact p4, p5, p6⟩
    by_cases ek : k = k0
    · rw [ek] at kx kn ⊢
      rcases hx (K.2 95 (k0 % 128)) with ⟨z1, z2⟩ | ⟨z1, z2, z3⟩
      · rcases hw with ⟨w0, -⟩ | ⟨-, ⟨-, w2⟩ | ⟨w1, -⟩⟩
        · exact absurd w0 kn
        · rw [w2]
          exact h2 k0 c0 c1 kn (by omega)
        · exact absurd w1.symm z1
      · omega
    · refine go (h2 k q0 q1 kn ?_) ek
      rcases hx (K.2 95 (k % 128)) with ⟨z1, z2⟩ | ⟨z1, z2, z3⟩ <;> omega
  · obtain ⟨n, n1, n2⟩ := h3 t t0 t1
    rcases hx t with ⟨z1, z2⟩ | ⟨z1, z2, z3⟩
    · exact ⟨n, by rw [z2]; exact n1, (hT t t0 t1).2 z1 n n2⟩
    · obtain ⟨e, q⟩ := NX_o n1 hm c0 c1 z2.symm
      rw [e] at n2
      exact ⟨k0 + 1, by rw [z3]; exact q, (hT t t0 t1).1 z1 n2⟩
end TP5
