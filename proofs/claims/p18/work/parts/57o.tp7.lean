/-! ===== a cycle of both: tables and line ===== -/
/-- place q of the line is operation row of the class -/
def LNQ (K M : mR) (q row : Int) : Prop := K.2 91 row = M.2 153 q ∧ (0 ≤ M.2 153 q ∧ M.2 153 q ≤ 3) ∧ (M.2 153 q ≠ 0 → (K.2 95 row = M.2 156 q ∧ 0 ≤ M.2 156 q ∧ M.2 156 q < M.1 26) ∧ K.2 96 row = M.2 157 q ∧ K.2 97 row = M.2 158 q ∧ ∀ i, 0 ≤ i → i < 4 → (K.2 103 (65536 * row + i) = M.2 160 (4 * q + i) ∧ K.2 104 (65536 * row + i) = M.2 161 (4 * q + i) ∧ K.2 105 (65536 * row + i) = M.2 162 (4 * q + i)) ∧ R64 (M.2 160 (4 * q + i)) ∧ R64 (M.2 161 (4 * q + i)) ∧ R64 (M.2 162 (4 * q + i)))
def PQ20 (K M : mR) : Prop := ∃ HT : Int → Nat → Int → Int, (∀ k, 139 ≤ k → k ≤ 144 → ∀ i, 0 ≤ i → HT (M.1 150) k i = M.2 k i) ∧ (∀ t, 0 ≤ t → t < M.1 26 → TOK t M) ∧ PQg K M (M.1 151) (M.1 150) (M.2 167) (fun t => M.1 152 - homeK K t) HT ∧ ∀ q, 0 ≤ q → q < M.1 149 → LNQ K M q ((M.1 150 + q) % 128)
section TP7
variable {K M K' M' : mR} {W E : Int} {a x x' : Int → Int} {HT : Int → Nat → Int → Int}
theorem PQg_x (h : PQg K M W E a x HT) (hx : ∀ t, 0 ≤ t → t < M.1 26 → x' t = x t) : PQg K M W E a x' HT := by
  obtain ⟨h1, h2, h3⟩ := h
  refine ⟨h1, fun k k0 k1 kn kx => ?_, fun t t0 t1 => ?_⟩
  · obtain ⟨b0, b1⟩ := (h1 k k0 k1).1.2 kn
    exact h2 k k0 k1 kn (by rw [← hx _ b0 b1]; exact kx)
  · rw [hx t t0 t1]
    exact h3 t t0 t1
def pkL : List Nat := [78, 85, 86, 87, 88, 89, 91, 95, 96, 97, 103, 104, 105]
theorem PQg_K {F A : List Nat} (h : PQg K M W E a x HT) (hG : ∀ t, 0 ≤ t → t < M.1 26 → GVQ t K M) (f : fr F A K K') (c : chk pkL A = true) : PQg K' M W E a x HT := by
  obtain ⟨h1, h2, h3⟩ := h
  have e91 : K'.2 91 = K.2 91 := fr2 f 91 (chk_1 c (by decide))
  have e95 : K'.2 95 = K.2 95 := fr2 f 95 (chk_1 c (by decide))
  refine ⟨fun k k0 k1 => ?_, fun k k0 k1 kn kx => ?_, fun t t0 t1 => ?_⟩
  · unfold OPk STPc
    rw [e91, e95]
    exact h1 k k0 k1
  · rw [e91] at kn
    rw [e95] at kx
    obtain ⟨m0, o, m, p1, p2, p3, p4, p5, p6⟩ := h2 k k0 k1 kn kx
    refine ⟨m0, o, m, p1, by rw [e95]; exact p2, OPQ_c p3 e91 e95 (fr2 f 96 (chk_1 c (by decide))) (fr2 f 97 (chk_1 c (by decide))) (fun i _ _ => ?_), by rw [e91, e95]; exact p4, p5, p6⟩
    rw [fr2 f 103 (chk_1 c (by decide)), fr2 f 104 (chk_1 c (by decide)), fr2 f 105 (chk_1 c (by decide))]
    exact ⟨rfl, rfl, rfl⟩
  · obtain ⟨n, n1, n2⟩ := h3 t t0 t1
    refine ⟨n, n1, TQ_w n2 (hG t t0 t1) ?_ TEt_0⟩
    rw [fr2 f 78 (chk_1 c (by decide)), fr2 f 85 (chk_1 c (by decide)), fr2 f 86 (chk_1 c (by decide)), fr2 f 87 (chk_1 c (by decide)), fr2 f 88 (chk_1 c (by decide)), fr2 f 89 (chk_1 c (by decide))]
    exact ⟨rfl, fun _ _ _ => ⟨rfl, rfl, rfl, rfl, rfl⟩⟩
theorem PQg_M (h : PQg K M W E a x HT) (hG : ∀ t, 0 ≤ t → t < M.1 26 → GVQ t K M) (f : fr pgF rA_doFirst M M') : PQg K M' W E a x HT := by
  obtain ⟨h1, h2, h3⟩ := h
  have e26 : M'.1 26 = M.1 26 := fr1 f 26 rfl
  refine ⟨fun k k0 k1 => ?_, fun k k0 k1 kn kx => ?_, fun t t0 t1 => ?_⟩
  · unfold OPk STPc
    rw [e26]
    exact h1 k k0 k1
  · obtain ⟨m0, o, m, p1, p2, p3, p4, p5, p6⟩ := h2 k k0 k1 kn kx
    exact ⟨m0, o, m, p1, PGq_t p2 (PGq_f f rfl rfl), p3, p4, p5, p6⟩
  · rw [e26] at t1
    obtain ⟨n, n1, n2⟩ := h3 t t0 t1
    have g := hG t t0 t1
    exact ⟨n, n1, TQ_f n2 rfl (fun _ _ _ => ⟨rfl, rfl, rfl, rfl, rfl⟩) rfl (fun _ _ _ => ⟨rfl, rfl⟩) (fun _ _ _ => ⟨rfl, rfl, rfl⟩) g.2.1.1.2.2.1 (GVQ_4 g) (congrFun (fr2 f 51 rfl) t) (fun i _ => congrFun (fr2 f 46 rfl) i) (fun i _ => congrFun (fr2 f 49 rfl) i) (congrFun (fr2 f 54 rfl) t) (congrFun (fr2 f 58 rfl) t) (fr1 f 25 rfl)⟩
/-- the oldest goes out -/
theorem PQg_W (h : PQg K M W E a x HT) (hE : W < E) (ha : ∀ t, 0 ≤ t → t < M.1 26 → a (W % 128) < x t) : PQg K M (W + 1) E a x HT := by
  obtain ⟨h1, h2, h3⟩ := h
  refine ⟨fun k k0 k1 => h1 k (by omega) k1, fun k k0 k1 => h2 k (by omega) k1, fun t t0 t1 => ?_⟩
  obtain ⟨n, ⟨⟨n0, n1⟩, n2, n3⟩, n4⟩ := h3 t t0 t1
  have q := ha t t0 t1
  refine ⟨n, ⟨⟨?_, n1⟩, fun k k0 k1 => n2 k (by omega) k1, n3⟩, n4⟩
  rcases Int.lt_or_le W n with z | z
  · omega
  · have := n3 W (by omega) hE
    omega
/-- one comes in -/
theorem PQg_E {C : Int} {T : Nat → Int → Int} (h : PQg K M W E a x HT) (hE : W ≤ E ∧ E - W ≤ 64) (hx : ∀ t, 0 ≤ t → t < M.1 26 → x t ≤ C) (ho : OPk K M (E % 128)) (hs : STPc K M (HT E) T (E % 128)) (hp : K.2 91 (E % 128) ≠ 0 → PNDc K M (HT E) T (E % 128)) : PQg K M W (E + 1) (upI a (E % 128) C) x (fun n => if n = E + 1 then T else HT n) := by
  obtain ⟨h1, h2, h3⟩ := h
  have ea : ∀ k, W ≤ k → k < E → upI a (E % 128) C (k % 128) = a (k % 128) := fun k k0 k1 => upI_n (by omega)
  refine ⟨fun k k0 k1 => ?_, fun k k0 k1 kn kx => ?_, fun t t0 t1 => ?_⟩
  · by_cases e : k = E
    · rw [e]
      show OPk K M (E % 128) ∧ STPc K M (if E = E + 1 then T else HT E) (if E + 1 = E + 1 then T else HT (E + 1)) (E % 128)
      rw [if_neg (show ¬ E = E + 1 by omega), if_pos rfl]
      exact ⟨ho, hs⟩
    · show OPk K M (k % 128) ∧ STPc K M (if k = E + 1 then T else HT k) (if k + 1 = E + 1 then T else HT (k + 1)) (k % 128)
      rw [if_neg (show ¬ k = E + 1 by omega), if_neg (show ¬ k + 1 = E + 1 by omega)]
      exact h1 k k0 (by omega)
  · by_cases e : k = E
    · rw [e] at kn ⊢
      show PNDc K M (if E = E + 1 then T else HT E) (if E + 1 = E + 1 then T else HT (E + 1)) (E % 128)
      rw [if_neg (show ¬ E = E + 1 by omega), if_pos rfl]
      exact hp kn
    · show PNDc K M (if k = E + 1 then T else HT k) (if k + 1 = E + 1 then T else HT (k + 1)) (k % 128)
      rw [if_neg (show ¬ k = E + 1 by omega), if_neg (show ¬ k + 1 = E + 1 by omega)]
      rw [ea k k0 (by omega)] at kx
      exact h2 k k0 (by omega) kn kx
  · obtain ⟨n, ⟨⟨n0, n1⟩, n2, n3⟩, n4⟩ := h3 t t0 t1
    refine ⟨n, ⟨⟨n0, by omega⟩, fun k k0 k1 => ?_, fun k k0 k1 => ?_⟩, ?_⟩
    · rw [ea k k0 (by omega)]
      exact n2 k k0 k1
    · by_cases e : k = E
      · rw [e, upI_s]
        exact hx t t0 t1
      · rw [ea k (by omega) (by omega)]
        exact n3 k k0 (by omega)
    · show TQ t K (wT M (if n = E + 1 then T else HT n))
      rw [if_neg (show ¬ n = E + 1 by omega)]
      exact n4
theorem mem_tb {k : Nat} (h0 : 139 ≤ k) (h1 : k ≤ 144) : k ∈ tbL := by
  unfold tbL
  simp only [List.mem_cons, List.not_mem_nil, or_false]
  omega
/-- what the reference's first operation is to the class, and what it did -/
theorem df_new {z : Int × mR} {r : Int} (hG : ∀ t, 0 ≤ t → t < M.1 26 → GVQ t K M) (h26 : M.1 26 ≤ 8) (hL : LNQ K M 0 r) (hd : DFT M z) (hT : ∀ t, 0 ≤ t → t < M.1 26 → TOK t M) (fz : fr rF_doFirst rA_doFirst M z.2) : OPk K M r ∧ STPc K M M.2 z.2.2 r ∧ (K.2 91 r ≠ 0 → PNDc K M M.2 z.2.2 r) ∧ ∀ t, 0 ≤ t → t < M.1 26 → TOK t z.2 := by
  obtain ⟨l1, l2, l3⟩ := hL
  obtain ⟨-, hd⟩ := hd
  have e58 : z.2.2 58 = M.2 58 := fr2 fz 58 rfl
  have e54 : z.2.2 54 = M.2 54 := fr2 fz 54 rfl
  have ho : OPk K M r := ⟨by rw [l1]; exact l2, fun q => by
    rw [l1] at q
    obtain ⟨⟨b1, b2, b3⟩, -⟩ := l3 q
    rw [b1]
    exact ⟨b2, b3⟩⟩
  rcases hd with ⟨d0, d1⟩ | ⟨d0, m0, o, m, d1, d2, ⟨d3, d4, d5⟩, d6⟩
  · have s : ∀ t, TEt t M.2 z.2.2 := fun t => by
      unfold TEt
      rw [d1 139 (by decide), d1 140 (by decide), d1 141 (by decide), d1 142 (by decide), d1 143 (by decide), d1 144 (by decide)]
      exact ⟨rfl, fun _ _ _ => ⟨rfl, rfl⟩, fun _ _ _ => ⟨rfl, rfl, rfl⟩⟩
    refine ⟨ho, fun t _ _ _ => s t, fun q => absurd (show K.2 91 r = 0 by omega) q, fun t t0 t1 => ?_⟩
    unfold TOK
    rw [e58, e54, d1 139 (by decide)]
    exact hT t t0 t1
  · have d3 : fr [] svG m0 m := d3
    have d4 : ofR (m0.2 156 0) m0 m := d4
    have d5 : TOK (m0.2 156 0) m := d5
    obtain ⟨⟨b1, b2, b3⟩, b4, b5, b6⟩ := l3 (by omega)
    have e156 : m0.2 156 = M.2 156 := fr2 d1 156 rfl
    have et : m0.2 156 0 = K.2 95 r := by rw [e156, b1]
    have tb0 : ∀ k, 139 ≤ k → k ≤ 144 → m0.2 k = M.2 k := fun k k0 k1 => fr2 d1 k (chk_1 (l := tbL) rfl (mem_tb k0 k1))
    have oth : ∀ t, t ≠ K.2 95 r → TEt t M.2 z.2.2 := fun t ht => by
      rw [et] at d4
      obtain ⟨q1, q2, q3⟩ := d4
      refine ⟨?_, fun j j0 j1 => ?_, fun j j0 j1 => ?_⟩
      · rw [d6 139 (by decide), q1 t ht, tb0 139 (by decide) (by decide)]
      · rw [d6 140 (by decide), d6 141 (by decide), ← tb0 140 (by decide) (by decide), ← tb0 141 (by decide) (by decide)]
        exact q2 j (by omega)
      · rw [d6 142 (by decide), d6 143 (by decide), d6 144 (by decide), ← tb0 142 (by decide) (by decide), ← tb0 143 (by decide) (by decide), ← tb0 144 (by decide) (by decide)]
        exact q3 j (by omega)
    refine ⟨ho, fun t _ _ q => oth t ?_, fun _ => ⟨m0, o, m, fun k k0 k1 i _ => congrFun (tb0 k k0 k1) i, ?_, ?_, ?_, d3, fun k k0 k1 i _ => (congrFun (d6 k (mem_tb k0 k1)) i).symm⟩, fun t t0 t1 => ?_⟩
    · rcases q with q | q
      · omega
      · exact q
    · exact PGq_f d1 rfl rfl
    · refine ⟨by rw [fr2 d1 153 rfl]; exact l1, et.symm, by rw [fr2 d1 157 rfl]; exact b4, by rw [fr2 d1 158 rfl]; exact b5, fun i i0 i1 => ?_⟩
      have w := b6 i i0 i1
      rw [show 4 * 0 + i = i by omega] at w
      rw [fr2 d1 160 rfl, fr2 d1 161 rfl, fr2 d1 162 rfl]
      exact w
    · rw [← et, l1]
      exact d2
    · unfold TOK
      rw [e58, e54, d6 139 (by decide)]
      by_cases q : t = K.2 95 r
      · rw [← et] at q
        rw [q]
        have w := d5
        unfold TOK at w
        rw [fr2 d3 58 rfl, fr2 d3 54 rfl, fr2 d1 58 rfl, fr2 d1 54 rfl] at w
        exact w
      · rw [et] at d4
        rw [d4.1 t q, tb0 139 (by decide) (by decide)]
        exact hT t t0 t1
end TP7
