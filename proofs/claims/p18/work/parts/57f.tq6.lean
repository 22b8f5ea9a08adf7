/-! ===== an entry goes, changes, comes ===== -/
section TQ6
variable {K M K' M' : mR} {t r : Int}
theorem TB1_f {F A G C : List Nat} {n : Int} (h : TB1 n t K M) (hK : fr F A K K') (hM : fr G C M M') (c2 : chk [72, 73, 74, 75, 76, 77, 79, 80, 81, 82, 83] A = true) (c4 : chk [51, 52, 53, 54, 55, 56, 57, 58, 110, 111, 112, 113, 114] C = true) : TB1 n t K' M' := by
  obtain ⟨h1, h2, h3, h4, h5, h6, h7⟩ := h
  refine ⟨TK_f h1 hK hM (chk_s c2 rfl) (chk_s c4 rfl), TL_f h2 hK hM (chk_s c2 rfl) (chk_s c4 rfl), TE_f h3 hM (chk_s c4 rfl), ?_, ?_, ?_, ?_⟩
  · rw [fr2 hK 74 (chk_1 c2 (by decide)), fr2 hM 57 (chk_1 c4 (by decide))]; exact h4
  · rw [fr2 hK 75 (chk_1 c2 (by decide)), fr2 hM 54 (chk_1 c4 (by decide))]; exact h5
  · rw [fr2 hK 76 (chk_1 c2 (by decide)), fr2 hM 55 (chk_1 c4 (by decide))]; exact h6
  · rw [fr2 hK 77 (chk_1 c2 (by decide)), fr2 hM 56 (chk_1 c4 (by decide))]; exact h7
/-- the operation, its keys cut -/
def OCQ (t r : Int) (K M : mR) : Prop := K.2 96 r = M.2 157 0 ∧ K.2 97 r = M.2 158 0 ∧ (∀ i, 0 ≤ i → i < M.2 51 t → K.2 104 (65536 * r + i) = and64 (M.2 161 i) (mk64 (M.2 112 (4 * t + i))) ∧ K.2 103 (65536 * r + i) = and64 (M.2 160 i) (and64 (M.2 161 i) (mk64 (M.2 112 (4 * t + i))))) ∧ ∀ i, 0 ≤ i → i < 4 → K.2 105 (65536 * r + i) = M.2 162 i ∧ R64 (M.2 160 i) ∧ R64 (M.2 161 i) ∧ R64 (M.2 162 i)
/-- parameters of actions -/
def PAq (K M : mR) : Prop := ∀ a, 0 ≤ a → a < M.1 25 → K.2 39 a = M.2 46 a ∧ 0 ≤ M.2 46 a ∧ M.2 46 a ≤ 4 ∧ ∀ i, 0 ≤ i → i < M.2 46 a → K.2 40 (4 * a + i) = M.2 49 (4 * a + i) ∧ 1 ≤ M.2 49 (4 * a + i) ∧ M.2 49 (4 * a + i) ≤ 64
theorem PAq_f {F A G C : List Nat} (h : PAq K M) (hK : fr F A K K') (hM : fr G C M M') (c2 : chk [39, 40] A = true) (c3 : chk [25] G = true) (c4 : chk [46, 49] C = true) : PAq K' M' := by
  unfold PAq
  rw [fr2 hK 39 (chk_1 c2 (by decide)), fr2 hK 40 (chk_1 c2 (by decide)), fr1 hM 25 (chk_1 c3 (by decide)), fr2 hM 46 (chk_1 c4 (by decide)), fr2 hM 49 (chk_1 c4 (by decide))]
  exact h
/-- what is given all the time -/
def GVQ (t : Int) (K M : mR) : Prop := (0 ≤ t ∧ t < 8) ∧ TB1 (M.1 25) t K M ∧ PAq K M ∧ (0 ≤ M.1 25 ∧ M.1 25 ≤ 16) ∧ (M.2 58 t ≠ 0 → M.2 54 t ≤ 16)
theorem GVQ_4 (h : GVQ t K M) : ∀ a, 0 ≤ a → a < M.1 25 → M.2 46 a ≤ 4 := fun a a0 a1 => (h.2.2.1 a a0 a1).2.2.1
theorem SV_0 (hQ : TQ t K M) : SV t r K M (1, K) (0, M) := ⟨(if_pos rfl).symm, hQ, fr_0, fr_0, ofK_0, ofR_0⟩
theorem goes_q (hG : GVQ t K M) (hQ : TQ t K M) (hO : OCQ t r K M) (h91 : K.2 91 r = 3) : RR (kfl_tb_serve_50 t r 1 K) (rf_entryGoes t M) (SV t r K M) := by
  have p4 := GVQ_4 hG
  obtain ⟨⟨t0, t1⟩, hB, -, -, -⟩ := hG
  obtain ⟨hT, -⟩ := hB
  have h51 := hT.2.2.1
  unfold kfl_tb_serve_50 rf_entryGoes
  refine RR_bnd (same_q t0 t1 hT hQ hO.2.2.1 (fun i i0 i1 => (hO.2.2.2 i i0 i1).2.2.1)) (fun y z h => ?_)
  rw [h91, if_neg (by decide)]
  unfold kfl_tb_serve_77 kfl_tb_serve_92
  have hQ0 := hQ
  obtain ⟨n1, ⟨n2, n3⟩, n4, n5, n6⟩ := hQ0
  rcases h with ⟨rfl, rfl, -⟩ | ⟨rfl, z0, z1, -⟩
  · rw [if_pos rfl, if_neg (by decide), if_neg (by decide)]
    exact RR_some (SV_0 hQ)
  · rw [if_neg (by omega), if_pos rfl, if_neg (by decide), if_pos z0, cut_i (z := M.2 139 t - 1) (by omega) (by omega)]
    have eM : ∃ M1, M1 = mO M [] [(139, upI (M.2 139) t (M.2 139 t - 1))] := ⟨_, rfl⟩
    obtain ⟨M1, eM⟩ := eM
    rw [← eM]
    have g1 : fr [] [139] M M1 := by rw [eM]; exact fr_m fr_0 rfl rfl
    have g139 : M1.2 139 = upI (M.2 139) t (M.2 139 t - 1) := by rw [eM]; rfl
    refine RR_l (rem_k (K := K) (t := t) (e := y) (by omega) z0 (by omega)) (fun w hw => RR_r (rem_r (M := M1) (t := t) (e := y) (n := M.2 139 t - 1) t0 t1 (by rw [g139, upI_s]) (by omega) z0 (by omega)) (fun m hm => RR_some ?_))
    obtain ⟨mk, ⟨⟨-, -⟩, w2, w3, w4, w5, w6, w7⟩, wE⟩ := hw
    obtain ⟨⟨-, -⟩, m2, m3, m4, m5, m6, m7⟩ := hm
    have fM : fr [] svG M m := fr_s m2 (fr_s g1 fr_0 rfl rfl) rfl rfl
    have fK : fr [] svF K w.2 := by
      rw [wE]
      exact fr_m (fr_s w2 fr_0 rfl rfl) rfl rfl
    have k78 : w.2.2 78 = upI (K.2 78) t (K.2 78 t - 1) := by rw [wE]; rfl
    have k85 : w.2.2 85 = mk.2 85 := by rw [wE]; rfl
    have k86 : w.2.2 86 = mk.2 86 := by rw [wE]; rfl
    have k87 : w.2.2 87 = mk.2 87 := by rw [wE]; rfl
    have k88 : w.2.2 88 = mk.2 88 := by rw [wE]; rfl
    have k89 : w.2.2 89 = mk.2 89 := by rw [wE]; rfl
    have m139 : m.2 139 = upI (M.2 139) t (M.2 139 t - 1) := (fr2 m2 139 rfl).trans g139
    rw [show M1.2 140 = M.2 140 from fr2 g1 140 rfl] at m6
    rw [show M1.2 141 = M.2 141 from fr2 g1 141 rfl] at m7
    rw [show M1.2 142 = M.2 142 from fr2 g1 142 rfl] at m3
    rw [show M1.2 143 = M.2 143 from fr2 g1 143 rfl] at m4
    rw [show M1.2 144 = M.2 144 from fr2 g1 144 rfl] at m5
    have row : ∀ x, 0 ≤ x → x < M.2 139 t - 1 → ∃ x2, (x2 = x ∧ x < y ∨ x2 = x + 1 ∧ y ≤ x) ∧ (∀ i, 0 ≤ i → i < 4 → m.2 142 (4 * (96 * t + x) + i) = M.2 142 (4 * (96 * t + x2) + i) ∧ m.2 143 (4 * (96 * t + x) + i) = M.2 143 (4 * (96 * t + x2) + i) ∧ m.2 144 (4 * (96 * t + x) + i) = M.2 144 (4 * (96 * t + x2) + i)) := fun x x0 x1 => by
      by_cases q : x < y
      · exact ⟨x, Or.inl ⟨rfl, q⟩, fun i i0 i1 => ⟨m3.2 _ (Or.inl (by omega)), m4.2 _ (Or.inl (by omega)), m5.2 _ (Or.inl (by omega))⟩⟩
      · refine ⟨x + 1, Or.inr ⟨rfl, by omega⟩, fun i i0 i1 => ?_⟩
        have ee : 4 * (96 * t + (x + 1)) + i = 4 * (96 * t + x) + i + 4 := by omega
        rw [ee]
        exact ⟨m3.1 _ (by omega) (by omega), m4.1 _ (by omega) (by omega), m5.1 _ (by omega) (by omega)⟩
    refine ⟨(if_neg (show ¬ (1 : Int) = 0 by decide)).symm, ⟨?_, ?_, ?_, fun x x0 x1 => ?_, fun e f e0 e1 f1 => ?_⟩, fK, fM, ⟨fun x hx => ?_, fun j hj => ?_, fun j hj => ?_⟩, ⟨fun x hx => ?_, fun j hj => ?_, fun j hj => ?_⟩⟩
    · show w.2.2 78 t = m.2 139 t
      rw [k78, m139, upI_s, upI_s, n1]
    · show 0 ≤ m.2 139 t ∧ m.2 139 t ≤ 72
      rw [m139, upI_s]
      omega
    · show m.2 58 t = 0 → m.2 139 t ≤ m.2 54 t
      rw [m139, upI_s, show m.2 58 = M.2 58 from fr2 fM 58 rfl, show m.2 54 = M.2 54 from fr2 fM 54 rfl]
      exact fun q => by have := n4 q; omega
    · have x1 : x < m.2 139 t := x1
      rw [m139, upI_s] at x1
      obtain ⟨x2, hx2, hr⟩ := row x x0 x1
      refine TR2_s (n5 x2 (by omega) (by omega)) fM p4 h51 (fun i i0 i1 => ?_) ?_ ?_ hr ?_ ?_
      · rw [k85, k86, k87]
        rcases hx2 with ⟨rfl, q⟩ | ⟨rfl, q⟩
        · exact ⟨w3.2 _ (Or.inl (by omega)), w4.2 _ (Or.inl (by omega)), w5.2 _ (Or.inl (by omega))⟩
        · have ee : 65536 * t + ((x + 1) * 4 + i) = 65536 * t + (x * 4 + i) + 4 := by omega
          rw [ee]
          exact ⟨w3.1 _ (by omega) (by omega), w4.1 _ (by omega) (by omega), w5.1 _ (by omega) (by omega)⟩
      · rw [k88]
        rcases hx2 with ⟨rfl, q⟩ | ⟨rfl, q⟩
        · exact w6.2 _ (Or.inl (by omega))
        · rw [show 65536 * t + (x + 1) = 65536 * t + x + 1 by omega]
          exact w6.1 _ (by omega) (by omega)
      · rw [k89]
        rcases hx2 with ⟨rfl, q⟩ | ⟨rfl, q⟩
        · exact w7.2 _ (Or.inl (by omega))
        · rw [show 65536 * t + (x + 1) = 65536 * t + x + 1 by omega]
          exact w7.1 _ (by omega) (by omega)
      · rcases hx2 with ⟨rfl, q⟩ | ⟨rfl, q⟩
        · exact m6.2 _ (Or.inl (by omega))
        · rw [show 96 * t + (x + 1) = 96 * t + x + 1 by omega]
          exact m6.1 _ (by omega) (by omega)
      · rcases hx2 with ⟨rfl, q⟩ | ⟨rfl, q⟩
        · exact m7.2 _ (Or.inl (by omega))
        · rw [show 96 * t + (x + 1) = 96 * t + x + 1 by omega]
          exact m7.1 _ (by omega) (by omega)
    · have f1 : f < m.2 139 t := f1
      rw [m139, upI_s] at f1
      obtain ⟨e2, he2, hre⟩ := row e e0 (by omega)
      obtain ⟨f2, hf2, hrf⟩ := row f (by omega) f1
      obtain ⟨i, i0, i1, i2⟩ := n6 e2 f2 (by omega) (by omega) (by omega)
      obtain ⟨a1, a2, -⟩ := hre i i0 (by omega)
      obtain ⟨b1, b2, -⟩ := hrf i i0 (by omega)
      refine ⟨i, i0, by rw [show m.2 51 = M.2 51 from fr2 fM 51 rfl]; exact i1, ?_⟩
      show ¬ (m.2 142 _ = m.2 142 _ ∧ m.2 143 _ = m.2 143 _)
      rw [a1, a2, b1, b2]
      exact i2
    · show w.2.2 78 x = K.2 78 x
      rw [k78, upI_n hx]
    · show w.2.2 85 j = _ ∧ w.2.2 86 j = _ ∧ w.2.2 87 j = _ ∧ w.2.2 88 j = _ ∧ w.2.2 89 j = _
      rw [k85, k86, k87, k88, k89]
      exact ⟨w3.2 _ (by omega), w4.2 _ (by omega), w5.2 _ (by omega), w6.2 _ (by omega), w7.2 _ (by omega)⟩
    · show w.2.2 103 j = _ ∧ w.2.2 104 j = _
      rw [wE]
      show mk.2 103 j = _ ∧ mk.2 104 j = _
      rw [show mk.2 103 = K.2 103 from fr2 w2 103 rfl, show mk.2 104 = K.2 104 from fr2 w2 104 rfl]
      exact ⟨rfl, rfl⟩
    · show m.2 139 x = M.2 139 x
      rw [m139, upI_n hx]
    · exact ⟨m6.2 _ (by omega), m7.2 _ (by omega)⟩
    · exact ⟨m3.2 _ (by omega), m4.2 _ (by omega), m5.2 _ (by omega)⟩
theorem and_aa (x y : Int) : and64 (and64 x y) y = and64 x y := bt_eq and_r and_r (fun i hi => by
  rw [bq_and, bq_and]
  cases bt64 x i <;> cases bt64 y i <;> rfl)
/-- an entry's action and data are put: row e of both -/
theorem putq {e a : Int} {K1 M1 : mR} {K2 M2 : mR} (hG : GVQ t K1 M1) (h105 : ∀ i, 0 ≤ i → i < 4 → K1.2 105 (65536 * r + i) = M1.2 162 i) (a0 : 0 ≤ a) (a1 : a < M1.1 25) (hp : puI t r e a K1 (K1.2 39 a, K2)) (hq : puJ t e a M1 (4, M2)) : (K2.2 89 (65536 * t + e) = a ∧ M2.2 141 (96 * t + e) = a) ∧ ∀ i, 0 ≤ i → i < M1.2 46 a → K2.2 87 (65536 * t + (e * 4 + i)) = M2.2 144 (4 * (96 * t + e) + i) ∧ VW (M2.2 144 (4 * (96 * t + e) + i)) (M1.2 49 (4 * a + i)) := by
  obtain ⟨-, -, hP, -, -⟩ := hG
  obtain ⟨c1, c2, c3, c4⟩ := hP a a0 a1
  obtain ⟨-, -, p3, p4, -⟩ := hp
  obtain ⟨-, -, q3, q4, -⟩ := hq
  refine ⟨⟨by show K2.2 89 _ = _; rw [p3, upI_s], by show M2.2 141 _ = _; rw [q3, upI_s]⟩, fun i i0 i1 => ?_⟩
  obtain ⟨d1, d2, d3⟩ := c4 i i0 i1
  have x1 : K2.2 87 (65536 * t + (e * 4 + i)) = and64 (K1.2 105 (65536 * r + i)) (mk64 (K1.2 40 (a * 4 + i))) := p4 i i0 (show i < K1.2 39 a by omega)
  have x2 : M2.2 144 (4 * (96 * t + e) + i) = if M1.2 46 a ≤ i then 0 else and64 (M1.2 162 i) (mk64 (M1.2 49 (4 * a + i))) := q4 i i0 (show i < 4 by omega)
  rw [if_neg (by omega)] at x2
  rw [x1, x2, h105 i i0 (by omega), show a * 4 + i = 4 * a + i by omega, d1]
  exact ⟨rfl, VW_m (by omega) d3⟩
theorem changes_q (hG : GVQ t K M) (hQ : TQ t K M) (hO : OCQ t r K M) (h91 : K.2 91 r = 2) : RR (bnd (kf_tb_lists t (K.2 97 r) K) fun y => if y = 0 then some (1, K) else kfl_tb_serve_50 t r 0 K) (rf_entryChanges t M) (SV t r K M) := by
  have p4 := GVQ_4 hG
  have hG0 := hG
  obtain ⟨⟨t0, t1⟩, hB, hP, ⟨h25, h25b⟩, -⟩ := hG0
  obtain ⟨hT, hL, -⟩ := hB
  have h51 := hT.2.2.1
  obtain ⟨o1, o2, o3, o4⟩ := hO
  have hQ0 := hQ
  obtain ⟨n1, ⟨n2, n3⟩, n4, n5, n6⟩ := hQ0
  unfold kfl_tb_serve_50 rf_entryChanges
  rw [o2]
  intro y z hy hz
  cases hf : rf_findSame t M with
  | none => rw [hf] at hz; cases hz
  | some f =>
    rw [hf, bnd_some] at hz
    cases hl : kf_tb_lists t (M.2 158 0) K with
    | none => rw [hl] at hy; cases hy
    | some l =>
      rw [hl, bnd_some] at hy
      have lo := fun w hw => lists_q (a := M.2 158 0) t0 t1 hL l w hl hw
      by_cases l0 : l = 0
      · rw [if_pos l0] at hy
        cases hy
        by_cases f0 : f < 0
        · rw [if_pos f0] at hz
          cases hz
          exact SV_0 hQ
        · rw [if_neg f0] at hz
          cases hw : rf_isOf t (M.2 158 0) M with
          | none => rw [hw] at hz; cases hz
          | some w =>
            rw [hw, bnd_some] at hz
            rcases lo w hw with ⟨-, q⟩ | ⟨q, -⟩
            · rw [if_pos q] at hz
              cases hz
              exact SV_0 hQ
            · omega
      · rw [if_neg l0] at hy
        cases hs : kf_tb_same_b103_b104 t r r K with
        | none => rw [hs] at hy; cases hy
        | some s =>
          rw [hs, bnd_some, h91, if_neg (show ¬ (2 : Int) = 1 by decide)] at hy
          unfold kfl_tb_serve_77 kfl_tb_serve_92 at hy
          rcases same_q t0 t1 hT hQ o3 (fun i i0 i1 => (o4 i i0 i1).2.2.1) s f hs hf with ⟨rfl, rfl, -⟩ | ⟨rfl, f0, f1, -⟩
          · rw [if_pos rfl, if_neg (by decide)] at hy
            rw [if_pos (by decide)] at hz
            cases hy
            cases hz
            exact SV_0 hQ
          · rw [if_neg (by omega), if_pos rfl, if_pos rfl, if_pos rfl] at hy
            rw [if_neg (by omega)] at hz
            cases hw : rf_isOf t (M.2 158 0) M with
            | none => rw [hw] at hz; cases hz
            | some w =>
              rw [hw, bnd_some] at hz
              rcases lo w hw with ⟨q, -⟩ | ⟨-, q, a0, a1⟩
              · exact absurd q l0
              · rw [if_neg (by omega)] at hz
                cases hu : rf_putAction t s M with
                | none => rw [hu] at hz; cases hz
                | some u =>
                  rw [hu, bnd_some] at hz
                  cases hz
                  obtain ⟨c1, c2, c3, c4⟩ := hP _ a0 a1
                  obtain ⟨yk, hp⟩ := put_k (K := K) (t := t) (r := r) (e := s) (a := M.2 158 0) o2 a0 (by omega) f0 (by omega) (by omega) (by omega) (fun i i0 i1 => by
                    have := c4 i i0 (by omega)
                    rw [show M.2 158 0 * 4 + i = 4 * M.2 158 0 + i by omega]
                    omega) y hy
                  have hq := put_r (M := M) (t := t) (e := s) (a := M.2 158 0) rfl a0 (by omega) t0 t1 f0 (by omega) (fun i i0 i1 => (o4 i i0 i1).2.2.2) u hu
                  obtain ⟨⟨x1, x2⟩, x3⟩ := putq hG (fun i i0 i1 => (o4 i i0 i1).1) a0 a1 hp hq
                  obtain ⟨-, p2, p3, -, p5⟩ := hp
                  obtain ⟨-, q2, q3, -, q5⟩ := hq
                  have p2 : fr [] [87, 89] K y.2 := p2
                  have q2 : fr [] [141, 144] M u.2 := q2
                  have p3 : y.2.2 89 = upI (K.2 89) (65536 * t + s) (M.2 158 0) := p3
                  have q3 : u.2.2 141 = upI (M.2 141) (96 * t + s) (M.2 158 0) := q3
                  have p5 : ∀ j, j < 65536 * t + s * 4 ∨ 65536 * t + (s * 4 + 4) ≤ j → y.2.2 87 j = K.2 87 j := p5
                  have q5 : ∀ j, j < 4 * (96 * t + s) ∨ 4 * (96 * t + s) + 4 ≤ j → u.2.2 144 j = M.2 144 j := q5
                  have fK : fr [] svF K y.2 := fr_s p2 fr_0 rfl rfl
                  have fM : fr [] svG M u.2 := fr_s q2 fr_0 rfl rfl
                  have e139 : u.2.2 139 = M.2 139 := fr2 q2 139 rfl
                  refine ⟨by rw [yk]; exact (if_neg (show ¬ (1 : Int) = 0 by decide)).symm, ⟨?_, ?_, ?_, fun x xx0 xx1 => ?_, fun e f e0 e1 f1 => ?_⟩, fK, fM, ⟨fun x hx => ?_, fun j hj => ?_, fun j hj => ?_⟩, ⟨fun x hx => ?_, fun j hj => ?_, fun j hj => ?_⟩⟩
                  · show y.2.2 78 t = u.2.2 139 t
                    rw [e139, show y.2.2 78 = K.2 78 from fr2 p2 78 rfl]
                    exact n1
                  · show 0 ≤ u.2.2 139 t ∧ u.2.2 139 t ≤ 72
                    rw [e139]
                    exact ⟨n2, n3⟩
                  · show u.2.2 58 t = 0 → u.2.2 139 t ≤ u.2.2 54 t
                    rw [e139, show u.2.2 58 = M.2 58 from fr2 q2 58 rfl, show u.2.2 54 = M.2 54 from fr2 q2 54 rfl]
                    exact n4
                  · have xx1 : x < u.2.2 139 t := xx1
                    rw [e139] at xx1
                    by_cases e : x = s
                    · subst e
                      obtain ⟨r1, r2, r3, r4, r5⟩ := n5 x xx0 xx1
                      show TR2 t x x y.2 u.2
                      unfold TR2
                      rw [show y.2.2 85 = K.2 85 from fr2 p2 85 rfl, show y.2.2 86 = K.2 86 from fr2 p2 86 rfl, show y.2.2 88 = K.2 88 from fr2 p2 88 rfl, show u.2.2 51 = M.2 51 from fr2 q2 51 rfl, show u.2.2 142 = M.2 142 from fr2 q2 142 rfl, show u.2.2 143 = M.2 143 from fr2 q2 143 rfl, show u.2.2 140 = M.2 140 from fr2 q2 140 rfl, show u.2.2 46 = M.2 46 from fr2 q2 46 rfl, show u.2.2 49 = M.2 49 from fr2 q2 49 rfl, show u.2.1 25 = M.1 25 from fr1 q2 25 rfl, x1, x2]
                      exact ⟨r1, r2, rfl, ⟨a0, a1⟩, x3⟩
                    · refine TR2_s (n5 x xx0 xx1) fM p4 h51 (fun i i0 i1 => ?_) ?_ ?_ (fun i i0 i1 => ?_) ?_ ?_
                      · show y.2.2 85 _ = _ ∧ y.2.2 86 _ = _ ∧ y.2.2 87 _ = _
                        rw [show y.2.2 85 = K.2 85 from fr2 p2 85 rfl, show y.2.2 86 = K.2 86 from fr2 p2 86 rfl]
                        exact ⟨rfl, rfl, p5 _ (by omega)⟩
                      · show y.2.2 88 _ = _
                        rw [show y.2.2 88 = K.2 88 from fr2 p2 88 rfl]
                      · show y.2.2 89 _ = _
                        rw [p3, upI_n (by omega)]
                      · show u.2.2 142 _ = _ ∧ u.2.2 143 _ = _ ∧ u.2.2 144 _ = _
                        rw [show u.2.2 142 = M.2 142 from fr2 q2 142 rfl, show u.2.2 143 = M.2 143 from fr2 q2 143 rfl]
                        exact ⟨rfl, rfl, q5 _ (by omega)⟩
                      · show u.2.2 140 _ = _
                        rw [show u.2.2 140 = M.2 140 from fr2 q2 140 rfl]
                      · show u.2.2 141 _ = _
                        rw [q3, upI_n (by omega)]
                  · have f1 : f < u.2.2 139 t := f1
                    rw [e139] at f1
                    obtain ⟨i, i0, i1, i2⟩ := n6 e f e0 e1 f1
                    refine ⟨i, i0, by show i < u.2.2 51 t; rw [show u.2.2 51 = M.2 51 from fr2 q2 51 rfl]; exact i1, ?_⟩
                    show ¬ (u.2.2 142 _ = u.2.2 142 _ ∧ u.2.2 143 _ = u.2.2 143 _)
                    rw [show u.2.2 142 = M.2 142 from fr2 q2 142 rfl, show u.2.2 143 = M.2 143 from fr2 q2 143 rfl]
                    exact i2
                  · show y.2.2 78 x = _
                    rw [show y.2.2 78 = K.2 78 from fr2 p2 78 rfl]
                  · show y.2.2 85 j = _ ∧ y.2.2 86 j = _ ∧ y.2.2 87 j = _ ∧ y.2.2 88 j = _ ∧ y.2.2 89 j = _
                    rw [show y.2.2 85 = K.2 85 from fr2 p2 85 rfl, show y.2.2 86 = K.2 86 from fr2 p2 86 rfl, show y.2.2 88 = K.2 88 from fr2 p2 88 rfl, p3]
                    exact ⟨rfl, rfl, p5 j (by omega), rfl, upI_n (by omega)⟩
                  · show y.2.2 103 j = _ ∧ y.2.2 104 j = _
                    rw [show y.2.2 103 = K.2 103 from fr2 p2 103 rfl, show y.2.2 104 = K.2 104 from fr2 p2 104 rfl]
                    exact ⟨rfl, rfl⟩
                  · show u.2.2 139 x = _
                    rw [e139]
                  · show u.2.2 140 j = _ ∧ u.2.2 141 j = _
                    rw [show u.2.2 140 = M.2 140 from fr2 q2 140 rfl, q3]
                    exact ⟨rfl, upI_n (by omega)⟩
                  · show u.2.2 142 j = _ ∧ u.2.2 143 j = _ ∧ u.2.2 144 j = _
                    rw [show u.2.2 142 = M.2 142 from fr2 q2 142 rfl, show u.2.2 143 = M.2 143 from fr2 q2 143 rfl]
                    exact ⟨rfl, rfl, q5 j (by omega)⟩
end TQ6
