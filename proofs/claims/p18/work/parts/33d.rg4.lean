/-! ===== statements, kind by kind ===== -/
def CF (u t n : Int) (K M : mR) : Prop := K.2 45 n = u ∧ K.2 46 n = -1 ∧ K.2 47 n = -1 ∧ K.2 49 n = -1 ∧ K.2 51 n = -1 ∧ M.2 101 n = t
section KND
variable {K M : mR} {n v1 x : Int}
/-- a place = an EXPR -/
theorem put_s (h : DX n K M) (hc : CF 61 1 n K M) (hv : v1 = M.1 64) (hx : x ≤ M.1 8) : RR (kfl_rd_statement_48 v1 61 n K) (bnd (rf_takePlace M) fun y50 => rfl_takeStatement_42 n n y50.1 y50.2) (GV (fun a K2 _ M2 => a = n ∧ SG1 n (x + 1) K2 M2)) := by
  obtain ⟨q1, q2, q3, q4, q5, q6⟩ := hc
  unfold kfl_rd_statement_48 kfl_rd_statement_61
  rw [if_pos rfl]
  refine RR_sq (A := fun _ => True) (B := fun _ => True) (place_s h.1.1 h.1.2.1) (RP_T _) (RP_T _) (fun z hz => RP_w (u_rfl_takeStatement_42 n n z.1 z.2) (fun w hw => hw.2 hz)) (fun a K1 b M1 hG _ _ => ?_)
  obtain ⟨g1, g2, g3, g4, g5, g6⟩ := hG
  unfold kfl_rd_statement_74 rfl_takeStatement_42
  dsimp only
  rw [if_pos rfl]
  have hD1 : DX n K1 M1 := DX_f h g3 g4 g5 rfl rfl rfl rfl
  have f46 : fr [] [46] K1 (mO K1 [] [(46, upI (K1.2 46) n a)]) := fr_m fr_0 rfl rfl
  have f102 : fr [] [102] M1 (mO M1 [] [(102, upI (M1.2 102) n b)]) := fr_m fr_0 rfl rfl
  have hD2 : DX n (mO K1 [] [(46, upI (K1.2 46) n a)]) (mO M1 [] [(102, upI (M1.2 102) n b)]) := DX_p hD1 (XP_f hD1.1 g3 f46 f102 rfl rfl rfl rfl) ⟨fun _ _ => rfl, fun k hk => upI_n hk, fun _ _ => rfl, fun _ _ => rfl, fun _ _ => rfl, fun _ _ => rfl, fun _ _ => rfl⟩ ⟨fun _ _ => rfl, fun k hk => upI_n hk, fun _ _ => rfl, fun _ _ => rfl, fun _ _ => rfl, fun _ _ => rfl, fun _ _ => rfl, fun _ _ => rfl⟩ rfl f102 rfl rfl
  refine RR_sq (G := fun _ K3 _ M3 => LR K3 M3 ∧ fr kF_tx_expect kA_tx_expect (mO K1 [] [(46, upI (K1.2 46) n a)]) K3 ∧ fr rF_need rA_need (mO M1 [] [(102, upI (M1.2 102) n b)]) M3 ∧ M1.1 8 + 1 ≤ M3.1 8) (A := fun _ => True) (B := fun _ => True) (exp_s hD2.1.1 (c := 61) (by omega)) (RP_T _) (RP_T _) (fun z hz => RP_w (u_rfl_takeStatement_54 n _ z.2) (fun w hw => hw.2 hz)) (fun a3 K3 b3 M3 hG _ _ => ?_)
  obtain ⟨e1, e2, e3, e4⟩ := hG
  have hD3 : DX n K3 M3 := DX_f hD2 e1 e2 e3 rfl rfl rfl rfl
  unfold kfl_rd_statement_89 kfl_rd_statement_162 kfl_rd_statement_175 rfl_takeStatement_54
  dsimp only
  rw [if_neg (by decide), if_neg (by decide), if_pos rfl, if_neg (by decide)]
  have fM3 : fr [7, 8, 9, 10, 11, 12, 100] [102] M M3 := fr_s e3 (fr_s f102 (fr_s g5 fr_0 rfl rfl) rfl rfl) rfl rfl
  have fK3 : fr kF_tx_expect [46] K K3 := fr_s e2 (fr_s f46 (fr_s g4 fr_0 rfl rfl) rfl rfl) rfl rfl
  have k46 : K3.2 46 n = a := by
    have q : K3.2 46 = upI (K1.2 46) n a := fr2 e2 46 rfl
    rw [q, upI_s]
  have m102 : M3.2 102 n = b := by
    have q : M3.2 102 = upI (M1.2 102) n b := fr2 e3 102 rfl
    rw [q, upI_s]
  have pls : PLS (M3.1 20) (M3.1 21) (M3.2 29) (M3.2 34) a b := by
    rw [fr1 fM3 20 rfl, fr1 fM3 21 rfl, fr2 fM3 29 rfl, fr2 fM3 34 rfl]
    exact g1
  rw [k46]
  refine RR_l (slotP_k hD3.1.2.1 pls) (fun w hw => ?_)
  obtain ⟨w0, w1, w2⟩ := hw
  rw [PW_c fM3 rfl, ← g2] at w0
  rw [← w0]
  refine RR_w (wor_s (x := x) hD3 (hv.trans (fr1 fM3 64 rfl).symm) (Or.inl rfl) w2 (by omega)) (fun y z q => ?_)
  rcases q with ⟨r0, r1, r2, r3, r4, r5, r6⟩ | q
  · refine Or.inl ⟨r0, r1, DX_e r2 r6 (Or.inl ⟨?_, ?_, ?_, ?_, ?_, r3⟩)⟩
    · rw [fr2 r5 101 rfl, fr2 fM3 101 rfl]; exact q6
    · rw [fr2 r4 45 rfl, fr2 fK3 45 rfl]; exact q1
    · rw [fr2 r4 46 rfl, fr2 r5 102 rfl, fr1 r5 20 rfl, fr1 r5 21 rfl, fr2 r5 29 rfl, fr2 r5 34 rfl, k46, m102]
      exact pls
    · rw [fr2 r4 47 rfl, fr2 fK3 47 rfl]; exact q3
    · rw [fr2 r4 49 rfl, fr2 fK3 49 rfl]; exact q4
  · exact Or.inr q
/-- an array's name -/
theorem arrn (h : XP K M) {k i : Int} (k0 : 0 ≤ k) (k1 : k < M.1 13) (k2 : M.2 16 k = 4) (k3 : i = M.2 17 k) : 0 ≤ i ∧ i < M.1 22 ∧ K.2 15 i = M.2 36 i ∧ 1 ≤ M.2 36 i ∧ M.2 36 i ≤ 64 := by
  have a := (h.2.1.2.1 k k0 k1).2.2.2.1 k2
  have b := (h.1.2.2.1.2.2.1 k k0 k1).2.2.2.2.2.2.1
  obtain ⟨c1, c2, c3, -⟩ := h.2.2.1 i (by omega) (by omega)
  exact ⟨by omega, by omega, c1, c2, c3⟩
/-- store array [EXPR] EXPR -/
theorem store_s (h : DX n K M) (hc : CF 328 328 n K M) (hv : v1 = M.1 64) (hx : x ≤ M.1 8) : RR (kfl_rd_statement_48 v1 328 n K) (rfl_takeStatement_160 n M) (GV (fun a K2 _ M2 => a = n ∧ SG1 n (x + 1) K2 M2)) := by
  obtain ⟨q1, q2, q3, q4, q5, q6⟩ := hc
  unfold kfl_rd_statement_48 kfl_rd_statement_74 kfl_rd_statement_89 kfl_rd_statement_103 kf_rd_arrayOf rfl_takeStatement_160
  rw [if_neg (by decide), if_neg (by decide), if_neg (by decide), if_neg (by decide), if_pos rfl, bnd_a]
  intro y z hy hz
  cases hk : kf_tx_known 303 K with
  | none => rw [hk] at hy; cases hy
  | some p =>
    cases hm : rf_oldName 4 M with
    | none => rw [hm] at hz; cases hz
    | some w =>
      rw [hk, bnd_some] at hy
      rw [hm, bnd_some] at hz
      rcases known_s h.1.1 (s := 4) (by omega) (by omega) (by omega) p w hk hm with ⟨a1, ⟨a2, k, k0, k1, k2, k3⟩, a3, a4, a5, a6⟩ | ⟨a1, a2⟩
      · obtain ⟨i0, i1, i2, i3, i4⟩ := arrn h.1 k0 k1 k2 k3
        rw [if_pos a1, fr2 a4 46 rfl, if_pos q2, bnd_some, if_pos rfl, a2] at hy
        have hD1 : DX n p.2.2 w.2 := DX_f h a3 a4 a5 rfl rfl rfl rfl
        have f47 : fr [] [47] p.2.2 (mO p.2.2 [] [(47, upI (p.2.2.2 47) n w.1)]) := fr_m fr_0 rfl rfl
        have f103 : fr [] [103] w.2 (mO w.2 [] [(103, upI (w.2.2 103) n w.1)]) := fr_m fr_0 rfl rfl
        have hD2 : DX n (mO p.2.2 [] [(47, upI (p.2.2.2 47) n w.1)]) (mO w.2 [] [(103, upI (w.2.2 103) n w.1)]) := DX_p hD1 (XP_f hD1.1 a3 f47 f103 rfl rfl rfl rfl) ⟨fun _ _ => rfl, fun _ _ => rfl, fun k hk => upI_n hk, fun _ _ => rfl, fun _ _ => rfl, fun _ _ => rfl, fun _ _ => rfl⟩ ⟨fun _ _ => rfl, fun _ _ => rfl, fun k hk => upI_n hk, fun _ _ => rfl, fun _ _ => rfl, fun _ _ => rfl, fun _ _ => rfl, fun _ _ => rfl⟩ rfl f103 rfl rfl
        unfold rfl_takeStatement_170 at hz
        refine (ind_s (v1 := v1) (k1 := fun m => kfl_rd_statement_162 v1 328 n m) (l := fun m => rfl_takeStatement_176 n m) (G' := fun a K2 _ M2 => a = n ∧ SG1 n (x + 1) K2 M2) hD2 (hv.trans (fr1 a5 64 rfl).symm) (fun m hm => RP_w (u_rfl_takeStatement_176 n m) (fun w hw => hw.2 hm)) (fun K3 M3 hD3 hE fK3 fM3 h8 => ?_)) y z hy hz
        unfold kfl_rd_statement_162 kfl_rd_statement_175 rfl_takeStatement_176
        rw [if_neg (by decide), if_pos rfl, if_pos rfl, if_pos hD3.1.1.2.2.2.2]
        have k47 : K3.2 47 n = w.1 := by
          have q : K3.2 47 = upI (p.2.2.2 47) n w.1 := fr2 fK3 47 rfl
          rw [q, upI_s]
        have m103 : M3.2 103 n = w.1 := by
          have q : M3.2 103 = upI (w.2.2 103) n w.1 := fr2 fM3 103 rfl
          rw [q, upI_s]
        have k15 : K3.2 15 = K.2 15 := (fr2 fK3 15 rfl).trans (fr2 a4 15 rfl)
        have m36 : M3.2 36 = M.2 36 := (fr2 fM3 36 rfl).trans (fr2 a5 36 rfl)
        have m22 : M3.1 22 = M.1 22 := (fr1 fM3 22 rfl).trans (fr1 a5 22 rfl)
        rw [k47, m103, k15, m36, i2]
        have e64 : v1 = M3.1 64 := hv.trans ((fr1 a5 64 rfl).symm.trans (fr1 fM3 64 rfl).symm)
        have h8 : w.2.1 8 + 1 ≤ M3.1 8 := h8
        refine RR_w (wor_s (x := x) hD3 e64 (Or.inr rfl) i4 (by omega)) (fun y z q => ?_)
        rcases q with ⟨r0, r1, r2, r3, r4, r5, r6⟩ | q
        · refine Or.inl ⟨r0, r1, DX_e r2 r6 (Or.inr (Or.inr (Or.inl ⟨?_, ?_, ?_, ⟨?_, ?_, ?_⟩, ?_, r3⟩)))⟩
          · rw [fr2 r5 101 rfl, fr2 fM3 101 rfl]
            show w.2.2 101 n = _
            rw [fr2 a5 101 rfl]; exact q6
          · rw [fr2 r4 45 rfl, fr2 fK3 45 rfl]
            show p.2.2.2 45 n = _
            rw [fr2 a4 45 rfl]; exact q1
          · rw [fr2 r4 46 rfl, fr2 fK3 46 rfl]
            show p.2.2.2 46 n = _
            rw [fr2 a4 46 rfl]; exact q2
          · rw [fr2 r4 47 rfl, fr2 r5 103 rfl, k47, m103]
          · rw [fr2 r5 103 rfl, m103]; exact i0
          · rw [fr2 r5 103 rfl, m103, fr1 r5 22 rfl, m22]; exact i1
          · rw [fr2 r4 48 rfl, fr2 r4 49 rfl, fr2 r5 105 rfl, fr2 r5 106 rfl]
            exact hE
        · exact Or.inr q
      · rw [if_neg a1, bnd_some, if_neg a1] at hy
        cases hy
        exact Or.inr ⟨a1, (u_rfl_takeStatement_170 n n w.1 w.2 z hz).2 a2⟩
/-- load place array [EXPR] -/
theorem load_s (h : DX n K M) (hc : CF 327 327 n K M) (hv : v1 = M.1 64) (hx : x ≤ M.1 8) : RR (kfl_rd_statement_48 v1 327 n K) (rfl_takeStatement_77 n M) (GV (fun a K2 _ M2 => a = n ∧ SG1 n (x + 1) K2 M2)) := by
  obtain ⟨q1, q2, q3, q4, q5, q6⟩ := hc
  unfold kfl_rd_statement_48 kfl_rd_statement_61 rfl_takeStatement_77
  rw [if_neg (by decide), if_pos rfl]
  refine RR_sq (A := fun _ => True) (B := fun _ => True) (place_s h.1.1 h.1.2.1) (RP_T _) (RP_T _) (fun z hz => RP_w (u_rfl_takeStatement_86 n n z.1 z.2) (fun w hw => hw.2 hz)) (fun a K1 b M1 hG _ _ => ?_)
  obtain ⟨g1, g2, g3, g4, g5, g6⟩ := hG
  unfold kfl_rd_statement_74 kfl_rd_statement_89 kfl_rd_statement_103 kf_rd_arrayOf rfl_takeStatement_86
  dsimp only
  rw [if_neg (by decide), if_pos rfl, bnd_a]
  have hD1 : DX n K1 M1 := DX_f h g3 g4 g5 rfl rfl rfl rfl
  have f46 : fr [] [46] K1 (mO K1 [] [(46, upI (K1.2 46) n a)]) := fr_m fr_0 rfl rfl
  have f102 : fr [] [102] M1 (mO M1 [] [(102, upI (M1.2 102) n b)]) := fr_m fr_0 rfl rfl
  have hD2 : DX n (mO K1 [] [(46, upI (K1.2 46) n a)]) (mO M1 [] [(102, upI (M1.2 102) n b)]) := DX_p hD1 (XP_f hD1.1 g3 f46 f102 rfl rfl rfl rfl) ⟨fun _ _ => rfl, fun k hk => upI_n hk, fun _ _ => rfl, fun _ _ => rfl, fun _ _ => rfl, fun _ _ => rfl, fun _ _ => rfl⟩ ⟨fun _ _ => rfl, fun k hk => upI_n hk, fun _ _ => rfl, fun _ _ => rfl, fun _ _ => rfl, fun _ _ => rfl, fun _ _ => rfl, fun _ _ => rfl⟩ rfl f102 rfl rfl
  have eK : ∃ K2, K2 = (mO K1 [] [(46, upI (K1.2 46) n a)]) := ⟨_, rfl⟩
  obtain ⟨K2, eK⟩ := eK
  have eM : ∃ M2, M2 = (mO M1 [] [(102, upI (M1.2 102) n b)]) := ⟨_, rfl⟩
  obtain ⟨M2, eM⟩ := eM
  have fK2 : fr kF_tx_advance [46] K K2 := by rw [eK]; exact fr_s f46 (fr_s g4 fr_0 rfl rfl) rfl rfl
  have fM2 : fr [7, 8, 9, 10, 11, 12, 100] [102] M M2 := by rw [eM]; exact fr_s f102 (fr_s g5 fr_0 rfl rfl) rfl rfl
  have k46 : K2.2 46 n = a := by rw [eK]; exact upI_s
  have m102 : M2.2 102 n = b := by rw [eM]; exact upI_s
  have m100 : M2.1 100 = PW M b := by rw [eM]; exact g2
  have m8 : M.1 8 + 1 ≤ M2.1 8 := by rw [eM]; exact g6
  rw [← eK, ← eM] at hD2
  rw [← eK, ← eM]
  clear eK eM
  intro y z hy hz
  cases hk : kf_tx_known 303 K2 with
  | none => rw [hk] at hy; cases hy
  | some p =>
    cases hm : rf_oldName 4 M2 with
    | none => rw [hm] at hz; cases hz
    | some w =>
      rw [hk, bnd_some] at hy
      rw [hm, bnd_some] at hz
      rcases known_s hD2.1.1 (s := 4) (by omega) (by omega) (by omega) p w hk hm with ⟨a1, ⟨a2, k, k0, k1, k2, k3⟩, a3, a4, a5, a6⟩ | ⟨a1, a2⟩
      · obtain ⟨i0, i1, i2, i3, i4⟩ := arrn hD2.1 k0 k1 k2 k3
        have a46 : p.2.2.2 46 n = a := by rw [fr2 a4 46 rfl]; exact k46
        have apos : a ≠ -1 := by
          rcases g1 with ⟨b0, b1, b2, b3⟩ | ⟨b0, b1, b2, b3⟩
          · omega
          · omega
        have hD3 : DX n p.2.2 w.2 := DX_f hD2 a3 a4 a5 rfl rfl rfl rfl
        have f47 : fr [] [47] p.2.2 (mO p.2.2 [] [(47, upI (p.2.2.2 47) n w.1)]) := fr_m fr_0 rfl rfl
        have f103 : fr [] [103] w.2 (mO w.2 [] [(103, upI (w.2.2 103) n w.1)]) := fr_m fr_0 rfl rfl
        have hX4 : XP (mO p.2.2 [] [(47, upI (p.2.2.2 47) n w.1)]) (mO w.2 [] [(103, upI (w.2.2 103) n w.1)]) := XP_f hD3.1 a3 f47 f103 rfl rfl rfl rfl
        have hD4 : DX n (mO p.2.2 [] [(47, upI (p.2.2.2 47) n w.1)]) (mO w.2 [] [(103, upI (w.2.2 103) n w.1)]) := DX_p hD3 hX4 ⟨fun _ _ => rfl, fun _ _ => rfl, fun k hk => upI_n hk, fun _ _ => rfl, fun _ _ => rfl, fun _ _ => rfl, fun _ _ => rfl⟩ ⟨fun _ _ => rfl, fun _ _ => rfl, fun k hk => upI_n hk, fun _ _ => rfl, fun _ _ => rfl, fun _ _ => rfl, fun _ _ => rfl, fun _ _ => rfl⟩ rfl f103 rfl rfl
        have fMw : fr [7, 8, 9, 10, 11, 12, 100] [102] M w.2 := fr_s a5 (fr_s fM2 fr_0 rfl rfl) rfl rfl
        have pls : PLS (w.2.1 20) (w.2.1 21) (w.2.2 29) (w.2.2 34) a b := by
          rw [fr1 fMw 20 rfl, fr1 fMw 21 rfl, fr2 fMw 29 rfl, fr2 fMw 34 rfl]
          exact g1
        rw [if_pos a1, a46, if_neg apos, bnd_a, a2] at hy
        cases hsw : kf_pr_slotWidth a (mO p.2.2 [] [(47, upI (p.2.2.2 47) n w.1)]) with
        | none => rw [hsw] at hy; cases hy
        | some sw =>
          rw [hsw, bnd_some] at hy
          obtain ⟨s1, s2, s3⟩ := slotP_k (M := mO w.2 [] [(103, upI (w.2.2 103) n w.1)]) hX4.2.1 pls sw hsw
          have s1 : sw = PW w.2 b := s1
          rw [PW_c fMw rfl] at s1
          have w100 : w.2.1 100 = PW M b := (fr1 a5 100 rfl).trans m100
          have e15 : p.2.2.2 15 w.1 = w.2.2 36 w.1 := by
            rw [fr2 a4 15 rfl, fr2 a5 36 rfl]
            exact i2
          unfold rfl_takeStatement_102 rfl_takeStatement_134 at hz
          rw [if_pos a3.2.2.2.2, show upI (w.2.2 103) n w.1 n = w.1 from upI_s, ← e15] at hz
          by_cases hq : p.2.2.2 15 w.1 = w.2.1 100
          · rw [if_pos hq] at hz
            rw [if_pos (by omega), bnd_some, if_pos rfl] at hy
            cases hwt : rf_want 1 (M1.1 8) (mO w.2 [] [(103, upI (w.2.2 103) n w.1)]) with
            | none => rw [hwt] at hz; cases hz
            | some q =>
              rw [hwt, bnd_some] at hz
              rcases want_r q hwt with ⟨-, t2⟩ | ⟨t1, -⟩
              · rw [t2] at hz
                unfold rfl_takeStatement_138 at hz
                refine (ind_s (v1 := v1) (k1 := fun m => kfl_rd_statement_162 v1 327 n m) (l := fun m => rfl_takeStatement_229 m) (G' := fun a K2 _ M2 => a = n ∧ SG1 n (x + 1) K2 M2) hD4 (hv.trans (fr1 fMw 64 rfl).symm) (fun m hm => RP_w (u_rfl_takeStatement_229 m) (fun w hw => hw.2 hm)) (fun K3 M3 hD3 hE fK3 fM3 h8 => ?_)) y z hy hz
                have e162 : kfl_rd_statement_162 v1 327 n K3 = kfl_rd_statement_333 n K3 := by
                  unfold kfl_rd_statement_162 kfl_rd_statement_278 kfl_rd_statement_314
                  rw [if_neg (by decide), if_neg (by decide), if_neg (by decide), if_neg (by decide), if_neg (by decide)]
                show RR (kfl_rd_statement_162 v1 327 n K3) _ _
                rw [e162]
                have h8 : w.2.1 8 + 1 ≤ M3.1 8 := h8
                refine RR_w (st333_s (x := x) hD3 (by omega)) (fun y z q => ?_)
                have k47 : K3.2 47 n = w.1 := by
                  have q : K3.2 47 = upI (p.2.2.2 47) n w.1 := fr2 fK3 47 rfl
                  rw [q, upI_s]
                have m103 : M3.2 103 n = w.1 := by
                  have q : M3.2 103 = upI (w.2.2 103) n w.1 := fr2 fM3 103 rfl
                  rw [q, upI_s]
                rcases q with ⟨r0, r1, r2, r4, r5, r6⟩ | q
                · refine Or.inl ⟨r0, r1, DX_e r2 r6 (Or.inr (Or.inl ⟨?_, ?_, ?_, ⟨?_, ?_, ?_⟩, ?_, ?_⟩))⟩
                  · rw [fr2 r5 101 rfl, fr2 fM3 101 rfl]
                    show w.2.2 101 n = _
                    rw [fr2 fMw 101 rfl]; exact q6
                  · rw [fr2 r4 45 rfl, fr2 fK3 45 rfl]
                    show p.2.2.2 45 n = _
                    rw [fr2 a4 45 rfl, fr2 fK2 45 rfl]; exact q1
                  · rw [fr2 r4 46 rfl, fr2 fK3 46 rfl, fr2 r5 102 rfl, fr2 fM3 102 rfl, fr1 r5 20 rfl, fr1 r5 21 rfl, fr2 r5 29 rfl, fr2 r5 34 rfl, fr1 fM3 20 rfl, fr1 fM3 21 rfl, fr2 fM3 29 rfl, fr2 fM3 34 rfl]
                    show PLS (w.2.1 20) (w.2.1 21) (w.2.2 29) (w.2.2 34) (p.2.2.2 46 n) (w.2.2 102 n)
                    rw [a46, fr2 a5 102 rfl, m102]
                    exact pls
                  · rw [fr2 r4 47 rfl, fr2 r5 103 rfl, k47, m103]
                  · rw [fr2 r5 103 rfl, m103]; exact i0
                  · rw [fr2 r5 103 rfl, m103, fr1 r5 22 rfl, fr1 fM3 22 rfl]
                    show w.1 < w.2.1 22
                    rw [fr1 a5 22 rfl]
                    exact i1
                  · rw [fr2 r4 48 rfl, fr2 r4 49 rfl, fr2 r5 105 rfl, fr2 r5 106 rfl]
                    exact hE
                  · rw [fr2 r4 51 rfl, fr2 fK3 51 rfl]
                    show p.2.2.2 51 n = _
                    rw [fr2 a4 51 rfl, fr2 fK2 51 rfl]; exact q5
                · exact Or.inr q
              · exact absurd t1 (by decide)
          · rw [if_neg hq] at hz
            rw [if_neg (by omega), bnd_a] at hy
            refine Or.inr ⟨?_, ?_⟩
            · refine RP_e (P := fun y : Int × Int × mR => y.1 ≠ 0) hy (RP_bnd (fail_1 _ _ _) (fun q hq => ?_))
              rw [if_neg hq, bnd_some, if_neg hq]
              exact RP_some hq
            · refine RP_e (P := fun z : Int × mR => 0 < z.2.1 10) hz (RP_bnd want_r (fun q hq => ?_))
              rcases hq with ⟨t1, -⟩ | ⟨-, t2⟩
              · exact absurd rfl t1
              · exact RP_w (u_rfl_takeStatement_138 n q.2) (fun w hw => hw.2 t2)
      · rw [if_neg a1, bnd_some, if_neg a1] at hy
        cases hy
        exact Or.inr ⟨a1, (u_rfl_takeStatement_102 n (M1.1 8) n w.1 w.2 z hz).2 a2⟩
end KND
