def fF_op_apply : List Nat := []
def fA_op_apply : List Nat := [25, 71, 101, 103, 105]
def Q_op_apply (m : mR) (c : Nat → Option am_C) (N : Nat) (u : Int) (t : Int) : ag_Re af_T → Prop := fun R => (∃ (M : mR) (r : Int), KTy M ∧ fr fF_op_apply fA_op_apply m M ∧ (0 ≤ r ∧ r ≤ 15) ∧ R = (.inl (some (.int (i32 r))), (khp M c, N), 0, 0))
set_option maxHeartbeats 3000000 in
theorem c_op_apply (w : wX) (m : mR) (c : Nat → Option am_C) (N D : Nat) (hD : 4 ≤ D) (hT : KTy m) (u : Int) (t : Int) (qu : R32 u) (qt : R32 t) (pOKu : OKr m u) (hNK : NKp (m.2 18) (m.2 19)) (hDE : DEp (m.1 224) (m.2 45) (m.2 46) (m.2 47) (m.2 49)) (hAC : AcP (m.1 223) (m.1 224) (m.2 43) (m.2 44)) (hTD : LTp (m.1 219) (m.2 74) (m.1 223)) (hTC : TCp (m.1 219) (m.2 78) (m.2 89) (m.1 223)) (p6 : 0 ≤ t ∧ t < (m.1 219)) : TC w D 195 [.ref (obq (m.2 107) u), .ref 12, .ref (tbr t), .ref 188] (khp m c, N) (Q_op_apply m c N u t) := by
  obtain ⟨D, rfl⟩ : ∃ k, D = k + 1 := ⟨D - 1, by omega⟩
  obtain ⟨qua, qub⟩ := id qu
  obtain ⟨qta, qtb⟩ := id qt
  have f219 : 0 ≤ m.1 219 ∧ m.1 219 ≤ 8 := hT.1 219
  have f223 : 0 ≤ m.1 223 ∧ m.1 223 ≤ 16 := hT.1 223
  have f224 : 0 ≤ m.1 224 ∧ m.1 224 ≤ 240 := hT.1 224
  refine Tc_of rfl ?_
  rw [show (khp m c, N) = (khp (mO m [] []) c, N) from by rw [mO_nil m]]
  show TT w D pm_195 (0, [(0, .ref (obq (m.2 107) u)), (1, .ref 12), (2, .ref (tbr t)), (3, .ref 188)], [], (khp (mO m [] []) c, N), 0, 0) (Q_op_apply m c N u t)
  refine T_ld 1 (.int (i32 0)) rfl (fun _ => rfl) ?_
  refine T_sto 3 [(4, .int (i32 0)), (0, .ref (obq (m.2 107) u)), (1, .ref 12), (2, .ref (tbr t)), (3, .ref 188)] rfl (fun _ => rfl) ?_
  have L3_3 : ∀ (n9 : Nat) (v1 : Int) (m2 : mR), (R32 v1) → KTy m2 → fr [] [25, 103] (mO m [] []) m2 → (0 ≤ v1) → (0 ≤ v1 ∧ v1 ≤ 4) → 10 - v1 < (n9 : Int) → TT w D pm_195 (3, [(0, .ref (obq (m.2 107) u)), (1, .ref 12), (2, .ref (tbr t)), (3, .ref 188), (4, .int (i32 v1))], [], (khp (mO m2 [] []) c, N), 0, 0) (Q_op_apply m c N u t) := by
    intro n9
    induction n9 with
    | zero =>
      intro v1 m2 q6 Tm2 Fm2 ic4 ic5 hmu
      obtain ⟨q6a, q6b⟩ := id q6
      exfalso
      omega
    | succ n9 ih =>
      intro v1 m2 q6 Tm2 Fm2 ic4 ic5 hmu
      obtain ⟨q6a, q6b⟩ := id q6
      have ih10 := ih
      refine T_ld 5 (.int (i32 v1)) rfl (fun _ => rfl) ?_
      refine T_ld 6 (.ref (tbr t)) rfl (fun _ => rfl) ?_
      refine K_gfi 9 72 (m.2 72) rfl rfl (by omega) (by omega) (show (m2.2 72) = (m.2 72) from (fr2 Fm2 72 rfl)) rfl ?_
      have e11 : 0 ≤ m.2 72 t ∧ m.2 72 t ≤ 4 := hT.2.1 72 t
      refine T_icmp 54 12 rfl rfl rfl (r32 (by omega) (by omega)) (r32 (by omega) (by omega)) (fun (h12 : (m.2 72) t ≤ v1) => ?_) (fun (h12 : ¬ ((m.2 72) t ≤ v1)) => ?_)
      · skip
        refine T_ld 55 (.ref (tbr t)) rfl (fun _ => rfl) ?_
        refine T_ld 56 (.ref (obq (m.2 107) u)) rfl (fun _ => rfl) ?_
        refine K_gor 59 rfl rfl (OKr_c (show (m2.2 107) = (m.2 107) from (fr2 Fm2 107 rfl)) (show (m2.2 108) = (m.2 108) from (fr2 Fm2 108 rfl)) pOKu) (congrArg (fun f : Int → Int => (f u).toNat) (show (m2.2 107) = (m.2 107) from (fr2 Fm2 107 rfl))) rfl ?_
        refine T_callx 62 196 [.ref (tbr t), .ref (obq (m.2 107) u + (3 + 1))] [] rfl (inv_vt (args := [.ref (obq (m.2 107) u + (3 + 1))]) (khp_t0 _ (by omega) (by omega)) rfl rfl rfl) rfl rfl (TC_cast (fun g9 => [.ref (tbr t), .ref (obq g9 u + (3 + 1))]) (show (m2.2 107) = (m.2 107) from (fr2 Fm2 107 rfl)) (c_tb_match w (mO m2 [] []) c N D (by omega) Tm2 t u (r32 (by omega) (by omega)) (r32 (by omega) (by omega)) (show 0 ≤ t ∧ t ≤ 7 by omega) (OKr_c (show (m2.2 107) = (m.2 107) from (fr2 Fm2 107 rfl)) (show (m2.2 108) = (m.2 108) from (fr2 Fm2 108 rfl)) pOKu))) (fun rr13 k14 => ?_)
        obtain ⟨x15, g16, h17, rfl⟩ := k14
        refine Or.inl ⟨_, _, _, _, rfl, ?_⟩
        refine T_ns (st' := [.int (i32 x15)]) rfl ?_
        obtain ⟨g16a, g16b⟩ := g16
        replace h17 : x15 < (m2.2 78) t := h17
        rewrite [(show (m2.2 78) = (m.2 78) from (fr2 Fm2 78 rfl))] at h17
        refine T_sto 64 [(4, .int (i32 x15)), (0, .ref (obq (m.2 107) u)), (1, .ref 12), (2, .ref (tbr t)), (3, .ref 188)] rfl (fun _ => rfl) ?_
        refine T_ld 66 (.int (i32 x15)) rfl (fun _ => rfl) ?_
        refine T_ld 67 (.int (i32 (-1))) rfl (fun _ => rfl) ?_
        refine T_icmp 74 70 rfl rfl rfl (r32 (by omega) (by omega)) ⟨by decide, by decide⟩ (fun (h18 : x15 = (-1)) => ?_) (fun (h18 : ¬ (x15 = (-1))) => ?_)
        · skip
          refine T_ld 75 (.int (i32 0)) rfl (fun _ => rfl) ?_
          refine T_sto 77 [(5, .int (i32 0)), (4, .int (i32 x15)), (0, .ref (obq (m.2 107) u)), (1, .ref 12), (2, .ref (tbr t)), (3, .ref 188)] rfl (fun _ => rfl) ?_
          refine T_ld 79 (.int (i32 0)) rfl (fun _ => rfl) ?_
          refine T_if 92 82 rfl rfl rfl ⟨by decide, by decide⟩ (fun _ => ?_) (fun h19 => absurd (show (0 : Int) = 0 by decide) h19)
          refine T_ld 93 (.ref (tbr t)) rfl (fun _ => rfl) ?_
          refine K_gfi 96 74 (m.2 74) rfl rfl (by omega) (by omega) (show (m2.2 74) = (m.2 74) from (fr2 Fm2 74 rfl)) rfl ?_
          have e20 : 0 ≤ m.2 74 t ∧ m.2 74 t ≤ 15 := hT.2.1 74 t
          have hld := hTD t (by omega) (by omega)
          refine T_sto 98 [(6, .int (i32 ((m.2 74) t))), (5, .int (i32 0)), (4, .int (i32 x15)), (0, .ref (obq (m.2 107) u)), (1, .ref 12), (2, .ref (tbr t)), (3, .ref 188)] rfl (fun _ => rfl) ?_
          refine T_ld 100 (.int (i32 0)) rfl (fun _ => rfl) ?_
          refine T_if 110 103 rfl rfl rfl ⟨by decide, by decide⟩ (fun _ => ?_) (fun h21 => absurd (show (0 : Int) = 0 by decide) h21)
          refine T_ld 111 (.int (i32 0)) rfl (fun _ => rfl) ?_
          refine T_sto 113 [(7, .int (i32 0)), (6, .int (i32 ((m.2 74) t))), (5, .int (i32 0)), (4, .int (i32 x15)), (0, .ref (obq (m.2 107) u)), (1, .ref 12), (2, .ref (tbr t)), (3, .ref 188)] rfl (fun _ => rfl) ?_
          refine T_ld 115 (.int (i32 0)) rfl (fun _ => rfl) ?_
          refine T_if 125 118 rfl rfl rfl ⟨by decide, by decide⟩ (fun _ => ?_) (fun h22 => absurd (show (0 : Int) = 0 by decide) h22)
          refine T_ld 126 (.ref (tbr t)) rfl (fun _ => rfl) ?_
          refine K_gfr 129 rfl rfl (by omega) (by omega) rfl ?_
          refine T_ld 131 (.int (i32 0)) rfl (fun _ => rfl) ?_
          refine T_ld 132 (.ref (obq (m.2 107) u)) rfl (fun _ => rfl) ?_
          refine K_gor 135 rfl rfl (OKr_c (show (m2.2 107) = (m.2 107) from (fr2 Fm2 107 rfl)) (show (m2.2 108) = (m.2 108) from (fr2 Fm2 108 rfl)) pOKu) (congrArg (fun f : Int → Int => (f u).toNat) (show (m2.2 107) = (m.2 107) from (fr2 Fm2 107 rfl))) rfl ?_
          refine T_ld 136 (.int (i32 0)) rfl (fun _ => rfl) ?_
          refine T_ld 137 (.int (i32 4)) rfl (fun _ => rfl) ?_
          obtain ⟨F23, h24, h25⟩ := src_t (c := c) (mO m2 [] []) (i := 5) (t := t) (sp := 0) (n := 4) rfl (by omega) (by omega) (by omega) (by omega)
          have G26 : ∀ j, (-9223372036854775808) ≤ (cpI (m.2 84) (m.2 105) ((65536 * t) + 0) (65536 * u + 0) 4) j ∧ (cpI (m.2 84) (m.2 105) ((65536 * t) + 0) (65536 * u + 0) 4) j ≤ 9223372036854775807 := cpI_rg (hT.2.1 84) (hT.2.1 105)
          refine K_cpl (a' := [(105, cpI (m.2 84) (m.2 105) ((65536 * t) + 0) (65536 * u + 0) 4)]) 140 5 (m.2 84) (m.2 105) (65536 * t) (sp := 0) (dp := 0) (n := 4) rfl rfl rfl rfl h24 (fun j hj => (h25 j hj).trans (congrArg (fun F : Int → Int => i64 (F ((65536 * t) + 0 + (j : Int)))) (show (m2.2 84) = (m.2 84) from (fr2 Fm2 84 rfl)))) (OKr_c (show (m2.2 107) = (m.2 107) from (fr2 Fm2 107 rfl)) (show (m2.2 108) = (m.2 108) from (fr2 Fm2 108 rfl)) pOKu) (show KTy (mO m2 [] []) from Tm2).2.2.1 (congrArg (fun f : Int → Int => (f u).toNat) (show (m2.2 107) = (m.2 107) from (fr2 Fm2 107 rfl))) (by omega) (by omega) (by omega) (show 0 + 4 ≤ ((4 : Nat) : Int) by omega) (show 0 + 4 ≤ (4 : Int) by omega) (by decide) (show (m2.2 105) = (m.2 105) from (fr2 Fm2 105 rfl)) rfl ?_
          refine T_ld 141 (.ref 12) rfl (fun _ => rfl) ?_
          refine K_gf 144 (.ref 45) rfl rfl kd_12 rfl rfl rfl ?_
          refine T_sto 146 [(8, .ref 45), (7, .int (i32 0)), (6, .int (i32 ((m.2 74) t))), (5, .int (i32 0)), (4, .int (i32 x15)), (0, .ref (obq (m.2 107) u)), (1, .ref 12), (2, .ref (tbr t)), (3, .ref 188)] rfl (fun _ => rfl) ?_
          refine T_ld 147 (.int (i32 0)) rfl (fun _ => rfl) ?_
          refine T_sto 149 [(9, .int (i32 0)), (8, .ref 45), (7, .int (i32 0)), (6, .int (i32 ((m.2 74) t))), (5, .int (i32 0)), (4, .int (i32 x15)), (0, .ref (obq (m.2 107) u)), (1, .ref 12), (2, .ref (tbr t)), (3, .ref 188)] rfl (fun _ => rfl) ?_
          refine K_fl (KTy_mO Tm2 rfl rfl trivial ⟨G26, trivial⟩) (fun m27 Tm27 Fm27 => ?_)
          have L149_30 : ∀ (n36 : Nat) (v28 : Int) (m29 : mR), (R32 v28) → KTy m29 → fr [] [25, 71, 101] (mO m27 [] []) m29 → (0 ≤ v28) → (0 ≤ v28 ∧ v28 ≤ 240) → 300 - v28 < (n36 : Int) → TT w D pm_195 (149, [(0, .ref (obq (m.2 107) u)), (1, .ref 12), (3, .ref 188), (6, .int (i32 ((m.2 74) t))), (8, .ref 45), (9, .int (i32 v28))], [], (khp (mO m29 [] []) c, N), 0, 0) (Q_op_apply m c N u t) := by
            intro n36
            induction n36 with
            | zero =>
              intro v28 m29 q33 Tm29 Fm29 ic31 ic32 hmu
              obtain ⟨q33a, q33b⟩ := id q33
              exfalso
              omega
            | succ n36 ih =>
              intro v28 m29 q33 Tm29 Fm29 ic31 ic32 hmu
              obtain ⟨q33a, q33b⟩ := id q33
              have ih37 := ih
              refine T_ld 151 (.int (i32 v28)) rfl (fun _ => rfl) ?_
              refine T_ld 153 (.ref 45) rfl (fun _ => rfl) ?_
              refine K_gf 156 (.ref 51) rfl rfl kd_45 rfl rfl rfl ?_
              refine T_ld 158 (.int (i32 ((m.2 74) t))) rfl (fun _ => rfl) ?_
              refine K_iald 159 44 (m.2 44) rfl rfl rfl (by omega) (show ((m.2 74) t) < (16 : Int) by omega) (show (m29.2 44) = (m.2 44) from ((fr2 Fm29 44 rfl).trans ((fr2 Fm27 44 rfl).trans (fr2 Fm2 44 rfl)))) ?_
              have e38 : 0 ≤ m.2 44 ((m.2 74) t) ∧ m.2 44 ((m.2 74) t) ≤ 240 := hT.2.1 44 ((m.2 74) t)
              refine T_icmp 185 162 rfl rfl rfl (r32 (by omega) (by omega)) (r32 (by omega) (by omega)) (fun (h39 : (m.2 44) ((m.2 74) t) ≤ v28) => ?_) (fun (h39 : ¬ ((m.2 44) ((m.2 74) t) ≤ v28)) => ?_)
              · skip
                refine T_ld 187 (.int (i32 ((m.2 74) t))) rfl (fun _ => rfl) ?_
                refine T_ret rfl (fun _ => rfl) ?_
                exact ⟨(mO m29 [] []), (m.2 74) t, Tm29, (fr_m (fr_s Fm29 (fr_m (fr_s Fm27 (fr_m (fr_s Fm2 (fr_m fr_0 rfl rfl) rfl rfl) rfl rfl) rfl rfl) rfl rfl) rfl rfl) rfl rfl), ⟨by omega, by omega⟩, rfl⟩
              · skip
                refine T_ld 163 (.ref (obq (m.2 107) u)) rfl (fun _ => rfl) ?_
                refine T_ld 164 (.ref 12) rfl (fun _ => rfl) ?_
                refine T_ld 166 (.ref 45) rfl (fun _ => rfl) ?_
                refine K_gf 169 (.ref 50) rfl rfl kd_45 rfl rfl rfl ?_
                refine T_ld 171 (.int (i32 ((m.2 74) t))) rfl (fun _ => rfl) ?_
                refine K_iald 172 43 (m.2 43) rfl rfl rfl (by omega) (show ((m.2 74) t) < (16 : Int) by omega) (show (m29.2 43) = (m.2 43) from ((fr2 Fm29 43 rfl).trans ((fr2 Fm27 43 rfl).trans (fr2 Fm2 43 rfl)))) ?_
                have e40 : 0 ≤ m.2 43 ((m.2 74) t) ∧ m.2 43 ((m.2 74) t) ≤ 240 := hT.2.1 43 ((m.2 74) t)
                refine T_ld 174 (.int (i32 v28)) rfl (fun _ => rfl) ?_
                refine T_iadd 175 rfl rfl ?_
                refine T_ld 176 (.ref 188) rfl (fun _ => rfl) ?_
                have hA9 := hAC ((m.2 74) t) (by omega) (by omega)
                refine T_callx 179 198 [.ref (obq (m.2 107) u), .ref 12, .int (i32 (((m.2 43) ((m.2 74) t)) + v28)), .ref 188] [] rfl (inv_vt (args := [.ref 188, .int (i32 (((m.2 43) ((m.2 74) t)) + v28)), .ref 12]) (obe_c (congrArg (fun f : Int → Int => (f u).toNat) (show (m29.2 107) = (m.2 107) from ((fr2 Fm29 107 rfl).trans ((fr2 Fm27 107 rfl).trans (fr2 Fm2 107 rfl))))) (khp_o0 _ (OKr_c (show (m29.2 107) = (m.2 107) from ((fr2 Fm29 107 rfl).trans ((fr2 Fm27 107 rfl).trans (fr2 Fm2 107 rfl)))) (show (m29.2 108) = (m.2 108) from ((fr2 Fm29 108 rfl).trans ((fr2 Fm27 108 rfl).trans (fr2 Fm2 108 rfl)))) pOKu))) rfl rfl rfl) rfl rfl (TC_cast (fun g9 => [.ref (obq g9 u), .ref 12, .int (i32 (((m.2 43) ((m.2 74) t)) + v28)), .ref 188]) (show (m29.2 107) = (m.2 107) from ((fr2 Fm29 107 rfl).trans ((fr2 Fm27 107 rfl).trans (fr2 Fm2 107 rfl)))) (c_op_doDeed w (mO m29 [] []) c N D (by omega) Tm29 u (((m.2 43) ((m.2 74) t)) + v28) (r32 (by omega) (by omega)) (r32 (by omega) (by omega)) (OKr_c (show (m29.2 107) = (m.2 107) from ((fr2 Fm29 107 rfl).trans ((fr2 Fm27 107 rfl).trans (fr2 Fm2 107 rfl)))) (show (m29.2 108) = (m.2 108) from ((fr2 Fm29 108 rfl).trans ((fr2 Fm27 108 rfl).trans (fr2 Fm2 108 rfl)))) pOKu) (show NKp (m29.2 18) (m29.2 19) by rewrite [(show (m29.2 18) = (m.2 18) from ((fr2 Fm29 18 rfl).trans ((fr2 Fm27 18 rfl).trans (fr2 Fm2 18 rfl)))), (show (m29.2 19) = (m.2 19) from ((fr2 Fm29 19 rfl).trans ((fr2 Fm27 19 rfl).trans (fr2 Fm2 19 rfl))))]; exact hNK) (show DEp (m29.1 224) (m29.2 45) (m29.2 46) (m29.2 47) (m29.2 49) by rewrite [(show (m29.1 224) = (m.1 224) from ((fr1 Fm29 224 rfl).trans ((fr1 Fm27 224 rfl).trans (fr1 Fm2 224 rfl)))), (show (m29.2 45) = (m.2 45) from ((fr2 Fm29 45 rfl).trans ((fr2 Fm27 45 rfl).trans (fr2 Fm2 45 rfl)))), (show (m29.2 46) = (m.2 46) from ((fr2 Fm29 46 rfl).trans ((fr2 Fm27 46 rfl).trans (fr2 Fm2 46 rfl)))), (show (m29.2 47) = (m.2 47) from ((fr2 Fm29 47 rfl).trans ((fr2 Fm27 47 rfl).trans (fr2 Fm2 47 rfl)))), (show (m29.2 49) = (m.2 49) from ((fr2 Fm29 49 rfl).trans ((fr2 Fm27 49 rfl).trans (fr2 Fm2 49 rfl))))]; exact hDE) (show 0 ≤ (((m.2 43) ((m.2 74) t)) + v28) ∧ (((m.2 43) ((m.2 74) t)) + v28) < (m29.1 224) by rewrite [(show (m29.1 224) = (m.1 224) from ((fr1 Fm29 224 rfl).trans ((fr1 Fm27 224 rfl).trans (fr1 Fm2 224 rfl))))]; omega))) (fun rr41 k42 => ?_)
                obtain ⟨m43, Tm43, Fm43, rfl⟩ := k42
                refine Or.inl ⟨_, _, _, _, rfl, ?_⟩
                refine K_nb (st' := []) rfl ?_
                refine T_iinc 182 [(9, .int (i32 (v28 + 1))), (0, .ref (obq (m.2 107) u)), (1, .ref 12), (3, .ref 188), (6, .int (i32 ((m.2 74) t))), (8, .ref 45)] rfl rfl (by decide) rfl rfl ?_
                refine T_goto 149 rfl (fun _ => rfl) ?_
                refine Tm_lv (a := [(0, .ref (obq (m.2 107) u)), (1, .ref 12), (3, .ref 188), (6, .int (i32 ((m.2 74) t))), (8, .ref 45), (9, .int (i32 (v28 + 1)))]) rfl rfl ⟨rfl, rfl, rfl, rfl, rfl, rfl, trivial⟩ ?_
                exact ih37 (v28 + 1) (mO m43 [] []) (r32 (by omega) (by omega)) Tm43 (fr_m (fr_s Fm43 (fr_m (fr_s Fm29 (fr_m fr_0 rfl rfl) rfl rfl) rfl rfl) rfl rfl) rfl rfl) (show 0 ≤ (v28 + 1) by omega) (show 0 ≤ (v28 + 1) ∧ (v28 + 1) ≤ 240 by omega) (show 300 - (v28 + 1) < (n36 : Int) by omega)
          refine Tm_lv (a := [(0, .ref (obq (m.2 107) u)), (1, .ref 12), (3, .ref 188), (6, .int (i32 ((m.2 74) t))), (8, .ref 45), (9, .int (i32 0))]) rfl rfl ⟨rfl, rfl, rfl, rfl, rfl, rfl, trivial⟩ ?_
          exact L149_30 ((300 - (0 : Int) : Int) + 1).toNat 0 (mO m27 [] []) ⟨by decide, by decide⟩ Tm27 (fr_m fr_0 rfl rfl) (show 0 ≤ (0 : Int) by omega) (show 0 ≤ (0 : Int) ∧ (0 : Int) ≤ 240 by omega) (show 300 - (0 : Int) < ((((300 - (0 : Int) : Int) + 1).toNat : Nat) : Int) by omega)
        · skip
          refine T_ld 71 (.int (i32 1)) rfl (fun _ => rfl) ?_
          refine T_goto 75 rfl (fun _ => rfl) ?_
          refine T_sto 77 [(5, .int (i32 1)), (4, .int (i32 x15)), (0, .ref (obq (m.2 107) u)), (1, .ref 12), (2, .ref (tbr t)), (3, .ref 188)] rfl (fun _ => rfl) ?_
          refine T_ld 79 (.int (i32 1)) rfl (fun _ => rfl) ?_
          refine T_if 92 82 rfl rfl rfl ⟨by decide, by decide⟩ (fun h44 => absurd (show (1 : Int) = 0 from h44) (by decide)) (fun _ => ?_)
          refine T_ld 83 (.ref (tbr t)) rfl (fun _ => rfl) ?_
          refine K_gfr 86 rfl rfl (by omega) (by omega) rfl ?_
          refine T_ld 88 (.int (i32 x15)) rfl (fun _ => rfl) ?_
          refine K_ialt 89 10 (m.2 89) rfl rfl rfl (by omega) (by omega) (by omega) (show x15 < (72 : Int) by omega) (show (m2.2 89) = (m.2 89) from (fr2 Fm2 89 rfl)) ?_
          have e45 : 0 ≤ m.2 89 (65536 * t + x15) ∧ m.2 89 (65536 * t + x15) ≤ 15 := hT.2.1 89 (65536 * t + x15)
          have hch := hTC t (by omega) (by omega) x15 (by omega) (by omega)
          refine T_goto 96 rfl (fun _ => rfl) ?_
          have hld := hTD t (by omega) (by omega)
          refine T_sto 98 [(6, .int (i32 ((m.2 89) (65536 * t + x15)))), (5, .int (i32 1)), (4, .int (i32 x15)), (0, .ref (obq (m.2 107) u)), (1, .ref 12), (2, .ref (tbr t)), (3, .ref 188)] rfl (fun _ => rfl) ?_
          refine T_ld 100 (.int (i32 1)) rfl (fun _ => rfl) ?_
          refine T_if 110 103 rfl rfl rfl ⟨by decide, by decide⟩ (fun h46 => absurd (show (1 : Int) = 0 from h46) (by decide)) (fun _ => ?_)
          refine T_ld 105 (.int (i32 x15)) rfl (fun _ => rfl) ?_
          refine T_ld 106 (.int (i32 4)) rfl (fun _ => rfl) ?_
          refine T_imul 107 rfl rfl ?_
          refine T_goto 111 rfl (fun _ => rfl) ?_
          refine T_sto 113 [(7, .int (i32 (x15 * 4))), (6, .int (i32 ((m.2 89) (65536 * t + x15)))), (5, .int (i32 1)), (4, .int (i32 x15)), (0, .ref (obq (m.2 107) u)), (1, .ref 12), (2, .ref (tbr t)), (3, .ref 188)] rfl (fun _ => rfl) ?_
          refine T_ld 115 (.int (i32 1)) rfl (fun _ => rfl) ?_
          refine T_if 125 118 rfl rfl rfl ⟨by decide, by decide⟩ (fun h47 => absurd (show (1 : Int) = 0 from h47) (by decide)) (fun _ => ?_)
          refine T_ld 119 (.ref (tbr t)) rfl (fun _ => rfl) ?_
          refine K_gfr 122 rfl rfl (by omega) (by omega) rfl ?_
          refine T_goto 129 rfl (fun _ => rfl) ?_
          refine T_ld 131 (.int (i32 (x15 * 4))) rfl (fun _ => rfl) ?_
          refine T_ld 132 (.ref (obq (m.2 107) u)) rfl (fun _ => rfl) ?_
          refine K_gor 135 rfl rfl (OKr_c (show (m2.2 107) = (m.2 107) from (fr2 Fm2 107 rfl)) (show (m2.2 108) = (m.2 108) from (fr2 Fm2 108 rfl)) pOKu) (congrArg (fun f : Int → Int => (f u).toNat) (show (m2.2 107) = (m.2 107) from (fr2 Fm2 107 rfl))) rfl ?_
          refine T_ld 136 (.int (i32 0)) rfl (fun _ => rfl) ?_
          refine T_ld 137 (.int (i32 4)) rfl (fun _ => rfl) ?_
          obtain ⟨F48, h49, h50⟩ := src_t (c := c) (mO m2 [] []) (i := 8) (t := t) (sp := (x15 * 4)) (n := 4) rfl (by omega) (by omega) (by omega) (by omega)
          have G51 : ∀ j, (-9223372036854775808) ≤ (cpI (m.2 87) (m.2 105) ((65536 * t) + (x15 * 4)) (65536 * u + 0) 4) j ∧ (cpI (m.2 87) (m.2 105) ((65536 * t) + (x15 * 4)) (65536 * u + 0) 4) j ≤ 9223372036854775807 := cpI_rg (hT.2.1 87) (hT.2.1 105)
          refine K_cpl (a' := [(105, cpI (m.2 87) (m.2 105) ((65536 * t) + (x15 * 4)) (65536 * u + 0) 4)]) 140 5 (m.2 87) (m.2 105) (65536 * t) (sp := (x15 * 4)) (dp := 0) (n := 4) rfl rfl rfl rfl h49 (fun j hj => (h50 j hj).trans (congrArg (fun F : Int → Int => i64 (F ((65536 * t) + (x15 * 4) + (j : Int)))) (show (m2.2 87) = (m.2 87) from (fr2 Fm2 87 rfl)))) (OKr_c (show (m2.2 107) = (m.2 107) from (fr2 Fm2 107 rfl)) (show (m2.2 108) = (m.2 108) from (fr2 Fm2 108 rfl)) pOKu) (show KTy (mO m2 [] []) from Tm2).2.2.1 (congrArg (fun f : Int → Int => (f u).toNat) (show (m2.2 107) = (m.2 107) from (fr2 Fm2 107 rfl))) (by omega) (by omega) (by omega) (show (x15 * 4) + 4 ≤ ((288 : Nat) : Int) by omega) (show 0 + 4 ≤ (4 : Int) by omega) (by decide) (show (m2.2 105) = (m.2 105) from (fr2 Fm2 105 rfl)) rfl ?_
          refine T_ld 141 (.ref 12) rfl (fun _ => rfl) ?_
          refine K_gf 144 (.ref 45) rfl rfl kd_12 rfl rfl rfl ?_
          refine T_sto 146 [(8, .ref 45), (7, .int (i32 (x15 * 4))), (6, .int (i32 ((m.2 89) (65536 * t + x15)))), (5, .int (i32 1)), (4, .int (i32 x15)), (0, .ref (obq (m.2 107) u)), (1, .ref 12), (2, .ref (tbr t)), (3, .ref 188)] rfl (fun _ => rfl) ?_
          refine T_ld 147 (.int (i32 0)) rfl (fun _ => rfl) ?_
          refine T_sto 149 [(9, .int (i32 0)), (8, .ref 45), (7, .int (i32 (x15 * 4))), (6, .int (i32 ((m.2 89) (65536 * t + x15)))), (5, .int (i32 1)), (4, .int (i32 x15)), (0, .ref (obq (m.2 107) u)), (1, .ref 12), (2, .ref (tbr t)), (3, .ref 188)] rfl (fun _ => rfl) ?_
          refine K_fl (KTy_mO Tm2 rfl rfl trivial ⟨G51, trivial⟩) (fun m52 Tm52 Fm52 => ?_)
          have L149_55 : ∀ (n61 : Nat) (v53 : Int) (m54 : mR), (R32 v53) → KTy m54 → fr [] [25, 71, 101] (mO m52 [] []) m54 → (0 ≤ v53) → (0 ≤ v53 ∧ v53 ≤ 240) → 300 - v53 < (n61 : Int) → TT w D pm_195 (149, [(0, .ref (obq (m.2 107) u)), (1, .ref 12), (3, .ref 188), (6, .int (i32 ((m.2 89) (65536 * t + x15)))), (8, .ref 45), (9, .int (i32 v53))], [], (khp (mO m54 [] []) c, N), 0, 0) (Q_op_apply m c N u t) := by
            intro n61
            induction n61 with
            | zero =>
              intro v53 m54 q58 Tm54 Fm54 ic56 ic57 hmu
              obtain ⟨q58a, q58b⟩ := id q58
              exfalso
              omega
            | succ n61 ih =>
              intro v53 m54 q58 Tm54 Fm54 ic56 ic57 hmu
              obtain ⟨q58a, q58b⟩ := id q58
              have ih62 := ih
              refine T_ld 151 (.int (i32 v53)) rfl (fun _ => rfl) ?_
              refine T_ld 153 (.ref 45) rfl (fun _ => rfl) ?_
              refine K_gf 156 (.ref 51) rfl rfl kd_45 rfl rfl rfl ?_
              refine T_ld 158 (.int (i32 ((m.2 89) (65536 * t + x15)))) rfl (fun _ => rfl) ?_
              refine K_iald 159 44 (m.2 44) rfl rfl rfl (by omega) (show ((m.2 89) (65536 * t + x15)) < (16 : Int) by omega) (show (m54.2 44) = (m.2 44) from ((fr2 Fm54 44 rfl).trans ((fr2 Fm52 44 rfl).trans (fr2 Fm2 44 rfl)))) ?_
              have e63 : 0 ≤ m.2 44 ((m.2 89) (65536 * t + x15)) ∧ m.2 44 ((m.2 89) (65536 * t + x15)) ≤ 240 := hT.2.1 44 ((m.2 89) (65536 * t + x15))
              refine T_icmp 185 162 rfl rfl rfl (r32 (by omega) (by omega)) (r32 (by omega) (by omega)) (fun (h64 : (m.2 44) ((m.2 89) (65536 * t + x15)) ≤ v53) => ?_) (fun (h64 : ¬ ((m.2 44) ((m.2 89) (65536 * t + x15)) ≤ v53)) => ?_)
              · skip
                refine T_ld 187 (.int (i32 ((m.2 89) (65536 * t + x15)))) rfl (fun _ => rfl) ?_
                refine T_ret rfl (fun _ => rfl) ?_
                exact ⟨(mO m54 [] []), (m.2 89) (65536 * t + x15), Tm54, (fr_m (fr_s Fm54 (fr_m (fr_s Fm52 (fr_m (fr_s Fm2 (fr_m fr_0 rfl rfl) rfl rfl) rfl rfl) rfl rfl) rfl rfl) rfl rfl) rfl rfl), ⟨by omega, by omega⟩, rfl⟩
              · skip
                refine T_ld 163 (.ref (obq (m.2 107) u)) rfl (fun _ => rfl) ?_
                refine T_ld 164 (.ref 12) rfl (fun _ => rfl) ?_
                refine T_ld 166 (.ref 45) rfl (fun _ => rfl) ?_
                refine K_gf 169 (.ref 50) rfl rfl kd_45 rfl rfl rfl ?_
                refine T_ld 171 (.int (i32 ((m.2 89) (65536 * t + x15)))) rfl (fun _ => rfl) ?_
                refine K_iald 172 43 (m.2 43) rfl rfl rfl (by omega) (show ((m.2 89) (65536 * t + x15)) < (16 : Int) by omega) (show (m54.2 43) = (m.2 43) from ((fr2 Fm54 43 rfl).trans ((fr2 Fm52 43 rfl).trans (fr2 Fm2 43 rfl)))) ?_
                have e65 : 0 ≤ m.2 43 ((m.2 89) (65536 * t + x15)) ∧ m.2 43 ((m.2 89) (65536 * t + x15)) ≤ 240 := hT.2.1 43 ((m.2 89) (65536 * t + x15))
                refine T_ld 174 (.int (i32 v53)) rfl (fun _ => rfl) ?_
                refine T_iadd 175 rfl rfl ?_
                refine T_ld 176 (.ref 188) rfl (fun _ => rfl) ?_
                have hA9 := hAC ((m.2 89) (65536 * t + x15)) (by omega) (by omega)
                refine T_callx 179 198 [.ref (obq (m.2 107) u), .ref 12, .int (i32 (((m.2 43) ((m.2 89) (65536 * t + x15))) + v53)), .ref 188] [] rfl (inv_vt (args := [.ref 188, .int (i32 (((m.2 43) ((m.2 89) (65536 * t + x15))) + v53)), .ref 12]) (obe_c (congrArg (fun f : Int → Int => (f u).toNat) (show (m54.2 107) = (m.2 107) from ((fr2 Fm54 107 rfl).trans ((fr2 Fm52 107 rfl).trans (fr2 Fm2 107 rfl))))) (khp_o0 _ (OKr_c (show (m54.2 107) = (m.2 107) from ((fr2 Fm54 107 rfl).trans ((fr2 Fm52 107 rfl).trans (fr2 Fm2 107 rfl)))) (show (m54.2 108) = (m.2 108) from ((fr2 Fm54 108 rfl).trans ((fr2 Fm52 108 rfl).trans (fr2 Fm2 108 rfl)))) pOKu))) rfl rfl rfl) rfl rfl (TC_cast (fun g9 => [.ref (obq g9 u), .ref 12, .int (i32 (((m.2 43) ((m.2 89) (65536 * t + x15))) + v53)), .ref 188]) (show (m54.2 107) = (m.2 107) from ((fr2 Fm54 107 rfl).trans ((fr2 Fm52 107 rfl).trans (fr2 Fm2 107 rfl)))) (c_op_doDeed w (mO m54 [] []) c N D (by omega) Tm54 u (((m.2 43) ((m.2 89) (65536 * t + x15))) + v53) (r32 (by omega) (by omega)) (r32 (by omega) (by omega)) (OKr_c (show (m54.2 107) = (m.2 107) from ((fr2 Fm54 107 rfl).trans ((fr2 Fm52 107 rfl).trans (fr2 Fm2 107 rfl)))) (show (m54.2 108) = (m.2 108) from ((fr2 Fm54 108 rfl).trans ((fr2 Fm52 108 rfl).trans (fr2 Fm2 108 rfl)))) pOKu) (show NKp (m54.2 18) (m54.2 19) by rewrite [(show (m54.2 18) = (m.2 18) from ((fr2 Fm54 18 rfl).trans ((fr2 Fm52 18 rfl).trans (fr2 Fm2 18 rfl)))), (show (m54.2 19) = (m.2 19) from ((fr2 Fm54 19 rfl).trans ((fr2 Fm52 19 rfl).trans (fr2 Fm2 19 rfl))))]; exact hNK) (show DEp (m54.1 224) (m54.2 45) (m54.2 46) (m54.2 47) (m54.2 49) by rewrite [(show (m54.1 224) = (m.1 224) from ((fr1 Fm54 224 rfl).trans ((fr1 Fm52 224 rfl).trans (fr1 Fm2 224 rfl)))), (show (m54.2 45) = (m.2 45) from ((fr2 Fm54 45 rfl).trans ((fr2 Fm52 45 rfl).trans (fr2 Fm2 45 rfl)))), (show (m54.2 46) = (m.2 46) from ((fr2 Fm54 46 rfl).trans ((fr2 Fm52 46 rfl).trans (fr2 Fm2 46 rfl)))), (show (m54.2 47) = (m.2 47) from ((fr2 Fm54 47 rfl).trans ((fr2 Fm52 47 rfl).trans (fr2 Fm2 47 rfl)))), (show (m54.2 49) = (m.2 49) from ((fr2 Fm54 49 rfl).trans ((fr2 Fm52 49 rfl).trans (fr2 Fm2 49 rfl))))]; exact hDE) (show 0 ≤ (((m.2 43) ((m.2 89) (65536 * t + x15))) + v53) ∧ (((m.2 43) ((m.2 89) (65536 * t + x15))) + v53) < (m54.1 224) by rewrite [(show (m54.1 224) = (m.1 224) from ((fr1 Fm54 224 rfl).trans ((fr1 Fm52 224 rfl).trans (fr1 Fm2 224 rfl))))]; omega))) (fun rr66 k67 => ?_)
                obtain ⟨m68, Tm68, Fm68, rfl⟩ := k67
                refine Or.inl ⟨_, _, _, _, rfl, ?_⟩
                refine K_nb (st' := []) rfl ?_
                refine T_iinc 182 [(9, .int (i32 (v53 + 1))), (0, .ref (obq (m.2 107) u)), (1, .ref 12), (3, .ref 188), (6, .int (i32 ((m.2 89) (65536 * t + x15)))), (8, .ref 45)] rfl rfl (by decide) rfl rfl ?_
                refine T_goto 149 rfl (fun _ => rfl) ?_
                refine Tm_lv (a := [(0, .ref (obq (m.2 107) u)), (1, .ref 12), (3, .ref 188), (6, .int (i32 ((m.2 89) (65536 * t + x15)))), (8, .ref 45), (9, .int (i32 (v53 + 1)))]) rfl rfl ⟨rfl, rfl, rfl, rfl, rfl, rfl, trivial⟩ ?_
                exact ih62 (v53 + 1) (mO m68 [] []) (r32 (by omega) (by omega)) Tm68 (fr_m (fr_s Fm68 (fr_m (fr_s Fm54 (fr_m fr_0 rfl rfl) rfl rfl) rfl rfl) rfl rfl) rfl rfl) (show 0 ≤ (v53 + 1) by omega) (show 0 ≤ (v53 + 1) ∧ (v53 + 1) ≤ 240 by omega) (show 300 - (v53 + 1) < (n61 : Int) by omega)
          refine Tm_lv (a := [(0, .ref (obq (m.2 107) u)), (1, .ref 12), (3, .ref 188), (6, .int (i32 ((m.2 89) (65536 * t + x15)))), (8, .ref 45), (9, .int (i32 0))]) rfl rfl ⟨rfl, rfl, rfl, rfl, rfl, rfl, trivial⟩ ?_
          exact L149_55 ((300 - (0 : Int) : Int) + 1).toNat 0 (mO m52 [] []) ⟨by decide, by decide⟩ Tm52 (fr_m fr_0 rfl rfl) (show 0 ≤ (0 : Int) by omega) (show 0 ≤ (0 : Int) ∧ (0 : Int) ≤ 240 by omega) (show 300 - (0 : Int) < ((((300 - (0 : Int) : Int) + 1).toNat : Nat) : Int) by omega)
      · skip
        refine T_ld 13 (.ref (obq (m.2 107) u)) rfl (fun _ => rfl) ?_
        refine K_gor 16 rfl rfl (OKr_c (show (m2.2 107) = (m.2 107) from (fr2 Fm2 107 rfl)) (show (m2.2 108) = (m.2 108) from (fr2 Fm2 108 rfl)) pOKu) (congrArg (fun f : Int → Int => (f u).toNat) (show (m2.2 107) = (m.2 107) from (fr2 Fm2 107 rfl))) rfl ?_
        refine T_ld 18 (.int (i32 v1)) rfl (fun _ => rfl) ?_
        refine T_ld 19 (.ref 12) rfl (fun _ => rfl) ?_
        refine K_gf 22 (.ref 22) rfl rfl kd_12 rfl rfl rfl ?_
        refine T_ld 23 (.ref (tbr t)) rfl (fun _ => rfl) ?_
        refine K_gfr 26 rfl rfl (by omega) (by omega) rfl ?_
        refine T_ld 28 (.int (i32 v1)) rfl (fun _ => rfl) ?_
        refine K_ialt 29 0 (m.2 79) rfl rfl rfl (by omega) (by omega) (by omega) (show v1 < (4 : Int) by omega) (show (m2.2 79) = (m.2 79) from (fr2 Fm2 79 rfl)) ?_
        have e69 : 0 ≤ m.2 79 (65536 * t + v1) ∧ m.2 79 (65536 * t + v1) ≤ 1090 := hT.2.1 79 (65536 * t + v1)
        refine T_ld 30 (.ref (tbr t)) rfl (fun _ => rfl) ?_
        refine K_gfr 33 rfl rfl (by omega) (by omega) rfl ?_
        refine T_ld 35 (.int (i32 v1)) rfl (fun _ => rfl) ?_
        refine K_ialt 36 1 (m.2 80) rfl rfl rfl (by omega) (by omega) (by omega) (show v1 < (4 : Int) by omega) (show (m2.2 80) = (m.2 80) from (fr2 Fm2 80 rfl)) ?_
        have e70 : 0 ≤ m.2 80 (65536 * t + v1) ∧ m.2 80 (65536 * t + v1) ≤ 1089 := hT.2.1 80 (65536 * t + v1)
        refine T_ld 37 (.ref (obq (m.2 107) u)) rfl (fun _ => rfl) ?_
        refine K_gor 40 rfl rfl (OKr_c (show (m2.2 107) = (m.2 107) from (fr2 Fm2 107 rfl)) (show (m2.2 108) = (m.2 108) from (fr2 Fm2 108 rfl)) pOKu) (congrArg (fun f : Int → Int => (f u).toNat) (show (m2.2 107) = (m.2 107) from (fr2 Fm2 107 rfl))) rfl ?_
        refine T_ld 41 (.ref (obq (m.2 107) u)) rfl (fun _ => rfl) ?_
        refine K_gor 44 rfl rfl (OKr_c (show (m2.2 107) = (m.2 107) from (fr2 Fm2 107 rfl)) (show (m2.2 108) = (m.2 108) from (fr2 Fm2 108 rfl)) pOKu) (congrArg (fun f : Int → Int => (f u).toNat) (show (m2.2 107) = (m.2 107) from (fr2 Fm2 107 rfl))) rfl ?_
        refine T_callx 47 183 [.ref 22, .int (i32 ((m.2 79) (65536 * t + v1))), .int (i32 ((m.2 80) (65536 * t + v1))), .ref (obq (m.2 107) u + (1 + 1)), .ref (obq (m.2 107) u + (5 + 1))] [.int (i32 v1), .ref (obq (m.2 107) u + (3 + 1))] rfl (fun _ => rfl) rfl rfl (TC_cast (fun g9 => [.ref 22, .int (i32 ((m.2 79) (65536 * t + v1))), .int (i32 ((m.2 80) (65536 * t + v1))), .ref (obq g9 u + (1 + 1)), .ref (obq g9 u + (5 + 1))]) (show (m2.2 107) = (m.2 107) from (fr2 Fm2 107 rfl)) (c_nd_valueOf w (mO m2 [] []) c N D (by omega) Tm2 ((m.2 79) (65536 * t + v1)) ((m.2 80) (65536 * t + v1)) u u (r32 (by omega) (by omega)) (r32 (by omega) (by omega)) (r32 (by omega) (by omega)) (r32 (by omega) (by omega)) (OKr_c (show (m2.2 107) = (m.2 107) from (fr2 Fm2 107 rfl)) (show (m2.2 108) = (m.2 108) from (fr2 Fm2 108 rfl)) pOKu) (OKr_c (show (m2.2 107) = (m.2 107) from (fr2 Fm2 107 rfl)) (show (m2.2 108) = (m.2 108) from (fr2 Fm2 108 rfl)) pOKu) (show NKp (m2.2 18) (m2.2 19) by rewrite [(show (m2.2 18) = (m.2 18) from (fr2 Fm2 18 rfl)), (show (m2.2 19) = (m.2 19) from (fr2 Fm2 19 rfl))]; exact hNK) (show 0 ≤ ((m.2 79) (65536 * t + v1)) ∧ ((m.2 79) (65536 * t + v1)) ≤ 1090 by omega) (show 0 ≤ ((m.2 80) (65536 * t + v1)) ∧ ((m.2 80) (65536 * t + v1)) ≤ 1089 by omega))) (fun rr71 k72 => ?_)
        obtain ⟨m73, vv, Tm73, Fm73, g74, rfl⟩ := k72
        refine Or.inl ⟨_, _, _, _, rfl, ?_⟩
        refine K_nb (st' := [.long (i64 vv), .int (i32 v1), .ref (obq (m.2 107) u + (3 + 1))]) rfl ?_
        obtain ⟨g74a, g74b⟩ := g74
        have G75 : ∀ j, (-9223372036854775808) ≤ (upI (m2.2 103) (65536 * u + v1) vv) j ∧ (upI (m2.2 103) (65536 * u + v1) vv) j ≤ 9223372036854775807 := upI_rg (Tm2.2.1 103) ⟨by omega, by omega⟩
        refine K_lasto (a' := [(103, upI (m2.2 103) (65536 * u + v1) vv)]) 48 3 (m2.2 103) rfl rfl rfl (OKr_c (show (m73.2 107) = (m.2 107) from ((fr2 Fm73 107 rfl).trans (fr2 Fm2 107 rfl))) (show (m73.2 108) = (m.2 108) from ((fr2 Fm73 108 rfl).trans (fr2 Fm2 108 rfl))) pOKu) (show KTy (mO m73 [] []) from Tm73).2.2.1 (congrArg (fun f : Int → Int => (f u).toNat) (show (m73.2 107) = (m.2 107) from ((fr2 Fm73 107 rfl).trans (fr2 Fm2 107 rfl)))) (by omega) (show v1 < (4 : Int) by omega) (show (m73.2 103) = (m2.2 103) from (fr2 Fm73 103 rfl)) rfl ?_
        refine T_iinc 51 [(4, .int (i32 (v1 + 1))), (0, .ref (obq (m.2 107) u)), (1, .ref 12), (2, .ref (tbr t)), (3, .ref 188)] rfl rfl (by decide) rfl rfl ?_
        refine T_goto 3 rfl (fun _ => rfl) ?_
        refine Tm_lv (a := [(0, .ref (obq (m.2 107) u)), (1, .ref 12), (2, .ref (tbr t)), (3, .ref 188), (4, .int (i32 (v1 + 1)))]) rfl rfl ⟨rfl, rfl, rfl, rfl, rfl, trivial⟩ ?_
        exact ih10 (v1 + 1) (mO m73 [] [(103, upI (m2.2 103) (65536 * u + v1) vv)]) (r32 (by omega) (by omega)) (KTy_mO Tm73 rfl rfl trivial ⟨G75, trivial⟩) (fr_m (fr_s Fm73 (fr_m (fr_s Fm2 (fr_m fr_0 rfl rfl) rfl rfl) rfl rfl) rfl rfl) rfl rfl) (show 0 ≤ (v1 + 1) by omega) (show 0 ≤ (v1 + 1) ∧ (v1 + 1) ≤ 4 by omega) (show 10 - (v1 + 1) < (n9 : Int) by omega)
  refine Tm_lv (a := [(0, .ref (obq (m.2 107) u)), (1, .ref 12), (2, .ref (tbr t)), (3, .ref 188), (4, .int (i32 0))]) rfl rfl ⟨rfl, rfl, rfl, rfl, rfl, trivial⟩ ?_
  exact L3_3 ((10 - (0 : Int) : Int) + 1).toNat 0 (mO m [] []) ⟨by decide, by decide⟩ hT (fr_m fr_0 rfl rfl) (show 0 ≤ (0 : Int) by omega) (show 0 ≤ (0 : Int) ∧ (0 : Int) ≤ 4 by omega) (show 10 - (0 : Int) < ((((10 - (0 : Int) : Int) + 1).toNat : Nat) : Int) by omega)
def fF_op_doStep : List Nat := []
def fA_op_doStep : List Nat := [25, 71, 101, 103, 105]
def Q_op_doStep (m : mR) (c : Nat → Option am_C) (N : Nat) (u : Int) (s : Int) : ag_Re af_T → Prop := fun R => (∃ (M : mR) (r : Int), KTy M ∧ fr fF_op_doStep fA_op_doStep m M ∧ ((-2147483648) ≤ r ∧ r ≤ 2147483647) ∧ R = (.inl (some (.int (i32 r))), (khp M c, N), 0, 0))
set_option maxHeartbeats 3000000 in
theorem c_op_doStep (w : wX) (m : mR) (c : Nat → Option am_C) (N D : Nat) (hD : 5 ≤ D) (hT : KTy m) (u : Int) (s : Int) (qu : R32 u) (qs : R32 s) (pOKu : OKr m u) (hNK : NKp (m.2 18) (m.2 19)) (hDE : DEp (m.1 224) (m.2 45) (m.2 46) (m.2 47) (m.2 49)) (hAC : AcP (m.1 223) (m.1 224) (m.2 43) (m.2 44)) (hTD : LTp (m.1 219) (m.2 74) (m.1 223)) (hTC : TCp (m.1 219) (m.2 78) (m.2 89) (m.1 223)) (hSP : SPp (m.1 225) (m.2 52) (m.2 58) (m.2 55) (m.2 56) (m.1 219) (m.1 224)) (p7 : 0 ≤ s ∧ s < (m.1 225)) : TC w D 194 [.ref (obq (m.2 107) u), .ref 12, .int (i32 s), .ref 188] (khp m c, N) (Q_op_doStep m c N u s) := by
  obtain ⟨D, rfl⟩ : ∃ k, D = k + 1 := ⟨D - 1, by omega⟩
  obtain ⟨qua, qub⟩ := id qu
  obtain ⟨qsa, qsb⟩ := id qs
  have f219 : 0 ≤ m.1 219 ∧ m.1 219 ≤ 8 := hT.1 219
  have f223 : 0 ≤ m.1 223 ∧ m.1 223 ≤ 16 := hT.1 223
  have f224 : 0 ≤ m.1 224 ∧ m.1 224 ≤ 240 := hT.1 224
  have f225 : 0 ≤ m.1 225 ∧ m.1 225 ≤ 48 := hT.1 225
  refine Tc_of rfl ?_
  rw [show (khp m c, N) = (khp (mO m [] []) c, N) from by rw [mO_nil m]]
  show TT w D pm_194 (0, [(0, .ref (obq (m.2 107) u)), (1, .ref 12), (2, .int (i32 s)), (3, .ref 188)], [], (khp (mO m [] []) c, N), 0, 0) (Q_op_doStep m c N u s)
  refine T_ld 1 (.ref 12) rfl (fun _ => rfl) ?_
  refine K_gf 4 (.ref 59) rfl rfl kd_12 rfl rfl rfl ?_
  refine T_sto 6 [(4, .ref 59), (0, .ref (obq (m.2 107) u)), (1, .ref 12), (2, .int (i32 s)), (3, .ref 188)] rfl (fun _ => rfl) ?_
  refine T_ld 8 (.ref 59) rfl (fun _ => rfl) ?_
  refine K_gf 11 (.ref 60) rfl rfl kd_59 rfl rfl rfl ?_
  refine T_ld 12 (.int (i32 s)) rfl (fun _ => rfl) ?_
  refine K_iald 13 52 (m.2 52) rfl rfl rfl (by omega) (show s < (48 : Int) by omega) rfl ?_
  have e1 : 0 ≤ m.2 52 s ∧ m.2 52 s ≤ 2 := hT.2.1 52 s
  refine T_ld 14 (.int (i32 1)) rfl (fun _ => rfl) ?_
  refine T_icmp 48 17 rfl rfl rfl (r32 (by omega) (by omega)) ⟨by decide, by decide⟩ (fun (h2 : (m.2 52) s ≠ 1) => ?_) (fun (h2 : ¬ ((m.2 52) s ≠ 1)) => ?_)
  · skip
    refine T_ld 50 (.ref 59) rfl (fun _ => rfl) ?_
    refine K_gf 53 (.ref 60) rfl rfl kd_59 rfl rfl rfl ?_
    refine T_ld 54 (.int (i32 s)) rfl (fun _ => rfl) ?_
    refine K_iald 55 52 (m.2 52) rfl rfl rfl (by omega) (show s < (48 : Int) by omega) rfl ?_
    have e3 : 0 ≤ m.2 52 s ∧ m.2 52 s ≤ 2 := hT.2.1 52 s
    refine T_ld 56 (.int (i32 2)) rfl (fun _ => rfl) ?_
    refine T_icmp 78 59 rfl rfl rfl (r32 (by omega) (by omega)) ⟨by decide, by decide⟩ (fun (h4 : (m.2 52) s ≠ 2) => ?_) (fun (h4 : ¬ ((m.2 52) s ≠ 2)) => ?_)
    · skip
      have hsr := (hSP s (by omega) (by omega)).2.2 (by omega)
      refine T_ld 79 (.ref (obq (m.2 107) u)) rfl (fun _ => rfl) ?_
      refine T_ld 80 (.ref 12) rfl (fun _ => rfl) ?_
      refine T_ld 82 (.ref 59) rfl (fun _ => rfl) ?_
      refine K_gf 85 (.ref 64) rfl rfl kd_59 rfl rfl rfl ?_
      refine T_ld 86 (.int (i32 s)) rfl (fun _ => rfl) ?_
      refine K_iald 87 56 (m.2 56) rfl rfl rfl (by omega) (show s < (48 : Int) by omega) rfl ?_
      have e5 : (-1) ≤ m.2 56 s ∧ m.2 56 s ≤ 239 := hT.2.1 56 s
      refine T_ld 88 (.ref 188) rfl (fun _ => rfl) ?_
      refine T_callx 91 198 [.ref (obq (m.2 107) u), .ref 12, .int (i32 ((m.2 56) s)), .ref 188] [] rfl (inv_vt (args := [.ref 188, .int (i32 ((m.2 56) s)), .ref 12]) (obe_c rfl (khp_o0 _ pOKu)) rfl rfl rfl) rfl rfl (c_op_doDeed w (mO m [] []) c N D (by omega) hT u ((m.2 56) s) (r32 (by omega) (by omega)) (r32 (by omega) (by omega)) pOKu (show NKp (m.2 18) (m.2 19) by exact hNK) (show DEp (m.1 224) (m.2 45) (m.2 46) (m.2 47) (m.2 49) by exact hDE) (show 0 ≤ ((m.2 56) s) ∧ ((m.2 56) s) < (m.1 224) by omega)) (fun rr6 k7 => ?_)
      obtain ⟨m8, Tm8, Fm8, rfl⟩ := k7
      refine Or.inl ⟨_, _, _, _, rfl, ?_⟩
      refine K_nb (st' := []) rfl ?_
      refine T_ld 92 (.int (i32 0)) rfl (fun _ => rfl) ?_
      refine T_ret rfl (fun _ => rfl) ?_
      exact ⟨(mO m8 [] []), 0, Tm8, (fr_m (fr_s Fm8 (fr_m fr_0 rfl rfl) rfl rfl) rfl rfl), ⟨by omega, by omega⟩, rfl⟩
    · skip
      have hsr := (hSP s (by omega) (by omega)).2.1 (by omega)
      refine T_ld 60 (.ref (obq (m.2 107) u)) rfl (fun _ => rfl) ?_
      refine T_ld 61 (.ref 12) rfl (fun _ => rfl) ?_
      refine T_ld 62 (.ref 12) rfl (fun _ => rfl) ?_
      refine K_gf 65 (.ref 21) rfl rfl kd_12 rfl rfl rfl ?_
      refine T_ld 67 (.ref 59) rfl (fun _ => rfl) ?_
      refine K_gf 70 (.ref 63) rfl rfl kd_59 rfl rfl rfl ?_
      refine T_ld 71 (.int (i32 s)) rfl (fun _ => rfl) ?_
      refine K_iald 72 55 (m.2 55) rfl rfl rfl (by omega) (show s < (48 : Int) by omega) rfl ?_
      have e9 : (-1) ≤ m.2 55 s ∧ m.2 55 s ≤ 7 := hT.2.1 55 s
      refine K_aatb 73 rfl (by omega) (by omega) rfl ?_
      refine T_ld 74 (.ref 188) rfl (fun _ => rfl) ?_
      refine T_callx 77 195 [.ref (obq (m.2 107) u), .ref 12, .ref (tbr ((m.2 55) s)), .ref 188] [] rfl (inv_vt (args := [.ref 188, .ref (tbr ((m.2 55) s)), .ref 12]) (obe_c rfl (khp_o0 _ pOKu)) rfl rfl rfl) rfl rfl (c_op_apply w (mO m [] []) c N D (by omega) hT u ((m.2 55) s) (r32 (by omega) (by omega)) (r32 (by omega) (by omega)) pOKu (show NKp (m.2 18) (m.2 19) by exact hNK) (show DEp (m.1 224) (m.2 45) (m.2 46) (m.2 47) (m.2 49) by exact hDE) (show AcP (m.1 223) (m.1 224) (m.2 43) (m.2 44) by exact hAC) (show LTp (m.1 219) (m.2 74) (m.1 223) by exact hTD) (show TCp (m.1 219) (m.2 78) (m.2 89) (m.1 223) by exact hTC) (show 0 ≤ ((m.2 55) s) ∧ ((m.2 55) s) < (m.1 219) by omega)) (fun rr10 k11 => ?_)
      obtain ⟨m12, x13, Tm12, Fm12, g14, rfl⟩ := k11
      refine Or.inl ⟨_, _, _, _, rfl, ?_⟩
      refine K_nb (st' := [.int (i32 x13)]) rfl ?_
      obtain ⟨g14a, g14b⟩ := g14
      refine T_ret rfl (fun _ => rfl) ?_
      exact ⟨(mO m12 [] []), x13, Tm12, (fr_m (fr_s Fm12 (fr_m fr_0 rfl rfl) rfl rfl) rfl rfl), ⟨by omega, by omega⟩, rfl⟩
  · skip
    have hsr := (hSP s (by omega) (by omega)).1 (by omega)
    refine T_ld 18 (.ref 12) rfl (fun _ => rfl) ?_
    refine K_gf 21 (.ref 22) rfl rfl kd_12 rfl rfl rfl ?_
    refine T_ld 23 (.ref 59) rfl (fun _ => rfl) ?_
    refine K_gf 26 (.ref 65) rfl rfl kd_59 rfl rfl rfl ?_
    refine T_ld 27 (.int (i32 s)) rfl (fun _ => rfl) ?_
    refine K_iald 28 57 (m.2 57) rfl rfl rfl (by omega) (show s < (48 : Int) by omega) rfl ?_
    have e15 : 0 ≤ m.2 57 s ∧ m.2 57 s ≤ 1090 := hT.2.1 57 s
    refine T_ld 30 (.ref 59) rfl (fun _ => rfl) ?_
    refine K_gf 33 (.ref 66) rfl rfl kd_59 rfl rfl rfl ?_
    refine T_ld 34 (.int (i32 s)) rfl (fun _ => rfl) ?_
    refine K_iald 35 58 (m.2 58) rfl rfl rfl (by omega) (show s < (48 : Int) by omega) rfl ?_
    have e16 : (-1) ≤ m.2 58 s ∧ m.2 58 s ≤ 1089 := hT.2.1 58 s
    refine T_ld 36 (.ref (obq (m.2 107) u)) rfl (fun _ => rfl) ?_
    refine K_gor 39 rfl rfl pOKu rfl rfl ?_
    refine T_ld 40 (.ref (obq (m.2 107) u)) rfl (fun _ => rfl) ?_
    refine K_gor 43 rfl rfl pOKu rfl rfl ?_
    refine T_callx 46 183 [.ref 22, .int (i32 ((m.2 57) s)), .int (i32 ((m.2 58) s)), .ref (obq (m.2 107) u + (1 + 1)), .ref (obq (m.2 107) u + (5 + 1))] [] rfl (fun _ => rfl) rfl rfl (c_nd_valueOf w (mO m [] []) c N D (by omega) hT ((m.2 57) s) ((m.2 58) s) u u (r32 (by omega) (by omega)) (r32 (by omega) (by omega)) (r32 (by omega) (by omega)) (r32 (by omega) (by omega)) pOKu pOKu (show NKp (m.2 18) (m.2 19) by exact hNK) (show 0 ≤ ((m.2 57) s) ∧ ((m.2 57) s) ≤ 1090 by omega) (show 0 ≤ ((m.2 58) s) ∧ ((m.2 58) s) ≤ 1089 by omega)) (fun rr17 k18 => ?_)
    obtain ⟨m19, vv, Tm19, Fm19, g20, rfl⟩ := k18
    refine Or.inl ⟨_, _, _, _, rfl, ?_⟩
    refine K_nb (st' := [.long (i64 vv)]) rfl ?_
    obtain ⟨g20a, g20b⟩ := g20
    refine T_l2i 47 rfl rfl ?_
    refine T_inm (fun z21 h22 => ?_)
    obtain ⟨h22a, h22b⟩ := h22
    refine T_ret rfl (fun _ => rfl) ?_
    exact ⟨(mO m19 [] []), z21, Tm19, (fr_m (fr_s Fm19 (fr_m fr_0 rfl rfl) rfl rfl) rfl rfl), ⟨by omega, by omega⟩, rfl⟩
def fF_op_work : List Nat := []
def fA_op_work : List Nat := [25, 71, 78, 85, 86, 87, 88, 89, 90, 98, 101, 102, 103, 104, 105]
def Q_op_work (m : mR) (c : Nat → Option am_C) (N : Nat) (u : Int) (g : Int) : ag_Re af_T → Prop := fun R => (∃ (M : mR), KTy M ∧ fr fF_op_work fA_op_work m M ∧ (TCp (m.1 219) (M.2 78) (M.2 89) (m.1 223)) ∧ R = (.inl (none), (khp M c, N), 0, 0))
set_option maxHeartbeats 3000000 in
theorem c_op_work (w : wX) (m : mR) (c : Nat → Option am_C) (N D : Nat) (hD : 6 ≤ D) (hT : KTy m) (u : Int) (g : Int) (qu : R32 u) (qg : R32 g) (pOKu : OKr m u) (hNK : NKp (m.2 18) (m.2 19)) (hDE : DEp (m.1 224) (m.2 45) (m.2 46) (m.2 47) (m.2 49)) (hAC : AcP (m.1 223) (m.1 224) (m.2 43) (m.2 44)) (hTL : TLp (m.1 219) (m.2 73) (m.2 83) (m.1 223)) (hTD : LTp (m.1 219) (m.2 74) (m.1 223)) (hTC : TCp (m.1 219) (m.2 78) (m.2 89) (m.1 223)) (hSP : SPp (m.1 225) (m.2 52) (m.2 58) (m.2 55) (m.2 56) (m.1 219) (m.1 224)) (p8 : 0 ≤ g ∧ g ≤ 11) : TC w D 186 [.ref (obq (m.2 107) u), .ref 12, .int (i32 g), .ref 188] (khp m c, N) (Q_op_work m c N u g) := by
  obtain ⟨D, rfl⟩ : ∃ k, D = k + 1 := ⟨D - 1, by omega⟩
  obtain ⟨qua, qub⟩ := id qu
  obtain ⟨qga, qgb⟩ := id qg
  have f219 : 0 ≤ m.1 219 ∧ m.1 219 ≤ 8 := hT.1 219
  have f223 : 0 ≤ m.1 223 ∧ m.1 223 ≤ 16 := hT.1 223
  have f224 : 0 ≤ m.1 224 ∧ m.1 224 ≤ 240 := hT.1 224
  have f225 : 0 ≤ m.1 225 ∧ m.1 225 ≤ 48 := hT.1 225
  refine Tc_of rfl ?_
  rw [show (khp m c, N) = (khp (mO m [] []) c, N) from by rw [mO_nil m]]
  show TT w D pm_186 (0, [(0, .ref (obq (m.2 107) u)), (1, .ref 12), (2, .int (i32 g)), (3, .ref 188)], [], (khp (mO m [] []) c, N), 0, 0) (Q_op_work m c N u g)
  refine T_ld 1 (.ref 12) rfl (fun _ => rfl) ?_
  refine K_gf 4 (.ref 59) rfl rfl kd_12 rfl rfl rfl ?_
  refine T_sto 6 [(4, .ref 59), (0, .ref (obq (m.2 107) u)), (1, .ref 12), (2, .int (i32 g)), (3, .ref 188)] rfl (fun _ => rfl) ?_
  refine T_ld 7 (.ref (obq (m.2 107) u)) rfl (fun _ => rfl) ?_
  refine K_goi 10 91 (m.2 91) rfl rfl pOKu rfl rfl rfl ?_
  have e1 : 0 ≤ m.2 91 u ∧ m.2 91 u ≤ 3 := hT.2.1 91 u
  refine T_if 68 13 rfl rfl rfl (r32 (by omega) (by omega)) (fun (h2 : (m.2 91) u = 0) => ?_) (fun (h2 : ¬ ((m.2 91) u = 0)) => ?_)
  · skip
    refine T_ld 69 (.int (i32 0)) rfl (fun _ => rfl) ?_
    refine T_sto 71 [(5, .int (i32 0)), (4, .ref 59), (0, .ref (obq (m.2 107) u)), (1, .ref 12), (2, .int (i32 g)), (3, .ref 188)] rfl (fun _ => rfl) ?_
    have L71_5 : ∀ (n11 : Nat) (v3 : Int) (m4 : mR), (R32 v3) → KTy m4 → fr [] [25, 71, 101, 102, 103, 105] (mO m [] []) m4 → (0 ≤ v3) → (0 ≤ v3 ∧ v3 ≤ 48) → 60 - v3 < (n11 : Int) → TT w D pm_186 (71, [(0, .ref (obq (m.2 107) u)), (1, .ref 12), (2, .int (i32 g)), (3, .ref 188), (4, .ref 59), (5, .int (i32 v3))], [], (khp (mO m4 [] []) c, N), 0, 0) (Q_op_work m c N u g) := by
      intro n11
      induction n11 with
      | zero =>
        intro v3 m4 q8 Tm4 Fm4 ic6 ic7 hmu
        obtain ⟨q8a, q8b⟩ := id q8
        exfalso
        omega
      | succ n11 ih =>
        intro v3 m4 q8 Tm4 Fm4 ic6 ic7 hmu
        obtain ⟨q8a, q8b⟩ := id q8
        have ih12 := ih
        refine T_ld 73 (.int (i32 v3)) rfl (fun _ => rfl) ?_
        refine T_ld 75 (.ref 59) rfl (fun _ => rfl) ?_
        refine K_gf 78 (.int (i32 (m.1 225))) rfl rfl kd_59 rfl (kval_c2 (k := 225) (F := fun x => .int (i32 x)) rfl (show (m4.1 225) = (m.1 225) from (fr1 Fm4 225 rfl))) rfl ?_
        refine T_icmp 156 81 rfl rfl rfl (r32 (by omega) (by omega)) (r32 (by omega) (by omega)) (fun (h13 : (m.1 225) ≤ v3) => ?_) (fun (h13 : ¬ ((m.1 225) ≤ v3)) => ?_)
        · skip
          refine T_ret rfl (fun _ => rfl) ?_
          exact ⟨(mO m4 [] []), Tm4, (fr_m (fr_s Fm4 (fr_m fr_0 rfl rfl) rfl rfl) rfl rfl), (show TCp (m.1 219) (m4.2 78) (m4.2 89) (m.1 223) by rewrite [(show (m4.2 78) = (m.2 78) from (fr2 Fm4 78 rfl)), (show (m4.2 89) = (m.2 89) from (fr2 Fm4 89 rfl))]; first | (exact hTC) | (exfalso; omega)), rfl⟩
        · skip
          refine T_ld 82 (.ref (obq (m.2 107) u)) rfl (fun _ => rfl) ?_
          refine K_goi 85 98 (m.2 98) rfl rfl (OKr_c (show (m4.2 107) = (m.2 107) from (fr2 Fm4 107 rfl)) (show (m4.2 108) = (m.2 108) from (fr2 Fm4 108 rfl)) pOKu) (congrArg (fun f : Int → Int => (f u).toNat) (show (m4.2 107) = (m.2 107) from (fr2 Fm4 107 rfl))) (show (m4.2 98) = (m.2 98) from (fr2 Fm4 98 rfl)) rfl ?_
          have e14 : 0 ≤ (m.2 98) u ∧ (m.2 98) u ≤ 2 := (hT.2.1 98) u
          refine T_ld 86 (.int (i32 2)) rfl (fun _ => rfl) ?_
          refine T_icmp 156 89 rfl rfl rfl (r32 (by omega) (by omega)) ⟨by decide, by decide⟩ (fun (h15 : (m.2 98) u = 2) => ?_) (fun (h15 : ¬ ((m.2 98) u = 2)) => ?_)
          · skip
            refine T_ret rfl (fun _ => rfl) ?_
            exact ⟨(mO m4 [] []), Tm4, (fr_m (fr_s Fm4 (fr_m fr_0 rfl rfl) rfl rfl) rfl rfl), (show TCp (m.1 219) (m4.2 78) (m4.2 89) (m.1 223) by rewrite [(show (m4.2 78) = (m.2 78) from (fr2 Fm4 78 rfl)), (show (m4.2 89) = (m.2 89) from (fr2 Fm4 89 rfl))]; first | (exact hTC) | (exfalso; omega)), rfl⟩
          · skip
            refine T_ld 91 (.ref 59) rfl (fun _ => rfl) ?_
            refine K_gf 94 (.ref 61) rfl rfl kd_59 rfl rfl rfl ?_
            refine T_ld 96 (.int (i32 v3)) rfl (fun _ => rfl) ?_
            refine K_iald 97 53 (m.2 53) rfl rfl rfl (by omega) (show v3 < (48 : Int) by omega) (show (m4.2 53) = (m.2 53) from (fr2 Fm4 53 rfl)) ?_
            have e16 : (-1) ≤ m.2 53 v3 ∧ m.2 53 v3 ≤ 47 := hT.2.1 53 v3
            refine T_sto 99 [(6, .int (i32 ((m.2 53) v3))), (0, .ref (obq (m.2 107) u)), (1, .ref 12), (2, .int (i32 g)), (3, .ref 188), (4, .ref 59), (5, .int (i32 v3))] rfl (fun _ => rfl) ?_
            refine T_ld 101 (.ref 59) rfl (fun _ => rfl) ?_
            refine K_gf 104 (.ref 67) rfl rfl kd_59 rfl rfl rfl ?_
            refine T_ld 106 (.int (i32 v3)) rfl (fun _ => rfl) ?_
            refine K_iald 107 59 (m.2 59) rfl rfl rfl (by omega) (show v3 < (48 : Int) by omega) (show (m4.2 59) = (m.2 59) from (fr2 Fm4 59 rfl)) ?_
            have e17 : 0 ≤ m.2 59 v3 ∧ m.2 59 v3 ≤ 11 := hT.2.1 59 v3
            refine T_ld 108 (.int (i32 g)) rfl (fun _ => rfl) ?_
            refine T_icmp 150 111 rfl rfl rfl (r32 (by omega) (by omega)) (r32 (by omega) (by omega)) (fun (h18 : (m.2 59) v3 ≠ g) => ?_) (fun (h18 : ¬ ((m.2 59) v3 ≠ g)) => ?_)
            · skip
              refine T_iinc 153 [(5, .int (i32 (v3 + 1))), (6, .int (i32 ((m.2 53) v3))), (0, .ref (obq (m.2 107) u)), (1, .ref 12), (2, .int (i32 g)), (3, .ref 188), (4, .ref 59)] rfl rfl (by decide) rfl rfl ?_
              refine T_goto 71 rfl (fun _ => rfl) ?_
              refine Tm_lv (a := [(0, .ref (obq (m.2 107) u)), (1, .ref 12), (2, .int (i32 g)), (3, .ref 188), (4, .ref 59), (5, .int (i32 (v3 + 1)))]) rfl rfl ⟨rfl, rfl, rfl, rfl, rfl, rfl, trivial⟩ ?_
              exact ih12 (v3 + 1) (mO m4 [] []) (r32 (by omega) (by omega)) Tm4 (fr_m (fr_s Fm4 (fr_m fr_0 rfl rfl) rfl rfl) rfl rfl) (show 0 ≤ (v3 + 1) by omega) (show 0 ≤ (v3 + 1) ∧ (v3 + 1) ≤ 48 by omega) (show 60 - (v3 + 1) < (n11 : Int) by omega)
            · skip
              refine T_ld 113 (.int (i32 ((m.2 53) v3))) rfl (fun _ => rfl) ?_
              refine T_ld 114 (.int (i32 (-1))) rfl (fun _ => rfl) ?_
              refine T_icmp 135 117 rfl rfl rfl (r32 (by omega) (by omega)) ⟨by decide, by decide⟩ (fun (h19 : (m.2 53) v3 = (-1)) => ?_) (fun (h19 : ¬ ((m.2 53) v3 = (-1))) => ?_)
              · skip
                refine T_ld 136 (.ref (obq (m.2 107) u)) rfl (fun _ => rfl) ?_
                refine K_gor 139 rfl rfl (OKr_c (show (m4.2 107) = (m.2 107) from (fr2 Fm4 107 rfl)) (show (m4.2 108) = (m.2 108) from (fr2 Fm4 108 rfl)) pOKu) (congrArg (fun f : Int → Int => (f u).toNat) (show (m4.2 107) = (m.2 107) from (fr2 Fm4 107 rfl))) rfl ?_
                refine T_ld 141 (.int (i32 v3)) rfl (fun _ => rfl) ?_
                refine T_ld 142 (.ref (obq (m.2 107) u)) rfl (fun _ => rfl) ?_
                refine T_ld 143 (.ref 12) rfl (fun _ => rfl) ?_
                refine T_ld 145 (.int (i32 v3)) rfl (fun _ => rfl) ?_
                refine T_ld 146 (.ref 188) rfl (fun _ => rfl) ?_
                refine T_callx 149 194 [.ref (obq (m.2 107) u), .ref 12, .int (i32 v3), .ref 188] [.int (i32 v3), .ref (obq (m.2 107) u + (2 + 1))] rfl (inv_vt (args := [.ref 188, .int (i32 v3), .ref 12]) (obe_c (congrArg (fun f : Int → Int => (f u).toNat) (show (m4.2 107) = (m.2 107) from (fr2 Fm4 107 rfl))) (khp_o0 _ (OKr_c (show (m4.2 107) = (m.2 107) from (fr2 Fm4 107 rfl)) (show (m4.2 108) = (m.2 108) from (fr2 Fm4 108 rfl)) pOKu))) rfl rfl rfl) rfl rfl (TC_cast (fun g9 => [.ref (obq g9 u), .ref 12, .int (i32 v3), .ref 188]) (show (m4.2 107) = (m.2 107) from (fr2 Fm4 107 rfl)) (c_op_doStep w (mO m4 [] []) c N D (by omega) Tm4 u v3 (r32 (by omega) (by omega)) (r32 (by omega) (by omega)) (OKr_c (show (m4.2 107) = (m.2 107) from (fr2 Fm4 107 rfl)) (show (m4.2 108) = (m.2 108) from (fr2 Fm4 108 rfl)) pOKu) (show NKp (m4.2 18) (m4.2 19) by rewrite [(show (m4.2 18) = (m.2 18) from (fr2 Fm4 18 rfl)), (show (m4.2 19) = (m.2 19) from (fr2 Fm4 19 rfl))]; exact hNK) (show DEp (m4.1 224) (m4.2 45) (m4.2 46) (m4.2 47) (m4.2 49) by rewrite [(show (m4.1 224) = (m.1 224) from (fr1 Fm4 224 rfl)), (show (m4.2 45) = (m.2 45) from (fr2 Fm4 45 rfl)), (show (m4.2 46) = (m.2 46) from (fr2 Fm4 46 rfl)), (show (m4.2 47) = (m.2 47) from (fr2 Fm4 47 rfl)), (show (m4.2 49) = (m.2 49) from (fr2 Fm4 49 rfl))]; exact hDE) (show AcP (m4.1 223) (m4.1 224) (m4.2 43) (m4.2 44) by rewrite [(show (m4.1 223) = (m.1 223) from (fr1 Fm4 223 rfl)), (show (m4.1 224) = (m.1 224) from (fr1 Fm4 224 rfl)), (show (m4.2 43) = (m.2 43) from (fr2 Fm4 43 rfl)), (show (m4.2 44) = (m.2 44) from (fr2 Fm4 44 rfl))]; exact hAC) (show LTp (m4.1 219) (m4.2 74) (m4.1 223) by rewrite [(show (m4.1 219) = (m.1 219) from (fr1 Fm4 219 rfl)), (show (m4.2 74) = (m.2 74) from (fr2 Fm4 74 rfl)), (show (m4.1 223) = (m.1 223) from (fr1 Fm4 223 rfl))]; exact hTD) (show TCp (m4.1 219) (m4.2 78) (m4.2 89) (m4.1 223) by rewrite [(show (m4.1 219) = (m.1 219) from (fr1 Fm4 219 rfl)), (show (m4.2 78) = (m.2 78) from (fr2 Fm4 78 rfl)), (show (m4.2 89) = (m.2 89) from (fr2 Fm4 89 rfl)), (show (m4.1 223) = (m.1 223) from (fr1 Fm4 223 rfl))]; exact hTC) (show SPp (m4.1 225) (m4.2 52) (m4.2 58) (m4.2 55) (m4.2 56) (m4.1 219) (m4.1 224) by rewrite [(show (m4.1 225) = (m.1 225) from (fr1 Fm4 225 rfl)), (show (m4.2 52) = (m.2 52) from (fr2 Fm4 52 rfl)), (show (m4.2 58) = (m.2 58) from (fr2 Fm4 58 rfl)), (show (m4.2 55) = (m.2 55) from (fr2 Fm4 55 rfl)), (show (m4.2 56) = (m.2 56) from (fr2 Fm4 56 rfl)), (show (m4.1 219) = (m.1 219) from (fr1 Fm4 219 rfl)), (show (m4.1 224) = (m.1 224) from (fr1 Fm4 224 rfl))]; exact hSP) (show 0 ≤ v3 ∧ v3 < (m4.1 225) by rewrite [(show (m4.1 225) = (m.1 225) from (fr1 Fm4 225 rfl))]; omega))) (fun rr20 k21 => ?_)
                obtain ⟨m22, x23, Tm22, Fm22, g24, rfl⟩ := k21
                refine Or.inl ⟨_, _, _, _, rfl, ?_⟩
                refine K_nb (st' := [.int (i32 x23), .int (i32 v3), .ref (obq (m.2 107) u + (2 + 1))]) rfl ?_
                obtain ⟨g24a, g24b⟩ := g24
                have G25 : ∀ j, (-2147483648) ≤ (upI (m4.2 102) (65536 * u + v3) x23) j ∧ (upI (m4.2 102) (65536 * u + v3) x23) j ≤ 2147483647 := upI_rg (Tm4.2.1 102) ⟨by omega, by omega⟩
                refine K_iasto (a' := [(102, upI (m4.2 102) (65536 * u + v3) x23)]) 150 2 (m4.2 102) rfl rfl rfl (OKr_c (show (m22.2 107) = (m.2 107) from ((fr2 Fm22 107 rfl).trans (fr2 Fm4 107 rfl))) (show (m22.2 108) = (m.2 108) from ((fr2 Fm22 108 rfl).trans (fr2 Fm4 108 rfl))) pOKu) (show KTy (mO m22 [] []) from Tm22).2.2.1 (congrArg (fun f : Int → Int => (f u).toNat) (show (m22.2 107) = (m.2 107) from ((fr2 Fm22 107 rfl).trans (fr2 Fm4 107 rfl)))) (by omega) (show v3 < (48 : Int) by omega) (show (m22.2 102) = (m4.2 102) from (fr2 Fm22 102 rfl)) rfl ?_
                refine T_iinc 153 [(5, .int (i32 (v3 + 1))), (6, .int (i32 ((m.2 53) v3))), (0, .ref (obq (m.2 107) u)), (1, .ref 12), (2, .int (i32 g)), (3, .ref 188), (4, .ref 59)] rfl rfl (by decide) rfl rfl ?_
                refine T_goto 71 rfl (fun _ => rfl) ?_
                refine Tm_lv (a := [(0, .ref (obq (m.2 107) u)), (1, .ref 12), (2, .int (i32 g)), (3, .ref 188), (4, .ref 59), (5, .int (i32 (v3 + 1)))]) rfl rfl ⟨rfl, rfl, rfl, rfl, rfl, rfl, trivial⟩ ?_
                exact ih12 (v3 + 1) (mO m22 [] [(102, upI (m4.2 102) (65536 * u + v3) x23)]) (r32 (by omega) (by omega)) (KTy_mO Tm22 rfl rfl trivial ⟨G25, trivial⟩) (fr_m (fr_s Fm22 (fr_m (fr_s Fm4 (fr_m fr_0 rfl rfl) rfl rfl) rfl rfl) rfl rfl) rfl rfl) (show 0 ≤ (v3 + 1) by omega) (show 0 ≤ (v3 + 1) ∧ (v3 + 1) ≤ 48 by omega) (show 60 - (v3 + 1) < (n11 : Int) by omega)
              · skip
                refine T_ld 118 (.ref (obq (m.2 107) u)) rfl (fun _ => rfl) ?_
                refine K_gor 121 rfl rfl (OKr_c (show (m4.2 107) = (m.2 107) from (fr2 Fm4 107 rfl)) (show (m4.2 108) = (m.2 108) from (fr2 Fm4 108 rfl)) pOKu) (congrArg (fun f : Int → Int => (f u).toNat) (show (m4.2 107) = (m.2 107) from (fr2 Fm4 107 rfl))) rfl ?_
                refine T_ld 123 (.int (i32 ((m.2 53) v3))) rfl (fun _ => rfl) ?_
                refine K_ialo 124 2 (m4.2 102) rfl rfl rfl (OKr_c (show (m4.2 107) = (m.2 107) from (fr2 Fm4 107 rfl)) (show (m4.2 108) = (m.2 108) from (fr2 Fm4 108 rfl)) pOKu) (congrArg (fun f : Int → Int => (f u).toNat) (show (m4.2 107) = (m.2 107) from (fr2 Fm4 107 rfl))) (by omega) (show ((m.2 53) v3) < (48 : Int) by omega) rfl ?_
                have e26 : (-2147483648) ≤ (m4.2 102) (65536 * u + ((m.2 53) v3)) ∧ (m4.2 102) (65536 * u + ((m.2 53) v3)) ≤ 2147483647 := (Tm4.2.1 102) (65536 * u + ((m.2 53) v3))
                refine T_ld 126 (.ref 59) rfl (fun _ => rfl) ?_
                refine K_gf 129 (.ref 62) rfl rfl kd_59 rfl rfl rfl ?_
                refine T_ld 131 (.int (i32 v3)) rfl (fun _ => rfl) ?_
                refine K_iald 132 54 (m.2 54) rfl rfl rfl (by omega) (show v3 < (48 : Int) by omega) (show (m4.2 54) = (m.2 54) from (fr2 Fm4 54 rfl)) ?_
                have e27 : (-1) ≤ m.2 54 v3 ∧ m.2 54 v3 ≤ 1 := hT.2.1 54 v3
                refine T_icmp 150 135 rfl rfl rfl (r32 (by omega) (by omega)) (r32 (by omega) (by omega)) (fun (h28 : (m4.2 102) (65536 * u + ((m.2 53) v3)) ≠ (m.2 54) v3) => ?_) (fun (h28 : ¬ ((m4.2 102) (65536 * u + ((m.2 53) v3)) ≠ (m.2 54) v3)) => ?_)
                · skip
                  refine T_iinc 153 [(5, .int (i32 (v3 + 1))), (6, .int (i32 ((m.2 53) v3))), (0, .ref (obq (m.2 107) u)), (1, .ref 12), (2, .int (i32 g)), (3, .ref 188), (4, .ref 59)] rfl rfl (by decide) rfl rfl ?_
                  refine T_goto 71 rfl (fun _ => rfl) ?_
                  refine Tm_lv (a := [(0, .ref (obq (m.2 107) u)), (1, .ref 12), (2, .int (i32 g)), (3, .ref 188), (4, .ref 59), (5, .int (i32 (v3 + 1)))]) rfl rfl ⟨rfl, rfl, rfl, rfl, rfl, rfl, trivial⟩ ?_
                  exact ih12 (v3 + 1) (mO m4 [] []) (r32 (by omega) (by omega)) Tm4 (fr_m (fr_s Fm4 (fr_m fr_0 rfl rfl) rfl rfl) rfl rfl) (show 0 ≤ (v3 + 1) by omega) (show 0 ≤ (v3 + 1) ∧ (v3 + 1) ≤ 48 by omega) (show 60 - (v3 + 1) < (n11 : Int) by omega)
                · skip
                  refine T_ld 136 (.ref (obq (m.2 107) u)) rfl (fun _ => rfl) ?_
                  refine K_gor 139 rfl rfl (OKr_c (show (m4.2 107) = (m.2 107) from (fr2 Fm4 107 rfl)) (show (m4.2 108) = (m.2 108) from (fr2 Fm4 108 rfl)) pOKu) (congrArg (fun f : Int → Int => (f u).toNat) (show (m4.2 107) = (m.2 107) from (fr2 Fm4 107 rfl))) rfl ?_
                  refine T_ld 141 (.int (i32 v3)) rfl (fun _ => rfl) ?_
                  refine T_ld 142 (.ref (obq (m.2 107) u)) rfl (fun _ => rfl) ?_
                  refine T_ld 143 (.ref 12) rfl (fun _ => rfl) ?_
                  refine T_ld 145 (.int (i32 v3)) rfl (fun _ => rfl) ?_
                  refine T_ld 146 (.ref 188) rfl (fun _ => rfl) ?_
                  refine T_callx 149 194 [.ref (obq (m.2 107) u), .ref 12, .int (i32 v3), .ref 188] [.int (i32 v3), .ref (obq (m.2 107) u + (2 + 1))] rfl (inv_vt (args := [.ref 188, .int (i32 v3), .ref 12]) (obe_c (congrArg (fun f : Int → Int => (f u).toNat) (show (m4.2 107) = (m.2 107) from (fr2 Fm4 107 rfl))) (khp_o0 _ (OKr_c (show (m4.2 107) = (m.2 107) from (fr2 Fm4 107 rfl)) (show (m4.2 108) = (m.2 108) from (fr2 Fm4 108 rfl)) pOKu))) rfl rfl rfl) rfl rfl (TC_cast (fun g9 => [.ref (obq g9 u), .ref 12, .int (i32 v3), .ref 188]) (show (m4.2 107) = (m.2 107) from (fr2 Fm4 107 rfl)) (c_op_doStep w (mO m4 [] []) c N D (by omega) Tm4 u v3 (r32 (by omega) (by omega)) (r32 (by omega) (by omega)) (OKr_c (show (m4.2 107) = (m.2 107) from (fr2 Fm4 107 rfl)) (show (m4.2 108) = (m.2 108) from (fr2 Fm4 108 rfl)) pOKu) (show NKp (m4.2 18) (m4.2 19) by rewrite [(show (m4.2 18) = (m.2 18) from (fr2 Fm4 18 rfl)), (show (m4.2 19) = (m.2 19) from (fr2 Fm4 19 rfl))]; exact hNK) (show DEp (m4.1 224) (m4.2 45) (m4.2 46) (m4.2 47) (m4.2 49) by rewrite [(show (m4.1 224) = (m.1 224) from (fr1 Fm4 224 rfl)), (show (m4.2 45) = (m.2 45) from (fr2 Fm4 45 rfl)), (show (m4.2 46) = (m.2 46) from (fr2 Fm4 46 rfl)), (show (m4.2 47) = (m.2 47) from (fr2 Fm4 47 rfl)), (show (m4.2 49) = (m.2 49) from (fr2 Fm4 49 rfl))]; exact hDE) (show AcP (m4.1 223) (m4.1 224) (m4.2 43) (m4.2 44) by rewrite [(show (m4.1 223) = (m.1 223) from (fr1 Fm4 223 rfl)), (show (m4.1 224) = (m.1 224) from (fr1 Fm4 224 rfl)), (show (m4.2 43) = (m.2 43) from (fr2 Fm4 43 rfl)), (show (m4.2 44) = (m.2 44) from (fr2 Fm4 44 rfl))]; exact hAC) (show LTp (m4.1 219) (m4.2 74) (m4.1 223) by rewrite [(show (m4.1 219) = (m.1 219) from (fr1 Fm4 219 rfl)), (show (m4.2 74) = (m.2 74) from (fr2 Fm4 74 rfl)), (show (m4.1 223) = (m.1 223) from (fr1 Fm4 223 rfl))]; exact hTD) (show TCp (m4.1 219) (m4.2 78) (m4.2 89) (m4.1 223) by rewrite [(show (m4.1 219) = (m.1 219) from (fr1 Fm4 219 rfl)), (show (m4.2 78) = (m.2 78) from (fr2 Fm4 78 rfl)), (show (m4.2 89) = (m.2 89) from (fr2 Fm4 89 rfl)), (show (m4.1 223) = (m.1 223) from (fr1 Fm4 223 rfl))]; exact hTC) (show SPp (m4.1 225) (m4.2 52) (m4.2 58) (m4.2 55) (m4.2 56) (m4.1 219) (m4.1 224) by rewrite [(show (m4.1 225) = (m.1 225) from (fr1 Fm4 225 rfl)), (show (m4.2 52) = (m.2 52) from (fr2 Fm4 52 rfl)), (show (m4.2 58) = (m.2 58) from (fr2 Fm4 58 rfl)), (show (m4.2 55) = (m.2 55) from (fr2 Fm4 55 rfl)), (show (m4.2 56) = (m.2 56) from (fr2 Fm4 56 rfl)), (show (m4.1 219) = (m.1 219) from (fr1 Fm4 219 rfl)), (show (m4.1 224) = (m.1 224) from (fr1 Fm4 224 rfl))]; exact hSP) (show 0 ≤ v3 ∧ v3 < (m4.1 225) by rewrite [(show (m4.1 225) = (m.1 225) from (fr1 Fm4 225 rfl))]; omega))) (fun rr29 k30 => ?_)
                  obtain ⟨m31, x32, Tm31, Fm31, g33, rfl⟩ := k30
                  refine Or.inl ⟨_, _, _, _, rfl, ?_⟩
                  refine K_nb (st' := [.int (i32 x32), .int (i32 v3), .ref (obq (m.2 107) u + (2 + 1))]) rfl ?_
                  obtain ⟨g33a, g33b⟩ := g33
                  have G34 : ∀ j, (-2147483648) ≤ (upI (m4.2 102) (65536 * u + v3) x32) j ∧ (upI (m4.2 102) (65536 * u + v3) x32) j ≤ 2147483647 := upI_rg (Tm4.2.1 102) ⟨by omega, by omega⟩
                  refine K_iasto (a' := [(102, upI (m4.2 102) (65536 * u + v3) x32)]) 150 2 (m4.2 102) rfl rfl rfl (OKr_c (show (m31.2 107) = (m.2 107) from ((fr2 Fm31 107 rfl).trans (fr2 Fm4 107 rfl))) (show (m31.2 108) = (m.2 108) from ((fr2 Fm31 108 rfl).trans (fr2 Fm4 108 rfl))) pOKu) (show KTy (mO m31 [] []) from Tm31).2.2.1 (congrArg (fun f : Int → Int => (f u).toNat) (show (m31.2 107) = (m.2 107) from ((fr2 Fm31 107 rfl).trans (fr2 Fm4 107 rfl)))) (by omega) (show v3 < (48 : Int) by omega) (show (m31.2 102) = (m4.2 102) from (fr2 Fm31 102 rfl)) rfl ?_
                  refine T_iinc 153 [(5, .int (i32 (v3 + 1))), (6, .int (i32 ((m.2 53) v3))), (0, .ref (obq (m.2 107) u)), (1, .ref 12), (2, .int (i32 g)), (3, .ref 188), (4, .ref 59)] rfl rfl (by decide) rfl rfl ?_
                  refine T_goto 71 rfl (fun _ => rfl) ?_
                  refine Tm_lv (a := [(0, .ref (obq (m.2 107) u)), (1, .ref 12), (2, .int (i32 g)), (3, .ref 188), (4, .ref 59), (5, .int (i32 (v3 + 1)))]) rfl rfl ⟨rfl, rfl, rfl, rfl, rfl, rfl, trivial⟩ ?_
                  exact ih12 (v3 + 1) (mO m31 [] [(102, upI (m4.2 102) (65536 * u + v3) x32)]) (r32 (by omega) (by omega)) (KTy_mO Tm31 rfl rfl trivial ⟨G34, trivial⟩) (fr_m (fr_s Fm31 (fr_m (fr_s Fm4 (fr_m fr_0 rfl rfl) rfl rfl) rfl rfl) rfl rfl) rfl rfl) (show 0 ≤ (v3 + 1) by omega) (show 0 ≤ (v3 + 1) ∧ (v3 + 1) ≤ 48 by omega) (show 60 - (v3 + 1) < (n11 : Int) by omega)
    refine Tm_lv (a := [(0, .ref (obq (m.2 107) u)), (1, .ref 12), (2, .int (i32 g)), (3, .ref 188), (4, .ref 59), (5, .int (i32 0))]) rfl rfl ⟨rfl, rfl, rfl, rfl, rfl, rfl, trivial⟩ ?_
    exact L71_5 ((60 - (0 : Int) : Int) + 1).toNat 0 (mO m [] []) ⟨by decide, by decide⟩ hT (fr_m fr_0 rfl rfl) (show 0 ≤ (0 : Int) by omega) (show 0 ≤ (0 : Int) ∧ (0 : Int) ≤ 48 by omega) (show 60 - (0 : Int) < ((((60 - (0 : Int) : Int) + 1).toNat : Nat) : Int) by omega)
  · skip
    refine T_ld 15 (.ref 59) rfl (fun _ => rfl) ?_
    refine T_ld 16 (.ref (obq (m.2 107) u)) rfl (fun _ => rfl) ?_
    refine K_goi 19 95 (m.2 95) rfl rfl pOKu rfl rfl rfl ?_
    have e35 : 0 ≤ m.2 95 u ∧ m.2 95 u ≤ 7 := hT.2.1 95 u
    refine T_callx 22 142 [.ref 59, .int (i32 ((m.2 95) u))] [] rfl (fun _ => rfl) rfl rfl (c_sp_applying w (mO m [] []) c N D (by omega) hT ((m.2 95) u) (r32 (by omega) (by omega))) (fun rr36 k37 => ?_)
    obtain ⟨x38, g39, h40, rfl⟩ := k37
    refine Or.inl ⟨_, _, _, _, rfl, ?_⟩
    refine T_ns (st' := [.int (i32 x38)]) rfl ?_
    obtain ⟨g39a, g39b⟩ := g39
    replace h40 : x38 < (m.1 225) := h40
    refine T_sto 24 [(5, .int (i32 x38)), (4, .ref 59), (0, .ref (obq (m.2 107) u)), (1, .ref 12), (2, .int (i32 g)), (3, .ref 188)] rfl (fun _ => rfl) ?_
    refine T_ld 25 (.int (i32 g)) rfl (fun _ => rfl) ?_
    refine T_ld 27 (.int (i32 x38)) rfl (fun _ => rfl) ?_
    refine T_ld 28 (.int (i32 (-1))) rfl (fun _ => rfl) ?_
    refine T_icmp 35 31 rfl rfl rfl (r32 (by omega) (by omega)) ⟨by decide, by decide⟩ (fun (h41 : x38 ≠ (-1)) => ?_) (fun (h41 : ¬ (x38 ≠ (-1))) => ?_)
    · skip
      refine T_ld 37 (.ref 59) rfl (fun _ => rfl) ?_
      refine K_gf 40 (.ref 67) rfl rfl kd_59 rfl rfl rfl ?_
      refine T_ld 42 (.int (i32 x38)) rfl (fun _ => rfl) ?_
      refine K_iald 43 59 (m.2 59) rfl rfl rfl (by omega) (show x38 < (48 : Int) by omega) rfl ?_
      have e42 : 0 ≤ m.2 59 x38 ∧ m.2 59 x38 ≤ 11 := hT.2.1 59 x38
      refine T_icmp 67 46 rfl rfl rfl (r32 (by omega) (by omega)) (r32 (by omega) (by omega)) (fun (h43 : g ≠ (m.2 59) x38) => ?_) (fun (h43 : ¬ (g ≠ (m.2 59) x38)) => ?_)
      · skip
        refine T_ret rfl (fun _ => rfl) ?_
        exact ⟨(mO m [] []), hT, (fr_m fr_0 rfl rfl), (show TCp (m.1 219) (m.2 78) (m.2 89) (m.1 223) by first | (exact hTC) | (exfalso; omega)), rfl⟩
      · skip
        refine T_ld 47 (.ref (obq (m.2 107) u)) rfl (fun _ => rfl) ?_
        refine T_ld 48 (.ref 12) rfl (fun _ => rfl) ?_
        refine K_gf 51 (.ref 21) rfl rfl kd_12 rfl rfl rfl ?_
        refine T_ld 52 (.ref (obq (m.2 107) u)) rfl (fun _ => rfl) ?_
        refine K_goi 55 95 (m.2 95) rfl rfl pOKu rfl rfl rfl ?_
        have e44 : 0 ≤ m.2 95 u ∧ m.2 95 u ≤ 7 := hT.2.1 95 u
        refine K_aatb 56 rfl (by omega) (by omega) rfl ?_
        refine T_ld 57 (.ref (obq (m.2 107) u)) rfl (fun _ => rfl) ?_
        refine T_ld 58 (.ref 12) rfl (fun _ => rfl) ?_
        refine K_gf 61 (.ref 45) rfl rfl kd_12 rfl rfl rfl ?_
        refine T_callx 64 187 [.ref (tbr ((m.2 95) u)), .ref (obq (m.2 107) u), .ref 45] [.ref (obq (m.2 107) u)] rfl (inv_vt (args := [.ref 45, .ref (obq (m.2 107) u)]) (khp_t0 _ (by omega) (by omega)) rfl rfl rfl) rfl rfl (c_tb_serve w (mO m [] []) c N D (by omega) hT ((m.2 95) u) u (r32 (by omega) (by omega)) (r32 (by omega) (by omega)) (show 0 ≤ ((m.2 95) u) ∧ ((m.2 95) u) ≤ 7 by omega) pOKu (show TLp (m.1 219) (m.2 73) (m.2 83) (m.1 223) by exact hTL) (show TCp (m.1 219) (m.2 78) (m.2 89) (m.1 223) by exact hTC)) (fun rr45 k46 => ?_)
        obtain ⟨m47, x48, Tm47, Fm47, g49, h50, rfl⟩ := k46
        refine Or.inl ⟨_, _, _, _, rfl, ?_⟩
        refine K_nb (st' := [.int (i32 x48), .ref (obq (m.2 107) u)]) rfl ?_
        obtain ⟨g49a, g49b⟩ := g49
        replace h50 : TCp (m.1 219) (m47.2 78) (m47.2 89) (m.1 223) := h50
        have hTC := h50
        have G51 : ∀ j, 0 ≤ (upI (m.2 98) u x48) j ∧ (upI (m.2 98) u x48) j ≤ 2 := upI_rg (hT.2.1 98) ⟨by omega, by omega⟩
        refine K_poi (a' := [(98, upI (m.2 98) u x48)]) 67 98 (m.2 98) rfl rfl rfl (OKr_c (show (m47.2 107) = (m.2 107) from (fr2 Fm47 107 rfl)) (show (m47.2 108) = (m.2 108) from (fr2 Fm47 108 rfl)) pOKu) (show KTy (mO m47 [] []) from Tm47).2.2.1 (congrArg (fun f : Int → Int => (f u).toNat) (show (m47.2 107) = (m.2 107) from (fr2 Fm47 107 rfl))) (show (m47.2 98) = (m.2 98) from (fr2 Fm47 98 rfl)) rfl rfl ?_
        refine T_ret rfl (fun _ => rfl) ?_
        exact ⟨(mO m47 [] [(98, upI (m.2 98) u x48)]), (KTy_mO Tm47 rfl rfl trivial ⟨G51, trivial⟩), (fr_m (fr_s Fm47 (fr_m fr_0 rfl rfl) rfl rfl) rfl rfl), (show TCp (m.1 219) (m47.2 78) (m47.2 89) (m.1 223) by first | (exact hTC) | (exfalso; omega)), rfl⟩
    · skip
      refine T_ld 32 (.int (i32 0)) rfl (fun _ => rfl) ?_
      refine T_goto 43 rfl (fun _ => rfl) ?_
      refine T_icmp 67 46 rfl rfl rfl (r32 (by omega) (by omega)) ⟨by decide, by decide⟩ (fun (h52 : g ≠ 0) => ?_) (fun (h52 : ¬ (g ≠ 0)) => ?_)
      · skip
        refine T_ret rfl (fun _ => rfl) ?_
        exact ⟨(mO m [] []), hT, (fr_m fr_0 rfl rfl), (show TCp (m.1 219) (m.2 78) (m.2 89) (m.1 223) by first | (exact hTC) | (exfalso; omega)), rfl⟩
      · skip
        refine T_ld 47 (.ref (obq (m.2 107) u)) rfl (fun _ => rfl) ?_
        refine T_ld 48 (.ref 12) rfl (fun _ => rfl) ?_
        refine K_gf 51 (.ref 21) rfl rfl kd_12 rfl rfl rfl ?_
        refine T_ld 52 (.ref (obq (m.2 107) u)) rfl (fun _ => rfl) ?_
        refine K_goi 55 95 (m.2 95) rfl rfl pOKu rfl rfl rfl ?_
        have e53 : 0 ≤ m.2 95 u ∧ m.2 95 u ≤ 7 := hT.2.1 95 u
        refine K_aatb 56 rfl (by omega) (by omega) rfl ?_
        refine T_ld 57 (.ref (obq (m.2 107) u)) rfl (fun _ => rfl) ?_
        refine T_ld 58 (.ref 12) rfl (fun _ => rfl) ?_
        refine K_gf 61 (.ref 45) rfl rfl kd_12 rfl rfl rfl ?_
        refine T_callx 64 187 [.ref (tbr ((m.2 95) u)), .ref (obq (m.2 107) u), .ref 45] [.ref (obq (m.2 107) u)] rfl (inv_vt (args := [.ref 45, .ref (obq (m.2 107) u)]) (khp_t0 _ (by omega) (by omega)) rfl rfl rfl) rfl rfl (c_tb_serve w (mO m [] []) c N D (by omega) hT ((m.2 95) u) u (r32 (by omega) (by omega)) (r32 (by omega) (by omega)) (show 0 ≤ ((m.2 95) u) ∧ ((m.2 95) u) ≤ 7 by omega) pOKu (show TLp (m.1 219) (m.2 73) (m.2 83) (m.1 223) by exact hTL) (show TCp (m.1 219) (m.2 78) (m.2 89) (m.1 223) by exact hTC)) (fun rr54 k55 => ?_)
        obtain ⟨m56, x57, Tm56, Fm56, g58, h59, rfl⟩ := k55
        refine Or.inl ⟨_, _, _, _, rfl, ?_⟩
        refine K_nb (st' := [.int (i32 x57), .ref (obq (m.2 107) u)]) rfl ?_
        obtain ⟨g58a, g58b⟩ := g58
        replace h59 : TCp (m.1 219) (m56.2 78) (m56.2 89) (m.1 223) := h59
        have hTC := h59
        have G60 : ∀ j, 0 ≤ (upI (m.2 98) u x57) j ∧ (upI (m.2 98) u x57) j ≤ 2 := upI_rg (hT.2.1 98) ⟨by omega, by omega⟩
        refine K_poi (a' := [(98, upI (m.2 98) u x57)]) 67 98 (m.2 98) rfl rfl rfl (OKr_c (show (m56.2 107) = (m.2 107) from (fr2 Fm56 107 rfl)) (show (m56.2 108) = (m.2 108) from (fr2 Fm56 108 rfl)) pOKu) (show KTy (mO m56 [] []) from Tm56).2.2.1 (congrArg (fun f : Int → Int => (f u).toNat) (show (m56.2 107) = (m.2 107) from (fr2 Fm56 107 rfl))) (show (m56.2 98) = (m.2 98) from (fr2 Fm56 98 rfl)) rfl rfl ?_
        refine T_ret rfl (fun _ => rfl) ?_
        exact ⟨(mO m56 [] [(98, upI (m.2 98) u x57)]), (KTy_mO Tm56 rfl rfl trivial ⟨G60, trivial⟩), (fr_m (fr_s Fm56 (fr_m fr_0 rfl rfl) rfl rfl) rfl rfl), (show TCp (m.1 219) (m56.2 78) (m56.2 89) (m.1 223) by first | (exact hTC) | (exfalso; omega)), rfl⟩
def fF_op_extract : List Nat := []
def fA_op_extract : List Nat := [94, 101]
def Q_op_extract (m : mR) (c : Nat → Option am_C) (N : Nat) (u : Int) (i : Int) : ag_Re af_T → Prop := fun R => (∃ (M : mR) (r : Int), KTy M ∧ fr fF_op_extract fA_op_extract m M ∧ (0 ≤ r ∧ r ≤ 1) ∧ (XTp u (m.2 94) (M.2 94) ((m.2 92) u)) ∧ R = (.inl (some (.int (i32 r))), (khp M c, N), 0, 0))
set_option maxHeartbeats 3000000 in
theorem c_op_extract (w : wX) (m : mR) (c : Nat → Option am_C) (N D : Nat) (hD : 2 ≤ D) (hT : KTy m) (u : Int) (i : Int) (qu : R32 u) (qi : R32 i) (pOKu : OKr m u) (p1 : 0 ≤ i ∧ i ≤ 11) (p2 : (m.2 92) u ≤ 128) (p3 : (m.2 94) u ≤ (m.2 92) u) : TC w D 182 [.ref (obq (m.2 107) u), .ref 12, .int (i32 i)] (khp m c, N) (Q_op_extract m c N u i) := by
  obtain ⟨D, rfl⟩ : ∃ k, D = k + 1 := ⟨D - 1, by omega⟩
  obtain ⟨qua, qub⟩ := id qu
  obtain ⟨qia, qib⟩ := id qi
  refine Tc_of rfl ?_
  rw [show (khp m c, N) = (khp (mO m [] []) c, N) from by rw [mO_nil m]]
  show TT w D pm_182 (0, [(0, .ref (obq (m.2 107) u)), (1, .ref 12), (2, .int (i32 i))], [], (khp (mO m [] []) c, N), 0, 0) (Q_op_extract m c N u i)
  refine T_ld 1 (.int (i32 i)) rfl (fun _ => rfl) ?_
  refine T_ld 3 (.int (i32 17)) rfl (fun _ => rfl) ?_
  refine T_imul 4 rfl rfl ?_
  refine T_sto 5 [(3, .int (i32 (i * 17))), (0, .ref (obq (m.2 107) u)), (1, .ref 12), (2, .int (i32 i))] rfl (fun _ => rfl) ?_
  refine T_ld 6 (.ref 12) rfl (fun _ => rfl) ?_
  refine T_ld 7 (.ref 12) rfl (fun _ => rfl) ?_
  refine K_gf 10 (.ref 16) rfl rfl kd_12 rfl rfl rfl ?_
  refine T_ld 11 (.int (i32 i)) rfl (fun _ => rfl) ?_
  refine K_iald 12 13 (m.2 13) rfl rfl rfl (by omega) (show i < (12 : Int) by omega) rfl ?_
  have e1 : 0 ≤ m.2 13 i ∧ m.2 13 i ≤ 11 := hT.2.1 13 i
  refine T_callx 15 29 [.ref 12, .int (i32 ((m.2 13) i))] [] rfl (fun _ => rfl) rfl rfl (c_pr_headerBits w (mO m [] []) c N D (by omega) hT ((m.2 13) i) (r32 (by omega) (by omega)) (show 0 ≤ ((m.2 13) i) ∧ ((m.2 13) i) ≤ 11 by omega)) (fun rr2 k3 => ?_)
  obtain ⟨hbr, g4, h5, rfl⟩ := k3
  refine Or.inl ⟨_, _, _, _, rfl, ?_⟩
  refine T_ns (st' := [.int (i32 hbr)]) rfl ?_
  obtain ⟨g4a, g4b⟩ := g4
  replace h5 : hbr = hb (m.2 10) ((m.2 13) i) 16 := h5
  have hHr := h5
  refine T_ld 17 (.int (i32 8)) rfl (fun _ => rfl) ?_
  refine T_idiv 18 rfl rfl (by omega) (by omega) (by omega) (by omega) ?_
  refine T_sto 20 [(4, .int (i32 (hbr / 8))), (3, .int (i32 (i * 17))), (0, .ref (obq (m.2 107) u)), (1, .ref 12), (2, .int (i32 i))] rfl (fun _ => rfl) ?_
  refine T_ld 21 (.ref (obq (m.2 107) u)) rfl (fun _ => rfl) ?_
  refine K_gor 24 rfl rfl pOKu rfl rfl ?_
  refine T_ld 25 (.int (i32 (i * 17))) rfl (fun _ => rfl) ?_
  refine K_lalo 26 1 (m.2 101) rfl rfl rfl pOKu rfl (by omega) (show (i * 17) < (221 : Int) by omega) rfl ?_
  have e6 : (-9223372036854775808) ≤ (m.2 101) (65536 * u + (i * 17)) ∧ (m.2 101) (65536 * u + (i * 17)) ≤ 9223372036854775807 := (hT.2.1 101) (65536 * u + (i * 17))
  refine T_ld 27 (.long (i64 0)) rfl (fun _ => rfl) ?_
  refine T_lcmp 28 rfl rfl (r64 (by omega) (by omega)) ⟨by decide, by decide⟩ (fun z7 h8 => ?_)
  obtain ⟨h8a, h8b, h8c, h8d, h8e⟩ := h8
  refine T_if 45 31 rfl rfl rfl (r32 (by omega) (by omega)) (fun (h9 : z7 ≠ 0) => ?_) (fun (h9 : ¬ (z7 ≠ 0)) => ?_)
  · skip
    have hl10 : (m.2 101) (65536 * u + (i * 17)) ≠ 0 := by omega
    refine T_ld 46 (.int (i32 0)) rfl (fun _ => rfl) ?_
    refine T_ret rfl (fun _ => rfl) ?_
    exact ⟨(mO m [] []), 0, hT, (fr_m fr_0 rfl rfl), ⟨by omega, by omega⟩, (show XTp u (m.2 94) (m.2 94) ((m.2 92) u) by first | (first | exact XT_0 (by omega) | exact XT_u (XT_0 (by omega)) (by omega)) | (exfalso; omega)), rfl⟩
  · skip
    have hl11 : (m.2 101) (65536 * u + (i * 17)) = 0 := by omega
    refine T_ld 32 (.ref (obq (m.2 107) u)) rfl (fun _ => rfl) ?_
    refine K_goi 35 94 (m.2 94) rfl rfl pOKu rfl rfl rfl ?_
    have e12 : 0 ≤ (m.2 94) u ∧ (m.2 94) u ≤ 128 := (hT.2.1 94) u
    refine T_ld 37 (.int (i32 (hbr / 8))) rfl (fun _ => rfl) ?_
    refine T_iadd 38 rfl rfl ?_
    refine T_ld 39 (.ref (obq (m.2 107) u)) rfl (fun _ => rfl) ?_
    refine K_goi 42 92 (m.2 92) rfl rfl pOKu rfl rfl rfl ?_
    have e13 : 0 ≤ m.2 92 u ∧ m.2 92 u ≤ 896 := hT.2.1 92 u
    refine T_icmp 47 45 rfl rfl rfl (r32 (by omega) (by omega)) (r32 (by omega) (by omega)) (fun (h14 : ((m.2 94) u) + (hbr / 8) ≤ (m.2 92) u) => ?_) (fun (h14 : ¬ (((m.2 94) u) + (hbr / 8) ≤ (m.2 92) u)) => ?_)
    · skip
      refine T_ld 48 (.ref (obq (m.2 107) u)) rfl (fun _ => rfl) ?_
      refine K_gor 51 rfl rfl pOKu rfl rfl ?_
      refine T_ld 52 (.int (i32 (i * 17))) rfl (fun _ => rfl) ?_
      refine T_ld 53 (.long (i64 1)) rfl (fun _ => rfl) ?_
      have G15 : ∀ j, (-9223372036854775808) ≤ (upI (m.2 101) (65536 * u + (i * 17)) 1) j ∧ (upI (m.2 101) (65536 * u + (i * 17)) 1) j ≤ 9223372036854775807 := upI_rg (hT.2.1 101) ⟨by omega, by omega⟩
      refine K_lasto (a' := [(101, upI (m.2 101) (65536 * u + (i * 17)) 1)]) 54 1 (m.2 101) rfl rfl rfl pOKu (show KTy (mO m [] []) from hT).2.2.1 rfl (by omega) (show (i * 17) < (221 : Int) by omega) rfl rfl ?_
      refine T_ld 55 (.ref (obq (m.2 107) u)) rfl (fun _ => rfl) ?_
      refine K_goi 58 94 (m.2 94) rfl rfl pOKu rfl rfl rfl ?_
      have e16 : 0 ≤ (m.2 94) u ∧ (m.2 94) u ≤ 128 := (hT.2.1 94) u
      refine T_ld 60 (.int (i32 8)) rfl (fun _ => rfl) ?_
      refine T_imul 61 rfl rfl ?_
      refine T_sto 63 [(5, .int (i32 (((m.2 94) u) * 8))), (4, .int (i32 (hbr / 8))), (3, .int (i32 (i * 17))), (0, .ref (obq (m.2 107) u)), (1, .ref 12), (2, .int (i32 i))] rfl (fun _ => rfl) ?_
      refine T_ld 64 (.int (i32 0)) rfl (fun _ => rfl) ?_
      refine T_sto 66 [(6, .int (i32 0)), (5, .int (i32 (((m.2 94) u) * 8))), (4, .int (i32 (hbr / 8))), (3, .int (i32 (i * 17))), (0, .ref (obq (m.2 107) u)), (1, .ref 12), (2, .int (i32 i))] rfl (fun _ => rfl) ?_
      refine K_fl (KTy_mO hT rfl rfl trivial ⟨G15, trivial⟩) (fun m17 Tm17 Fm17 => ?_)
      have L66_21 : ∀ (n30 : Nat) (v18 : Int) (v19 : Int) (m20 : mR), (R32 v18) → (R32 v19) → KTy m20 → fr [] [101] (mO m17 [] []) m20 → (0 ≤ v18) → (0 ≤ v19) → (0 ≤ v19 ∧ v19 ≤ 16) → (0 ≤ v18 ∧ v18 ≤ 1024 + 64 * v19) → 20 - v19 < (n30 : Int) → TT w D pm_182 (66, [(0, .ref (obq (m.2 107) u)), (1, .ref 12), (2, .int (i32 i)), (3, .int (i32 (i * 17))), (4, .int (i32 (hbr / 8))), (5, .int (i32 v18)), (6, .int (i32 v19))], [], (khp (mO m20 [] []) c, N), 0, 0) (Q_op_extract m c N u i) := by
        intro n30
        induction n30 with
        | zero =>
          intro v18 v19 m20 q26 q27 Tm20 Fm20 ic22 ic23 ic24 ic25 hmu
          obtain ⟨q26a, q26b⟩ := id q26
          obtain ⟨q27a, q27b⟩ := id q27
          exfalso
          omega
        | succ n30 ih =>
          intro v18 v19 m20 q26 q27 Tm20 Fm20 ic22 ic23 ic24 ic25 hmu
          obtain ⟨q26a, q26b⟩ := id q26
          obtain ⟨q27a, q27b⟩ := id q27
          have ih31 := ih
          refine T_ld 68 (.int (i32 v19)) rfl (fun _ => rfl) ?_
          refine T_ld 70 (.int (i32 16)) rfl (fun _ => rfl) ?_
          refine T_icmp 152 73 rfl rfl rfl (r32 (by omega) (by omega)) ⟨by decide, by decide⟩ (fun (h32 : (16 : Int) ≤ v19) => ?_) (fun (h32 : ¬ ((16 : Int) ≤ v19)) => ?_)
          · skip
            refine T_ld 153 (.ref (obq (m.2 107) u)) rfl (fun _ => rfl) ?_
            refine T_ld 154 (.ref (obq (m.2 107) u)) rfl (fun _ => rfl) ?_
            refine K_goi 157 94 (m.2 94) rfl rfl (OKr_c (show (m20.2 107) = (m.2 107) from ((fr2 Fm20 107 rfl).trans (fr2 Fm17 107 rfl))) (show (m20.2 108) = (m.2 108) from ((fr2 Fm20 108 rfl).trans (fr2 Fm17 108 rfl))) pOKu) (congrArg (fun f : Int → Int => (f u).toNat) (show (m20.2 107) = (m.2 107) from ((fr2 Fm20 107 rfl).trans (fr2 Fm17 107 rfl)))) (show (m20.2 94) = (m.2 94) from ((fr2 Fm20 94 rfl).trans (fr2 Fm17 94 rfl))) rfl ?_
            have e33 : 0 ≤ (m.2 94) u ∧ (m.2 94) u ≤ 128 := (hT.2.1 94) u
            refine T_ld 159 (.int (i32 (hbr / 8))) rfl (fun _ => rfl) ?_
            refine T_iadd 160 rfl rfl ?_
            have G34 : ∀ j, 0 ≤ (upI (m.2 94) u (((m.2 94) u) + (hbr / 8))) j ∧ (upI (m.2 94) u (((m.2 94) u) + (hbr / 8))) j ≤ 128 := upI_rg (hT.2.1 94) ⟨by omega, by omega⟩
            refine K_poi (a' := [(94, upI (m.2 94) u (((m.2 94) u) + (hbr / 8)))]) 163 94 (m.2 94) rfl rfl rfl (OKr_c (show (m20.2 107) = (m.2 107) from ((fr2 Fm20 107 rfl).trans (fr2 Fm17 107 rfl))) (show (m20.2 108) = (m.2 108) from ((fr2 Fm20 108 rfl).trans (fr2 Fm17 108 rfl))) pOKu) (show KTy (mO m20 [] []) from Tm20).2.2.1 (congrArg (fun f : Int → Int => (f u).toNat) (show (m20.2 107) = (m.2 107) from ((fr2 Fm20 107 rfl).trans (fr2 Fm17 107 rfl)))) (show (m20.2 94) = (m.2 94) from ((fr2 Fm20 94 rfl).trans (fr2 Fm17 94 rfl))) rfl rfl ?_
            refine T_ld 164 (.int (i32 1)) rfl (fun _ => rfl) ?_
            refine T_ret rfl (fun _ => rfl) ?_
            exact ⟨(mO m20 [] [(94, upI (m.2 94) u (((m.2 94) u) + (hbr / 8)))]), 1, (KTy_mO Tm20 rfl rfl trivial ⟨G34, trivial⟩), (fr_m (fr_s Fm20 (fr_m (fr_s Fm17 (fr_m fr_0 rfl rfl) rfl rfl) rfl rfl) rfl rfl) rfl rfl), ⟨by omega, by omega⟩, (show XTp u (m.2 94) (upI (m.2 94) u (((m.2 94) u) + (hbr / 8))) ((m.2 92) u) by first | (first | exact XT_0 (by omega) | exact XT_u (XT_0 (by omega)) (by omega)) | (exfalso; omega)), rfl⟩
          · skip
            refine T_ld 74 (.ref 12) rfl (fun _ => rfl) ?_
            refine T_ld 75 (.int (i32 i)) rfl (fun _ => rfl) ?_
            refine T_ld 77 (.int (i32 v19)) rfl (fun _ => rfl) ?_
            refine T_callx 80 101 [.ref 12, .int (i32 i), .int (i32 v19)] [] rfl (fun _ => rfl) rfl rfl (c_pr_widthOfField w (mO m20 [] []) c N D (by omega) Tm20 i v19 (r32 (by omega) (by omega)) (r32 (by omega) (by omega)) (show 0 ≤ i ∧ i ≤ 11 by omega) (show 0 ≤ v19 by omega)) (fun rr35 k36 => ?_)
            obtain ⟨wf, g37, h38, rfl⟩ := k36
            refine Or.inl ⟨_, _, _, _, rfl, ?_⟩
            refine T_ns (st' := [.int (i32 wf)]) rfl ?_
            obtain ⟨g37a, g37b⟩ := g37
            replace h38 : v19 ≤ 15 → wf = (m20.2 10) ((m20.2 13) i * 16 + v19) := h38
            rewrite [(show (m20.2 10) = (m.2 10) from ((fr2 Fm20 10 rfl).trans (fr2 Fm17 10 rfl))), (show (m20.2 13) = (m.2 13) from ((fr2 Fm20 13 rfl).trans (fr2 Fm17 13 rfl)))] at h38
            have hWf := h38
            refine T_sto 82 [(7, .int (i32 wf)), (0, .ref (obq (m.2 107) u)), (1, .ref 12), (2, .int (i32 i)), (3, .int (i32 (i * 17))), (4, .int (i32 (hbr / 8))), (5, .int (i32 v18)), (6, .int (i32 v19))] rfl (fun _ => rfl) ?_
            refine T_ld 83 (.long (i64 0)) rfl (fun _ => rfl) ?_
            refine T_sto 85 [(8, .long (i64 0)), (7, .int (i32 wf)), (0, .ref (obq (m.2 107) u)), (1, .ref 12), (2, .int (i32 i)), (3, .int (i32 (i * 17))), (4, .int (i32 (hbr / 8))), (5, .int (i32 v18)), (6, .int (i32 v19))] rfl (fun _ => rfl) ?_
            refine T_ld 86 (.int (i32 0)) rfl (fun _ => rfl) ?_
            refine T_sto 88 [(10, .int (i32 0)), (8, .long (i64 0)), (7, .int (i32 wf)), (0, .ref (obq (m.2 107) u)), (1, .ref 12), (2, .int (i32 i)), (3, .int (i32 (i * 17))), (4, .int (i32 (hbr / 8))), (5, .int (i32 v18)), (6, .int (i32 v19))] rfl (fun _ => rfl) ?_
            have L88_42 : ∀ (n51 : Nat) (v39 : Int) (v40 : Int) (v41 : Int), (R32 v39) → (R64 v40) → (R32 v41) → (0 ≤ v39) → (0 ≤ v41) → (0 ≤ v41 ∧ v41 ≤ 64) → (0 ≤ v39 ∧ v39 ≤ 1024 + 64 * v19 + v41) → 100 - v41 < (n51 : Int) → TT w D pm_182 (88, [(0, .ref (obq (m.2 107) u)), (1, .ref 12), (2, .int (i32 i)), (3, .int (i32 (i * 17))), (4, .int (i32 (hbr / 8))), (5, .int (i32 v39)), (6, .int (i32 v19)), (7, .int (i32 wf)), (8, .long (i64 v40)), (10, .int (i32 v41))], [], (khp (mO m20 [] []) c, N), 0, 0) (Q_op_extract m c N u i) := by
              intro n51
              induction n51 with
              | zero =>
                intro v39 v40 v41 q47 q48 q49 ic43 ic44 ic45 ic46 hmu
                obtain ⟨q47a, q47b⟩ := id q47
                obtain ⟨q48a, q48b⟩ := id q48
                obtain ⟨q49a, q49b⟩ := id q49
                exfalso
                omega
              | succ n51 ih =>
                intro v39 v40 v41 q47 q48 q49 ic43 ic44 ic45 ic46 hmu
                obtain ⟨q47a, q47b⟩ := id q47
                obtain ⟨q48a, q48b⟩ := id q48
                obtain ⟨q49a, q49b⟩ := id q49
                have ih52 := ih
                refine T_ld 90 (.int (i32 v41)) rfl (fun _ => rfl) ?_
                refine T_ld 92 (.int (i32 wf)) rfl (fun _ => rfl) ?_
                refine T_icmp 133 95 rfl rfl rfl (r32 (by omega) (by omega)) (r32 (by omega) (by omega)) (fun (h53 : wf ≤ v41) => ?_) (fun (h53 : ¬ (wf ≤ v41)) => ?_)
                · skip
                  refine T_ld 134 (.ref (obq (m.2 107) u)) rfl (fun _ => rfl) ?_
                  refine K_gor 137 rfl rfl (OKr_c (show (m20.2 107) = (m.2 107) from ((fr2 Fm20 107 rfl).trans (fr2 Fm17 107 rfl))) (show (m20.2 108) = (m.2 108) from ((fr2 Fm20 108 rfl).trans (fr2 Fm17 108 rfl))) pOKu) (congrArg (fun f : Int → Int => (f u).toNat) (show (m20.2 107) = (m.2 107) from ((fr2 Fm20 107 rfl).trans (fr2 Fm17 107 rfl)))) rfl ?_
                  refine T_ld 138 (.int (i32 (i * 17))) rfl (fun _ => rfl) ?_
                  refine T_ld 139 (.int (i32 1)) rfl (fun _ => rfl) ?_
                  refine T_iadd 140 rfl rfl ?_
                  refine T_ld 142 (.int (i32 v19)) rfl (fun _ => rfl) ?_
                  refine T_iadd 143 rfl rfl ?_
                  refine T_ld 145 (.long (i64 v40)) rfl (fun _ => rfl) ?_
                  have G54 : ∀ j, (-9223372036854775808) ≤ (upI (m20.2 101) (65536 * u + (((i * 17) + 1) + v19)) v40) j ∧ (upI (m20.2 101) (65536 * u + (((i * 17) + 1) + v19)) v40) j ≤ 9223372036854775807 := upI_rg (Tm20.2.1 101) ⟨by omega, by omega⟩
                  refine K_lasto (a' := [(101, upI (m20.2 101) (65536 * u + (((i * 17) + 1) + v19)) v40)]) 146 1 (m20.2 101) rfl rfl rfl (OKr_c (show (m20.2 107) = (m.2 107) from ((fr2 Fm20 107 rfl).trans (fr2 Fm17 107 rfl))) (show (m20.2 108) = (m.2 108) from ((fr2 Fm20 108 rfl).trans (fr2 Fm17 108 rfl))) pOKu) (show KTy (mO m20 [] []) from Tm20).2.2.1 (congrArg (fun f : Int → Int => (f u).toNat) (show (m20.2 107) = (m.2 107) from ((fr2 Fm20 107 rfl).trans (fr2 Fm17 107 rfl)))) (by omega) (show (((i * 17) + 1) + v19) < (221 : Int) by omega) rfl rfl ?_
                  refine T_iinc 149 [(6, .int (i32 (v19 + 1))), (0, .ref (obq (m.2 107) u)), (1, .ref 12), (2, .int (i32 i)), (3, .int (i32 (i * 17))), (4, .int (i32 (hbr / 8))), (5, .int (i32 v39)), (7, .int (i32 wf)), (8, .long (i64 v40)), (10, .int (i32 v41))] rfl rfl (by decide) rfl rfl ?_
                  refine T_goto 66 rfl (fun _ => rfl) ?_
                  refine Tm_lv (a := [(0, .ref (obq (m.2 107) u)), (1, .ref 12), (2, .int (i32 i)), (3, .int (i32 (i * 17))), (4, .int (i32 (hbr / 8))), (5, .int (i32 v39)), (6, .int (i32 (v19 + 1)))]) rfl rfl ⟨rfl, rfl, rfl, rfl, rfl, rfl, rfl, trivial⟩ ?_
                  exact ih31 v39 (v19 + 1) (mO m20 [] [(101, upI (m20.2 101) (65536 * u + (((i * 17) + 1) + v19)) v40)]) (r32 (by omega) (by omega)) (r32 (by omega) (by omega)) (KTy_mO Tm20 rfl rfl trivial ⟨G54, trivial⟩) (fr_m (fr_s Fm20 (fr_m fr_0 rfl rfl) rfl rfl) rfl rfl) (show 0 ≤ v39 by omega) (show 0 ≤ (v19 + 1) by omega) (show 0 ≤ (v19 + 1) ∧ (v19 + 1) ≤ 16 by omega) (show 0 ≤ v39 ∧ v39 ≤ 1024 + 64 * (v19 + 1) by omega) (show 20 - (v19 + 1) < (n30 : Int) by omega)
                · skip
                  refine T_ld 97 (.long (i64 v40)) rfl (fun _ => rfl) ?_
                  refine T_ld 98 (.int (i32 1)) rfl (fun _ => rfl) ?_
                  refine T_lhv 99 _ rfl (fun _ => rfl) (fun z55 h56 => ?_)
                  obtain ⟨h56a, h56b⟩ := h56
                  refine T_ld 100 (.ref (obq (m.2 107) u)) rfl (fun _ => rfl) ?_
                  refine K_gor 103 rfl rfl (OKr_c (show (m20.2 107) = (m.2 107) from ((fr2 Fm20 107 rfl).trans (fr2 Fm17 107 rfl))) (show (m20.2 108) = (m.2 108) from ((fr2 Fm20 108 rfl).trans (fr2 Fm17 108 rfl))) pOKu) (congrArg (fun f : Int → Int => (f u).toNat) (show (m20.2 107) = (m.2 107) from ((fr2 Fm20 107 rfl).trans (fr2 Fm17 107 rfl)))) rfl ?_
                  refine T_ld 105 (.int (i32 v39)) rfl (fun _ => rfl) ?_
                  refine T_ld 107 (.int (i32 8)) rfl (fun _ => rfl) ?_
                  refine T_idiv 108 rfl rfl (by omega) (by omega) (by omega) (by omega) ?_
                  refine K_balo 109 0 (m.2 100) rfl rfl rfl (OKr_c (show (m20.2 107) = (m.2 107) from ((fr2 Fm20 107 rfl).trans (fr2 Fm17 107 rfl))) (show (m20.2 108) = (m.2 108) from ((fr2 Fm20 108 rfl).trans (fr2 Fm17 108 rfl))) pOKu) (congrArg (fun f : Int → Int => (f u).toNat) (show (m20.2 107) = (m.2 107) from ((fr2 Fm20 107 rfl).trans (fr2 Fm17 107 rfl)))) (by omega) (show (v39 / 8) < (896 : Int) by omega) (show (m20.2 100) = (m.2 100) from ((fr2 Fm20 100 rfl).trans (fr2 Fm17 100 rfl))) ?_
                  have e57 : (-128) ≤ m.2 100 (65536 * u + (v39 / 8)) ∧ m.2 100 (65536 * u + (v39 / 8)) ≤ 127 := hT.2.1 100 (65536 * u + (v39 / 8))
                  refine T_ld 111 (.int (i32 7)) rfl (fun _ => rfl) ?_
                  refine T_ld 113 (.int (i32 v39)) rfl (fun _ => rfl) ?_
                  refine T_ld 115 (.int (i32 8)) rfl (fun _ => rfl) ?_
                  refine T_irem 116 rfl rfl (by omega) (by omega) (by omega) (by omega) ?_
                  refine T_isub 117 rfl rfl ?_
                  refine T_hv 118 _ rfl (fun _ => rfl) (fun z58 h59 => ?_)
                  obtain ⟨h59a, h59b⟩ := h59
                  refine T_ld 119 (.int (i32 1)) rfl (fun _ => rfl) ?_
                  refine T_iand 120 rfl rfl (by decide) (by decide) (fun z60 h61 => ?_)
                  refine T_i2l 121 rfl rfl (r32 (by omega) (by omega)) ?_
                  refine T_lhv 122 _ rfl (fun _ => rfl) (fun z62 h63 => ?_)
                  obtain ⟨h63a, h63b⟩ := h63
                  refine T_sto 124 [(8, .long (i64 z62)), (0, .ref (obq (m.2 107) u)), (1, .ref 12), (2, .int (i32 i)), (3, .int (i32 (i * 17))), (4, .int (i32 (hbr / 8))), (5, .int (i32 v39)), (6, .int (i32 v19)), (7, .int (i32 wf)), (10, .int (i32 v41))] rfl (fun _ => rfl) ?_
                  refine T_iinc 127 [(5, .int (i32 (v39 + 1))), (8, .long (i64 z62)), (0, .ref (obq (m.2 107) u)), (1, .ref 12), (2, .int (i32 i)), (3, .int (i32 (i * 17))), (4, .int (i32 (hbr / 8))), (6, .int (i32 v19)), (7, .int (i32 wf)), (10, .int (i32 v41))] rfl rfl (by decide) rfl rfl ?_
                  refine T_iinc 130 [(10, .int (i32 (v41 + 1))), (5, .int (i32 (v39 + 1))), (8, .long (i64 z62)), (0, .ref (obq (m.2 107) u)), (1, .ref 12), (2, .int (i32 i)), (3, .int (i32 (i * 17))), (4, .int (i32 (hbr / 8))), (6, .int (i32 v19)), (7, .int (i32 wf))] rfl rfl (by decide) rfl rfl ?_
                  refine T_goto 88 rfl (fun _ => rfl) ?_
                  refine Tm_lv (a := [(0, .ref (obq (m.2 107) u)), (1, .ref 12), (2, .int (i32 i)), (3, .int (i32 (i * 17))), (4, .int (i32 (hbr / 8))), (5, .int (i32 (v39 + 1))), (6, .int (i32 v19)), (7, .int (i32 wf)), (8, .long (i64 z62)), (10, .int (i32 (v41 + 1)))]) rfl rfl ⟨rfl, rfl, rfl, rfl, rfl, rfl, rfl, rfl, rfl, rfl, trivial⟩ ?_
                  exact ih52 (v39 + 1) z62 (v41 + 1) (r32 (by omega) (by omega)) (r64 (by omega) (by omega)) (r32 (by omega) (by omega)) (show 0 ≤ (v39 + 1) by omega) (show 0 ≤ (v41 + 1) by omega) (show 0 ≤ (v41 + 1) ∧ (v41 + 1) ≤ 64 by omega) (show 0 ≤ (v39 + 1) ∧ (v39 + 1) ≤ 1024 + 64 * v19 + (v41 + 1) by omega) (show 100 - (v41 + 1) < (n51 : Int) by omega)
            refine Tm_lv (a := [(0, .ref (obq (m.2 107) u)), (1, .ref 12), (2, .int (i32 i)), (3, .int (i32 (i * 17))), (4, .int (i32 (hbr / 8))), (5, .int (i32 v18)), (6, .int (i32 v19)), (7, .int (i32 wf)), (8, .long (i64 0)), (10, .int (i32 0))]) rfl rfl ⟨rfl, rfl, rfl, rfl, rfl, rfl, rfl, rfl, rfl, rfl, trivial⟩ ?_
            exact L88_42 ((100 - (0 : Int) : Int) + 1).toNat v18 0 0 (r32 (by omega) (by omega)) ⟨by decide, by decide⟩ ⟨by decide, by decide⟩ (show 0 ≤ v18 by omega) (show 0 ≤ (0 : Int) by omega) (show 0 ≤ (0 : Int) ∧ (0 : Int) ≤ 64 by omega) (show 0 ≤ v18 ∧ v18 ≤ 1024 + 64 * v19 + (0 : Int) by omega) (show 100 - (0 : Int) < ((((100 - (0 : Int) : Int) + 1).toNat : Nat) : Int) by omega)
      refine Tm_lv (a := [(0, .ref (obq (m.2 107) u)), (1, .ref 12), (2, .int (i32 i)), (3, .int (i32 (i * 17))), (4, .int (i32 (hbr / 8))), (5, .int (i32 (((m.2 94) u) * 8))), (6, .int (i32 0))]) rfl rfl ⟨rfl, rfl, rfl, rfl, rfl, rfl, rfl, trivial⟩ ?_
      exact L66_21 ((20 - (0 : Int) : Int) + 1).toNat (((m.2 94) u) * 8) 0 (mO m17 [] []) (r32 (by omega) (by omega)) ⟨by decide, by decide⟩ Tm17 (fr_m fr_0 rfl rfl) (show 0 ≤ (((m.2 94) u) * 8) by omega) (show 0 ≤ (0 : Int) by omega) (show 0 ≤ (0 : Int) ∧ (0 : Int) ≤ 16 by omega) (show 0 ≤ (((m.2 94) u) * 8) ∧ (((m.2 94) u) * 8) ≤ 1024 + 64 * (0 : Int) by omega) (show 20 - (0 : Int) < ((((20 - (0 : Int) : Int) + 1).toNat : Nat) : Int) by omega)
    · skip
      refine T_ld 46 (.int (i32 0)) rfl (fun _ => rfl) ?_
      refine T_ret rfl (fun _ => rfl) ?_
      exact ⟨(mO m [] []), 0, hT, (fr_m fr_0 rfl rfl), ⟨by omega, by omega⟩, (show XTp u (m.2 94) (m.2 94) ((m.2 92) u) by first | (first | exact XT_0 (by omega) | exact XT_u (XT_0 (by omega)) (by omega)) | (exfalso; omega)), rfl⟩
def fF_op_pass : List Nat := []
def fA_op_pass : List Nat := [25, 94, 101]
def Q_op_pass (m : mR) (c : Nat → Option am_C) (N : Nat) (u : Int) (s : Int) : ag_Re af_T → Prop := fun R => (∃ (M : mR) (r : Int), KTy M ∧ fr fF_op_pass fA_op_pass m M ∧ (0 ≤ r ∧ r ≤ 17) ∧ (XTp u (m.2 94) (M.2 94) ((m.2 92) u)) ∧ R = (.inl (some (.int (i32 r))), (khp M c, N), 0, 0))
set_option maxHeartbeats 3000000 in
theorem c_op_pass (w : wX) (m : mR) (c : Nat → Option am_C) (N D : Nat) (hD : 3 ≤ D) (hT : KTy m) (u : Int) (s : Int) (qu : R32 u) (qs : R32 s) (pOKu : OKr m u) (hNK : NKp (m.2 18) (m.2 19)) (p2 : 0 ≤ s ∧ s ≤ 15) (p3 : (m.2 92) u ≤ 128) (p4 : (m.2 94) u ≤ (m.2 92) u) : TC w D 181 [.ref (obq (m.2 107) u), .ref 12, .int (i32 s)] (khp m c, N) (Q_op_pass m c N u s) := by
  obtain ⟨D, rfl⟩ : ∃ k, D = k + 1 := ⟨D - 1, by omega⟩
  obtain ⟨qua, qub⟩ := id qu
  obtain ⟨qsa, qsb⟩ := id qs
  refine Tc_of rfl ?_
  rw [show (khp m c, N) = (khp (mO m [] []) c, N) from by rw [mO_nil m]]
  show TT w D pm_181 (0, [(0, .ref (obq (m.2 107) u)), (1, .ref 12), (2, .int (i32 s))], [], (khp (mO m [] []) c, N), 0, 0) (Q_op_pass m c N u s)
  refine T_ld 1 (.ref 12) rfl (fun _ => rfl) ?_
  refine K_gf 4 (.ref 31) rfl rfl kd_12 rfl rfl rfl ?_
  refine T_sto 5 [(3, .ref 31), (0, .ref (obq (m.2 107) u)), (1, .ref 12), (2, .int (i32 s))] rfl (fun _ => rfl) ?_
  refine T_ld 6 (.int (i32 0)) rfl (fun _ => rfl) ?_
  refine T_sto 8 [(4, .int (i32 0)), (3, .ref 31), (0, .ref (obq (m.2 107) u)), (1, .ref 12), (2, .int (i32 s))] rfl (fun _ => rfl) ?_
  have L8_3 : ∀ (n11 : Nat) (v1 : Int) (m2 : mR), (R32 v1) → KTy m2 → fr [] [94, 101] (mO m [] []) m2 → (0 ≤ v1) → (0 ≤ v1 ∧ v1 ≤ 6) → (XTp u (m.2 94) (m2.2 94) ((m.2 92) u)) → ((m2.2 94) u ≤ (m.2 92) u) → 10 - v1 < (n11 : Int) → TT w D pm_181 (8, [(0, .ref (obq (m.2 107) u)), (1, .ref 12), (2, .int (i32 s)), (3, .ref 31), (4, .int (i32 v1))], [], (khp (mO m2 [] []) c, N), 0, 0) (Q_op_pass m c N u s) := by
    intro n11
    induction n11 with
    | zero =>
      intro v1 m2 q8 Tm2 Fm2 ic4 ic5 ic6 ic7 hmu
      obtain ⟨q8a, q8b⟩ := id q8
      have hXT := ic6
      have hXl := ic7
      exfalso
      omega
    | succ n11 ih =>
      intro v1 m2 q8 Tm2 Fm2 ic4 ic5 ic6 ic7 hmu
      obtain ⟨q8a, q8b⟩ := id q8
      have hXT := ic6
      have hXl := ic7
      have ih12 := ih
      refine T_ld 10 (.int (i32 v1)) rfl (fun _ => rfl) ?_
      refine T_ld 11 (.ref 31) rfl (fun _ => rfl) ?_
      refine K_gf 14 (.ref 32) rfl rfl kd_31 rfl rfl rfl ?_
      refine T_ld 15 (.int (i32 s)) rfl (fun _ => rfl) ?_
      refine K_iald 16 26 (m.2 26) rfl rfl rfl (by omega) (show s < (16 : Int) by omega) (show (m2.2 26) = (m.2 26) from (fr2 Fm2 26 rfl)) ?_
      have e13 : 0 ≤ m.2 26 s ∧ m.2 26 s ≤ 6 := hT.2.1 26 s
      refine T_icmp 48 19 rfl rfl rfl (r32 (by omega) (by omega)) (r32 (by omega) (by omega)) (fun (h14 : (m.2 26) s ≤ v1) => ?_) (fun (h14 : ¬ ((m.2 26) s ≤ v1)) => ?_)
      · skip
        refine T_ld 49 (.ref 31) rfl (fun _ => rfl) ?_
        refine K_gf 52 (.ref 35) rfl rfl kd_31 rfl rfl rfl ?_
        refine T_ld 53 (.int (i32 s)) rfl (fun _ => rfl) ?_
        refine K_iald 54 29 (m.2 29) rfl rfl rfl (by omega) (show s < (16 : Int) by omega) (show (m2.2 29) = (m.2 29) from (fr2 Fm2 29 rfl)) ?_
        have e15 : (-1) ≤ m.2 29 s ∧ m.2 29 s ≤ 1089 := hT.2.1 29 s
        refine T_sto 56 [(4, .int (i32 ((m.2 29) s))), (0, .ref (obq (m.2 107) u)), (1, .ref 12), (2, .int (i32 s)), (3, .ref 31)] rfl (fun _ => rfl) ?_
        refine T_ld 58 (.int (i32 ((m.2 29) s))) rfl (fun _ => rfl) ?_
        refine T_ld 59 (.int (i32 (-1))) rfl (fun _ => rfl) ?_
        refine T_icmp 66 62 rfl rfl rfl (r32 (by omega) (by omega)) ⟨by decide, by decide⟩ (fun (h16 : (m.2 29) s ≠ (-1)) => ?_) (fun (h16 : ¬ ((m.2 29) s ≠ (-1))) => ?_)
        · skip
          refine T_ld 67 (.ref 12) rfl (fun _ => rfl) ?_
          refine K_gf 70 (.ref 22) rfl rfl kd_12 rfl rfl rfl ?_
          refine T_ld 71 (.ref 31) rfl (fun _ => rfl) ?_
          refine K_gf 74 (.ref 34) rfl rfl kd_31 rfl rfl rfl ?_
          refine T_ld 75 (.int (i32 s)) rfl (fun _ => rfl) ?_
          refine K_iald 76 28 (m.2 28) rfl rfl rfl (by omega) (show s < (16 : Int) by omega) (show (m2.2 28) = (m.2 28) from (fr2 Fm2 28 rfl)) ?_
          have e17 : 0 ≤ m.2 28 s ∧ m.2 28 s ≤ 1090 := hT.2.1 28 s
          refine T_ld 78 (.int (i32 ((m.2 29) s))) rfl (fun _ => rfl) ?_
          refine T_ld 79 (.ref (obq (m.2 107) u)) rfl (fun _ => rfl) ?_
          refine K_gor 82 rfl rfl (OKr_c (show (m2.2 107) = (m.2 107) from (fr2 Fm2 107 rfl)) (show (m2.2 108) = (m.2 108) from (fr2 Fm2 108 rfl)) pOKu) (congrArg (fun f : Int → Int => (f u).toNat) (show (m2.2 107) = (m.2 107) from (fr2 Fm2 107 rfl))) rfl ?_
          refine T_ld 83 (.ref (obq (m.2 107) u)) rfl (fun _ => rfl) ?_
          refine K_gor 86 rfl rfl (OKr_c (show (m2.2 107) = (m.2 107) from (fr2 Fm2 107 rfl)) (show (m2.2 108) = (m.2 108) from (fr2 Fm2 108 rfl)) pOKu) (congrArg (fun f : Int → Int => (f u).toNat) (show (m2.2 107) = (m.2 107) from (fr2 Fm2 107 rfl))) rfl ?_
          refine T_callx 89 183 [.ref 22, .int (i32 ((m.2 28) s)), .int (i32 ((m.2 29) s)), .ref (obq (m.2 107) u + (1 + 1)), .ref (obq (m.2 107) u + (5 + 1))] [] rfl (fun _ => rfl) rfl rfl (TC_cast (fun g9 => [.ref 22, .int (i32 ((m.2 28) s)), .int (i32 ((m.2 29) s)), .ref (obq g9 u + (1 + 1)), .ref (obq g9 u + (5 + 1))]) (show (m2.2 107) = (m.2 107) from (fr2 Fm2 107 rfl)) (c_nd_valueOf w (mO m2 [] []) c N D (by omega) Tm2 ((m.2 28) s) ((m.2 29) s) u u (r32 (by omega) (by omega)) (r32 (by omega) (by omega)) (r32 (by omega) (by omega)) (r32 (by omega) (by omega)) (OKr_c (show (m2.2 107) = (m.2 107) from (fr2 Fm2 107 rfl)) (show (m2.2 108) = (m.2 108) from (fr2 Fm2 108 rfl)) pOKu) (OKr_c (show (m2.2 107) = (m.2 107) from (fr2 Fm2 107 rfl)) (show (m2.2 108) = (m.2 108) from (fr2 Fm2 108 rfl)) pOKu) (show NKp (m2.2 18) (m2.2 19) by rewrite [(show (m2.2 18) = (m.2 18) from (fr2 Fm2 18 rfl)), (show (m2.2 19) = (m.2 19) from (fr2 Fm2 19 rfl))]; exact hNK) (show 0 ≤ ((m.2 28) s) ∧ ((m.2 28) s) ≤ 1090 by omega) (show 0 ≤ ((m.2 29) s) ∧ ((m.2 29) s) ≤ 1089 by omega))) (fun rr18 k19 => ?_)
          obtain ⟨m20, vv, Tm20, Fm20, g21, rfl⟩ := k19
          refine Or.inl ⟨_, _, _, _, rfl, ?_⟩
          refine K_nb (st' := [.long (i64 vv)]) rfl ?_
          obtain ⟨g21a, g21b⟩ := g21
          refine T_sto 91 [(5, .long (i64 vv)), (4, .int (i32 ((m.2 29) s))), (0, .ref (obq (m.2 107) u)), (1, .ref 12), (2, .int (i32 s)), (3, .ref 31)] rfl (fun _ => rfl) ?_
          refine T_ld 92 (.ref 31) rfl (fun _ => rfl) ?_
          refine T_ld 93 (.int (i32 s)) rfl (fun _ => rfl) ?_
          refine T_ld 95 (.long (i64 vv)) rfl (fun _ => rfl) ?_
          refine T_callx 98 185 [.ref 31, .int (i32 s), .long (i64 vv)] [] rfl (fun _ => rfl) rfl rfl (c_ss_goalOf w (mO m20 [] []) c N D (by omega) Tm20 s vv (r32 (by omega) (by omega)) (r64 (by omega) (by omega)) (show 0 ≤ s ∧ s ≤ 15 by omega)) (fun rr22 k23 => ?_)
          obtain ⟨x24, g25, rfl⟩ := k23
          refine Or.inl ⟨_, _, _, _, rfl, ?_⟩
          refine T_ns (st' := [.int (i32 x24)]) rfl ?_
          obtain ⟨g25a, g25b⟩ := g25
          refine T_ret rfl (fun _ => rfl) ?_
          exact ⟨(mO m20 [] []), x24, Tm20, (fr_m (fr_s Fm20 (fr_m (fr_s Fm2 (fr_m fr_0 rfl rfl) rfl rfl) rfl rfl) rfl rfl) rfl rfl), ⟨by omega, by omega⟩, (show XTp u (m.2 94) (m20.2 94) ((m.2 92) u) by rewrite [(show (m20.2 94) = (m2.2 94) from (fr2 Fm20 94 rfl))]; first | (first | exact hXT | exact XT_0 (by omega) | exact XT_t hXT hXt) | (exfalso; omega)), rfl⟩
        · skip
          refine T_ld 63 (.long (i64 0)) rfl (fun _ => rfl) ?_
          refine T_goto 89 rfl (fun _ => rfl) ?_
          refine T_sto 91 [(5, .long (i64 0)), (4, .int (i32 ((m.2 29) s))), (0, .ref (obq (m.2 107) u)), (1, .ref 12), (2, .int (i32 s)), (3, .ref 31)] rfl (fun _ => rfl) ?_
          refine T_ld 92 (.ref 31) rfl (fun _ => rfl) ?_
          refine T_ld 93 (.int (i32 s)) rfl (fun _ => rfl) ?_
          refine T_ld 95 (.long (i64 0)) rfl (fun _ => rfl) ?_
          refine T_callx 98 185 [.ref 31, .int (i32 s), .long (i64 0)] [] rfl (fun _ => rfl) rfl rfl (c_ss_goalOf w (mO m2 [] []) c N D (by omega) Tm2 s 0 (r32 (by omega) (by omega)) ⟨by decide, by decide⟩ (show 0 ≤ s ∧ s ≤ 15 by omega)) (fun rr26 k27 => ?_)
          obtain ⟨x28, g29, rfl⟩ := k27
          refine Or.inl ⟨_, _, _, _, rfl, ?_⟩
          refine T_ns (st' := [.int (i32 x28)]) rfl ?_
          obtain ⟨g29a, g29b⟩ := g29
          refine T_ret rfl (fun _ => rfl) ?_
          exact ⟨(mO m2 [] []), x28, Tm2, (fr_m (fr_s Fm2 (fr_m fr_0 rfl rfl) rfl rfl) rfl rfl), ⟨by omega, by omega⟩, (show XTp u (m.2 94) (m2.2 94) ((m.2 92) u) by first | (first | exact hXT | exact XT_0 (by omega) | exact XT_t hXT hXt) | (exfalso; omega)), rfl⟩
      · skip
        refine T_ld 20 (.ref (obq (m.2 107) u)) rfl (fun _ => rfl) ?_
        refine T_ld 21 (.ref 12) rfl (fun _ => rfl) ?_
        refine T_ld 22 (.ref 31) rfl (fun _ => rfl) ?_
        refine K_gf 25 (.ref 33) rfl rfl kd_31 rfl rfl rfl ?_
        refine T_ld 26 (.int (i32 s)) rfl (fun _ => rfl) ?_
        refine T_ld 28 (.int (i32 6)) rfl (fun _ => rfl) ?_
        refine T_imul 29 rfl rfl ?_
        refine T_ld 31 (.int (i32 v1)) rfl (fun _ => rfl) ?_
        refine T_iadd 32 rfl rfl ?_
        refine K_iald 33 27 (m.2 27) rfl rfl rfl (by omega) (show ((s * 6) + v1) < (96 : Int) by omega) (show (m2.2 27) = (m.2 27) from (fr2 Fm2 27 rfl)) ?_
        have e30 : 0 ≤ m.2 27 ((s * 6) + v1) ∧ m.2 27 ((s * 6) + v1) ≤ 11 := hT.2.1 27 ((s * 6) + v1)
        refine T_callx 36 182 [.ref (obq (m.2 107) u), .ref 12, .int (i32 ((m.2 27) ((s * 6) + v1)))] [] rfl (inv_vt (args := [.int (i32 ((m.2 27) ((s * 6) + v1))), .ref 12]) (obe_c (congrArg (fun f : Int → Int => (f u).toNat) (show (m2.2 107) = (m.2 107) from (fr2 Fm2 107 rfl))) (khp_o0 _ (OKr_c (show (m2.2 107) = (m.2 107) from (fr2 Fm2 107 rfl)) (show (m2.2 108) = (m.2 108) from (fr2 Fm2 108 rfl)) pOKu))) rfl rfl rfl) rfl rfl (TC_cast (fun g9 => [.ref (obq g9 u), .ref 12, .int (i32 ((m.2 27) ((s * 6) + v1)))]) (show (m2.2 107) = (m.2 107) from (fr2 Fm2 107 rfl)) (c_op_extract w (mO m2 [] []) c N D (by omega) Tm2 u ((m.2 27) ((s * 6) + v1)) (r32 (by omega) (by omega)) (r32 (by omega) (by omega)) (OKr_c (show (m2.2 107) = (m.2 107) from (fr2 Fm2 107 rfl)) (show (m2.2 108) = (m.2 108) from (fr2 Fm2 108 rfl)) pOKu) (show 0 ≤ ((m.2 27) ((s * 6) + v1)) ∧ ((m.2 27) ((s * 6) + v1)) ≤ 11 by omega) (show (m2.2 92) u ≤ 128 by rewrite [(show (m2.2 92) = (m.2 92) from (fr2 Fm2 92 rfl))]; omega) (show (m2.2 94) u ≤ (m2.2 92) u by rewrite [(show (m2.2 92) = (m.2 92) from (fr2 Fm2 92 rfl))]; omega))) (fun rr31 k32 => ?_)
        obtain ⟨m33, x34, Tm33, Fm33, g35, h36, rfl⟩ := k32
        refine Or.inl ⟨_, _, _, _, rfl, ?_⟩
        refine K_nb (st' := [.int (i32 x34)]) rfl ?_
        obtain ⟨g35a, g35b⟩ := g35
        replace h36 : XTp u (m2.2 94) (m33.2 94) ((m2.2 92) u) := h36
        rewrite [(show (m2.2 92) = (m.2 92) from (fr2 Fm2 92 rfl))] at h36
        have hXt := h36
        have hXT : XTp u (m.2 94) (m33.2 94) ((m.2 92) u) := XT_t hXT hXt
        refine T_if 42 39 rfl rfl rfl (r32 (by omega) (by omega)) (fun (h37 : x34 ≠ 0) => ?_) (fun (h37 : ¬ (x34 ≠ 0)) => ?_)
        · skip
          refine T_iinc 45 [(4, .int (i32 (v1 + 1))), (0, .ref (obq (m.2 107) u)), (1, .ref 12), (2, .int (i32 s)), (3, .ref 31)] rfl rfl (by decide) rfl rfl ?_
          refine T_goto 8 rfl (fun _ => rfl) ?_
          refine Tm_lv (a := [(0, .ref (obq (m.2 107) u)), (1, .ref 12), (2, .int (i32 s)), (3, .ref 31), (4, .int (i32 (v1 + 1)))]) rfl rfl ⟨rfl, rfl, rfl, rfl, rfl, trivial⟩ ?_
          exact ih12 (v1 + 1) (mO m33 [] []) (r32 (by omega) (by omega)) Tm33 (fr_m (fr_s Fm33 (fr_m (fr_s Fm2 (fr_m fr_0 rfl rfl) rfl rfl) rfl rfl) rfl rfl) rfl rfl) (show 0 ≤ (v1 + 1) by omega) (show 0 ≤ (v1 + 1) ∧ (v1 + 1) ≤ 6 by omega) (show XTp u (m.2 94) (m33.2 94) ((m.2 92) u) by first | exact hXT | exact XT_0 (by omega) | exact XT_t hXT hXt) (show (m33.2 94) u ≤ (m.2 92) u by first | omega | exact hXT.2) (show 10 - (v1 + 1) < (n11 : Int) by omega)
        · skip
          refine T_ld 41 (.int (i32 17)) rfl (fun _ => rfl) ?_
          refine T_ret rfl (fun _ => rfl) ?_
          exact ⟨(mO m33 [] []), 17, Tm33, (fr_m (fr_s Fm33 (fr_m (fr_s Fm2 (fr_m fr_0 rfl rfl) rfl rfl) rfl rfl) rfl rfl) rfl rfl), ⟨by omega, by omega⟩, (show XTp u (m.2 94) (m33.2 94) ((m.2 92) u) by first | (first | exact hXT | exact XT_0 (by omega) | exact XT_t hXT hXt) | (exfalso; omega)), rfl⟩
  refine Tm_lv (a := [(0, .ref (obq (m.2 107) u)), (1, .ref 12), (2, .int (i32 s)), (3, .ref 31), (4, .int (i32 0))]) rfl rfl ⟨rfl, rfl, rfl, rfl, rfl, trivial⟩ ?_
  exact L8_3 ((10 - (0 : Int) : Int) + 1).toNat 0 (mO m [] []) ⟨by decide, by decide⟩ hT (fr_m fr_0 rfl rfl) (show 0 ≤ (0 : Int) by omega) (show 0 ≤ (0 : Int) ∧ (0 : Int) ≤ 6 by omega) (show XTp u (m.2 94) (m.2 94) ((m.2 92) u) by first | exact hXT | exact XT_0 (by omega) | exact XT_t hXT hXt) (show (m.2 94) u ≤ (m.2 92) u by first | omega | exact hXT.2) (show 10 - (0 : Int) < ((((10 - (0 : Int) : Int) + 1).toNat : Nat) : Int) by omega)
def fF_op_enter : List Nat := []
def fA_op_enter : List Nat := [25, 94, 98, 101, 102]
def Q_op_enter (m : mR) (c : Nat → Option am_C) (N : Nat) (u : Int) : ag_Re af_T → Prop := fun R => (∃ (M : mR), KTy M ∧ fr fF_op_enter fA_op_enter m M ∧ ((∀ v, v ≠ u → (M.2 94) v = (m.2 94) v) ∧ ((m.2 91) u = 0 → (M.2 94) u ≤ (m.2 92) u)) ∧ R = (.inl (none), (khp M c, N), 0, 0))
set_option maxHeartbeats 3000000 in
theorem c_op_enter (w : wX) (m : mR) (c : Nat → Option am_C) (N D : Nat) (hD : 4 ≤ D) (hT : KTy m) (u : Int) (qu : R32 u) (pOKu : OKr m u) (hNK : NKp (m.2 18) (m.2 19)) (hEp : (m.2 91) u = 0 → (m.2 92) u ≤ 128) : TC w D 180 [.ref (obq (m.2 107) u), .ref 12] (khp m c, N) (Q_op_enter m c N u) := by
  obtain ⟨D, rfl⟩ : ∃ k, D = k + 1 := ⟨D - 1, by omega⟩
  obtain ⟨qua, qub⟩ := id qu
  have f221 : 0 ≤ m.1 221 ∧ m.1 221 ≤ 16 := hT.1 221
  refine Tc_of rfl ?_
  rw [show (khp m c, N) = (khp (mO m [] []) c, N) from by rw [mO_nil m]]
  show TT w D pm_180 (0, [(0, .ref (obq (m.2 107) u)), (1, .ref 12)], [], (khp (mO m [] []) c, N), 0, 0) (Q_op_enter m c N u)
  refine T_ld 1 (.ref (obq (m.2 107) u)) rfl (fun _ => rfl) ?_
  refine T_ld 2 (.int (i32 0)) rfl (fun _ => rfl) ?_
  have G1 : ∀ j, 0 ≤ (upI (m.2 98) u 0) j ∧ (upI (m.2 98) u 0) j ≤ 2 := upI_rg (hT.2.1 98) ⟨by omega, by omega⟩
  refine K_poi (a' := [(98, upI (m.2 98) u 0)]) 5 98 (m.2 98) rfl rfl rfl pOKu (show KTy (mO m [] []) from hT).2.2.1 rfl rfl rfl rfl ?_
  refine T_ld 6 (.ref (obq (m.2 107) u)) rfl (fun _ => rfl) ?_
  refine K_goi 9 91 (m.2 91) rfl rfl pOKu rfl rfl rfl ?_
  have e2 : 0 ≤ m.2 91 u ∧ m.2 91 u ≤ 3 := hT.2.1 91 u
  refine T_if 13 12 rfl rfl rfl (r32 (by omega) (by omega)) (fun (h3 : (m.2 91) u = 0) => ?_) (fun (h3 : ¬ ((m.2 91) u = 0)) => ?_)
  · skip
    refine T_ld 14 (.ref (obq (m.2 107) u)) rfl (fun _ => rfl) ?_
    refine K_gor 17 rfl rfl pOKu rfl rfl ?_
    refine T_ld 18 (.long (i64 0)) rfl (fun _ => rfl) ?_
    refine T_callx 21 46 [.ref (obq (m.2 107) u + (1 + 1)), .long (i64 0)] [] rfl (fun _ => rfl) rfl rfl (c_fill_op_slots w (mO m [] [(98, upI (m.2 98) u 0)]) c N D (by omega) (KTy_mO hT rfl rfl trivial ⟨G1, trivial⟩) 0 u ⟨by decide, by decide⟩ (r32 (by omega) (by omega)) pOKu) (fun rr4 k5 => ?_)
    obtain ⟨m6, Tm6, Fm6, rfl⟩ := k5
    refine Or.inl ⟨_, _, _, _, rfl, ?_⟩
    refine K_nb (st' := []) rfl ?_
    refine T_ld 22 (.ref (obq (m.2 107) u)) rfl (fun _ => rfl) ?_
    refine K_gor 25 rfl rfl (OKr_c (show (m6.2 107) = (m.2 107) from (fr2 Fm6 107 rfl)) (show (m6.2 108) = (m.2 108) from (fr2 Fm6 108 rfl)) pOKu) (congrArg (fun f : Int → Int => (f u).toNat) (show (m6.2 107) = (m.2 107) from (fr2 Fm6 107 rfl))) rfl ?_
    refine T_ld 26 (.int (i32 (-1))) rfl (fun _ => rfl) ?_
    refine T_callx 29 25 [.ref (obq (m.2 107) u + (2 + 1)), .int (i32 (-1))] [] rfl (fun _ => rfl) rfl rfl (TC_cast (fun g9 => [.ref (obq g9 u + (2 + 1)), .int (i32 (-1))]) (show (m6.2 107) = (m.2 107) from (fr2 Fm6 107 rfl)) (c_fill_op_did w (mO m6 [] []) c N D (by omega) Tm6 (-1) u ⟨by decide, by decide⟩ (r32 (by omega) (by omega)) (OKr_c (show (m6.2 107) = (m.2 107) from (fr2 Fm6 107 rfl)) (show (m6.2 108) = (m.2 108) from (fr2 Fm6 108 rfl)) pOKu))) (fun rr7 k8 => ?_)
    obtain ⟨m9, Tm9, Fm9, rfl⟩ := k8
    refine Or.inl ⟨_, _, _, _, rfl, ?_⟩
    refine K_nb (st' := []) rfl ?_
    refine T_ld 30 (.ref (obq (m.2 107) u)) rfl (fun _ => rfl) ?_
    refine K_gor 33 rfl rfl (OKr_c (show (m9.2 107) = (m.2 107) from ((fr2 Fm9 107 rfl).trans (fr2 Fm6 107 rfl))) (show (m9.2 108) = (m.2 108) from ((fr2 Fm9 108 rfl).trans (fr2 Fm6 108 rfl))) pOKu) (congrArg (fun f : Int → Int => (f u).toNat) (show (m9.2 107) = (m.2 107) from ((fr2 Fm9 107 rfl).trans (fr2 Fm6 107 rfl)))) rfl ?_
    refine T_ld 36 (.int (i32 204)) rfl (fun _ => rfl) ?_
    refine T_ld 37 (.ref (obq (m.2 107) u)) rfl (fun _ => rfl) ?_
    refine K_goi 40 93 (m.2 93) rfl rfl (OKr_c (show (m9.2 107) = (m.2 107) from ((fr2 Fm9 107 rfl).trans (fr2 Fm6 107 rfl))) (show (m9.2 108) = (m.2 108) from ((fr2 Fm9 108 rfl).trans (fr2 Fm6 108 rfl))) pOKu) (congrArg (fun f : Int → Int => (f u).toNat) (show (m9.2 107) = (m.2 107) from ((fr2 Fm9 107 rfl).trans (fr2 Fm6 107 rfl)))) (show (m9.2 93) = (m.2 93) from ((fr2 Fm9 93 rfl).trans (fr2 Fm6 93 rfl))) rfl ?_
    have e10 : (-2147483648) ≤ m.2 93 u ∧ m.2 93 u ≤ 2147483647 := hT.2.1 93 u
    refine T_i2l 41 rfl rfl (r32 (by omega) (by omega)) ?_
    refine T_ld 44 (.long (i64 65535)) rfl (fun _ => rfl) ?_
    refine T_land 45 rfl rfl (by decide) (by decide) (fun z11 h12 => ?_)
    have G13 : ∀ j, (-9223372036854775808) ≤ (upI (m6.2 101) (65536 * u + 204) z11) j ∧ (upI (m6.2 101) (65536 * u + 204) z11) j ≤ 9223372036854775807 := upI_rg (Tm6.2.1 101) ⟨by omega, by omega⟩
    refine K_lasto (a' := [(101, upI (m6.2 101) (65536 * u + 204) z11)]) 46 1 (m6.2 101) rfl rfl rfl (OKr_c (show (m9.2 107) = (m.2 107) from ((fr2 Fm9 107 rfl).trans (fr2 Fm6 107 rfl))) (show (m9.2 108) = (m.2 108) from ((fr2 Fm9 108 rfl).trans (fr2 Fm6 108 rfl))) pOKu) (show KTy (mO m9 [] []) from Tm9).2.2.1 (congrArg (fun f : Int → Int => (f u).toNat) (show (m9.2 107) = (m.2 107) from ((fr2 Fm9 107 rfl).trans (fr2 Fm6 107 rfl)))) (by omega) (show 204 < (221 : Int) by omega) (show (m9.2 101) = (m6.2 101) from (fr2 Fm9 101 rfl)) rfl ?_
    refine T_ld 47 (.ref (obq (m.2 107) u)) rfl (fun _ => rfl) ?_
    refine K_gor 50 rfl rfl (OKr_c (show (m9.2 107) = (m.2 107) from ((fr2 Fm9 107 rfl).trans (fr2 Fm6 107 rfl))) (show (m9.2 108) = (m.2 108) from ((fr2 Fm9 108 rfl).trans (fr2 Fm6 108 rfl))) pOKu) (congrArg (fun f : Int → Int => (f u).toNat) (show (m9.2 107) = (m.2 107) from ((fr2 Fm9 107 rfl).trans (fr2 Fm6 107 rfl)))) rfl ?_
    refine T_ld 53 (.int (i32 205)) rfl (fun _ => rfl) ?_
    refine T_ld 54 (.ref (obq (m.2 107) u)) rfl (fun _ => rfl) ?_
    refine K_goi 57 92 (m.2 92) rfl rfl (OKr_c (show (m9.2 107) = (m.2 107) from ((fr2 Fm9 107 rfl).trans (fr2 Fm6 107 rfl))) (show (m9.2 108) = (m.2 108) from ((fr2 Fm9 108 rfl).trans (fr2 Fm6 108 rfl))) pOKu) (congrArg (fun f : Int → Int => (f u).toNat) (show (m9.2 107) = (m.2 107) from ((fr2 Fm9 107 rfl).trans (fr2 Fm6 107 rfl)))) (show (m9.2 92) = (m.2 92) from ((fr2 Fm9 92 rfl).trans (fr2 Fm6 92 rfl))) rfl ?_
    have e14 : 0 ≤ m.2 92 u ∧ m.2 92 u ≤ 896 := hT.2.1 92 u
    refine T_i2l 58 rfl rfl (r32 (by omega) (by omega)) ?_
    have G15 : ∀ j, (-9223372036854775808) ≤ (upI (upI (m6.2 101) (65536 * u + 204) z11) (65536 * u + 205) ((m.2 92) u)) j ∧ (upI (upI (m6.2 101) (65536 * u + 204) z11) (65536 * u + 205) ((m.2 92) u)) j ≤ 9223372036854775807 := upI_rg G13 ⟨by omega, by omega⟩
    refine K_lasto (a' := [(101, upI (upI (m6.2 101) (65536 * u + 204) z11) (65536 * u + 205) ((m.2 92) u))]) 59 1 (upI (m6.2 101) (65536 * u + 204) z11) rfl rfl rfl (OKr_c (show (m9.2 107) = (m.2 107) from ((fr2 Fm9 107 rfl).trans (fr2 Fm6 107 rfl))) (show (m9.2 108) = (m.2 108) from ((fr2 Fm9 108 rfl).trans (fr2 Fm6 108 rfl))) pOKu) (show KTy (mO m9 [] [(101, upI (m6.2 101) (65536 * u + 204) z11)]) from (KTy_mO Tm9 rfl rfl trivial ⟨G13, trivial⟩)).2.2.1 (congrArg (fun f : Int → Int => (f u).toNat) (show (m9.2 107) = (m.2 107) from ((fr2 Fm9 107 rfl).trans (fr2 Fm6 107 rfl)))) (by omega) (show 205 < (221 : Int) by omega) rfl rfl ?_
    refine T_ld 60 (.ref (obq (m.2 107) u)) rfl (fun _ => rfl) ?_
    refine T_ld 61 (.int (i32 0)) rfl (fun _ => rfl) ?_
    have G16 : ∀ j, 0 ≤ (upI (m.2 94) u 0) j ∧ (upI (m.2 94) u 0) j ≤ 128 := upI_rg (hT.2.1 94) ⟨by omega, by omega⟩
    refine K_poi (a' := [(94, upI (m.2 94) u 0), (101, upI (upI (m6.2 101) (65536 * u + 204) z11) (65536 * u + 205) ((m.2 92) u))]) 64 94 (m.2 94) rfl rfl rfl (OKr_c (show (m9.2 107) = (m.2 107) from ((fr2 Fm9 107 rfl).trans (fr2 Fm6 107 rfl))) (show (m9.2 108) = (m.2 108) from ((fr2 Fm9 108 rfl).trans (fr2 Fm6 108 rfl))) pOKu) (show KTy (mO m9 [] [(101, upI (upI (m6.2 101) (65536 * u + 204) z11) (65536 * u + 205) ((m.2 92) u))]) from (KTy_mO Tm9 rfl rfl trivial ⟨G15, trivial⟩)).2.2.1 (congrArg (fun f : Int → Int => (f u).toNat) (show (m9.2 107) = (m.2 107) from ((fr2 Fm9 107 rfl).trans (fr2 Fm6 107 rfl)))) (show (m9.2 94) = (m.2 94) from ((fr2 Fm9 94 rfl).trans (fr2 Fm6 94 rfl))) rfl rfl ?_
    refine T_ld 65 (.ref 12) rfl (fun _ => rfl) ?_
    refine K_gf 68 (.ref 31) rfl rfl kd_12 rfl rfl rfl ?_
    refine K_gf 71 (.int (i32 (m.1 221))) rfl rfl kd_31 rfl (kval_c2 (k := 221) (F := fun x => .int (i32 x)) rfl (show (m9.1 221) = (m.1 221) from ((fr1 Fm9 221 rfl).trans (fr1 Fm6 221 rfl)))) rfl ?_
    refine T_if 78 74 rfl rfl rfl (r32 (by omega) (by omega)) (fun (h17 : (m.1 221) ≤ 0) => ?_) (fun (h17 : ¬ ((m.1 221) ≤ 0)) => ?_)
    · skip
      refine T_ld 80 (.int (i32 16)) rfl (fun _ => rfl) ?_
      refine T_sto 81 [(2, .int (i32 16)), (0, .ref (obq (m.2 107) u)), (1, .ref 12)] rfl (fun _ => rfl) ?_
      refine T_ld 82 (.int (i32 0)) rfl (fun _ => rfl) ?_
      refine T_sto 83 [(3, .int (i32 0)), (2, .int (i32 16)), (0, .ref (obq (m.2 107) u)), (1, .ref 12)] rfl (fun _ => rfl) ?_
      refine K_fl (KTy_mO Tm9 rfl rfl trivial ⟨G16, G15, trivial⟩) (fun m18 Tm18 Fm18 => ?_)
      have L83_22 : ∀ (n35 : Nat) (v19 : Int) (v20 : Int) (m21 : mR), (R32 v19) → (R32 v20) → KTy m21 → fr [] [25, 94, 101] (mO m18 [] []) m21 → (16 ≤ v19) → (v19 ≤ 16) → (0 ≤ v20) → (v20 ≤ 0) → (0 ≤ v20 ∧ v20 ≤ 238) → (0 ≤ v19 ∧ v19 ≤ 17) → (XTp u (m.2 94) (m21.2 94) ((m.2 92) u)) → ((m21.2 94) u ≤ (m.2 92) u) → 300 - v20 < (n35 : Int) → TT w D pm_180 (83, [(0, .ref (obq (m.2 107) u)), (1, .ref 12), (2, .int (i32 v19)), (3, .int (i32 v20))], [], (khp (mO m21 [] []) c, N), 0, 0) (Q_op_enter m c N u) := by
        intro n35
        induction n35 with
        | zero =>
          intro v19 v20 m21 q31 q32 Tm21 Fm21 ic23 ic24 ic25 ic26 ic27 ic28 ic29 ic30 hmu
          obtain ⟨q31a, q31b⟩ := id q31
          obtain ⟨q32a, q32b⟩ := id q32
          have hXT := ic29
          have hXl := ic30
          exfalso
          omega
        | succ n35 ih =>
          intro v19 v20 m21 q31 q32 Tm21 Fm21 ic23 ic24 ic25 ic26 ic27 ic28 ic29 ic30 hmu
          obtain ⟨q31a, q31b⟩ := id q31
          obtain ⟨q32a, q32b⟩ := id q32
          have hXT := ic29
          have hXl := ic30
          have ih36 := ih
          refine T_ld 84 (.int (i32 v20)) rfl (fun _ => rfl) ?_
          refine T_ld 87 (.int (i32 238)) rfl (fun _ => rfl) ?_
          refine T_icmp 109 90 rfl rfl rfl (r32 (by omega) (by omega)) ⟨by decide, by decide⟩ (fun (h37 : (238 : Int) ≤ v20) => by exfalso; omega) (fun (h37 : ¬ ((238 : Int) ≤ v20)) => ?_)
          refine T_ld 91 (.int (i32 v19)) rfl (fun _ => rfl) ?_
          refine T_ld 93 (.int (i32 16)) rfl (fun _ => rfl) ?_
          refine T_icmp 109 96 rfl rfl rfl (r32 (by omega) (by omega)) ⟨by decide, by decide⟩ (fun (h38 : (16 : Int) ≤ v19) => ?_) (fun (h38 : ¬ ((16 : Int) ≤ v19)) => by exfalso; omega)
          refine T_ld 110 (.ref (obq (m.2 107) u)) rfl (fun _ => rfl) ?_
          refine T_ld 111 (.int (i32 v19)) rfl (fun _ => rfl) ?_
          refine T_ld 113 (.int (i32 16)) rfl (fun _ => rfl) ?_
          refine T_icmp 120 116 rfl rfl rfl (r32 (by omega) (by omega)) ⟨by decide, by decide⟩ (fun (h39 : v19 ≠ 16) => by exfalso; omega) (fun (h39 : ¬ (v19 ≠ 16)) => ?_)
          refine T_ld 117 (.int (i32 0)) rfl (fun _ => rfl) ?_
          refine T_goto 121 rfl (fun _ => rfl) ?_
          have G40 : ∀ j, 0 ≤ (upI (upI (m.2 98) u 0) u 0) j ∧ (upI (upI (m.2 98) u 0) u 0) j ≤ 2 := upI_rg G1 ⟨by omega, by omega⟩
          refine K_poi (a' := [(98, upI (upI (m.2 98) u 0) u 0)]) 124 98 (upI (m.2 98) u 0) rfl rfl rfl (OKr_c (show (m21.2 107) = (m.2 107) from ((fr2 Fm21 107 rfl).trans ((fr2 Fm18 107 rfl).trans ((fr2 Fm9 107 rfl).trans (fr2 Fm6 107 rfl))))) (show (m21.2 108) = (m.2 108) from ((fr2 Fm21 108 rfl).trans ((fr2 Fm18 108 rfl).trans ((fr2 Fm9 108 rfl).trans (fr2 Fm6 108 rfl))))) pOKu) (show KTy (mO m21 [] []) from Tm21).2.2.1 (congrArg (fun f : Int → Int => (f u).toNat) (show (m21.2 107) = (m.2 107) from ((fr2 Fm21 107 rfl).trans ((fr2 Fm18 107 rfl).trans ((fr2 Fm9 107 rfl).trans (fr2 Fm6 107 rfl)))))) (show (m21.2 98) = (upI (m.2 98) u 0) from ((fr2 Fm21 98 rfl).trans ((fr2 Fm18 98 rfl).trans ((fr2 Fm9 98 rfl).trans (fr2 Fm6 98 rfl))))) rfl rfl ?_
          refine T_ret rfl (fun _ => rfl) ?_
          exact ⟨(mO m21 [] [(98, upI (upI (m.2 98) u 0) u 0)]), (KTy_mO Tm21 rfl rfl trivial ⟨G40, trivial⟩), (fr_m (fr_s Fm21 (fr_m (fr_s Fm18 (fr_m (fr_s Fm9 (fr_m (fr_s Fm6 (fr_m fr_0 rfl rfl) rfl rfl) rfl rfl) rfl rfl) rfl rfl) rfl rfl) rfl rfl) rfl rfl) rfl rfl), (show (∀ v, v ≠ u → (m21.2 94) v = (m.2 94) v) ∧ ((m.2 91) u = 0 → (m21.2 94) u ≤ (m.2 92) u) by first | (first | exact ⟨hXT.1, fun _ => hXT.2⟩ | exact ⟨fun v h => rfl, fun h => absurd h (by omega)⟩) | (exfalso; omega)), rfl⟩
      refine Tm_lv (a := [(0, .ref (obq (m.2 107) u)), (1, .ref 12), (2, .int (i32 16)), (3, .int (i32 0))]) rfl rfl ⟨rfl, rfl, rfl, rfl, trivial⟩ ?_
      exact L83_22 ((300 - (0 : Int) : Int) + 1).toNat 16 0 (mO m18 [] []) ⟨by decide, by decide⟩ ⟨by decide, by decide⟩ Tm18 (fr_m fr_0 rfl rfl) (show 16 ≤ (16 : Int) by omega) (show (16 : Int) ≤ 16 by omega) (show 0 ≤ (0 : Int) by omega) (show (0 : Int) ≤ 0 by omega) (show 0 ≤ (0 : Int) ∧ (0 : Int) ≤ 238 by omega) (show 0 ≤ (16 : Int) ∧ (16 : Int) ≤ 17 by omega) (show XTp u (m.2 94) (m18.2 94) ((m.2 92) u) by rewrite [(show (m18.2 94) = (upI (m.2 94) u 0) from (fr2 Fm18 94 rfl))]; first | exact XT_t hXT hXt | exact XT_i (by omega)) (show (m18.2 94) u ≤ (m.2 92) u by rewrite [(show (m18.2 94) = (upI (m.2 94) u 0) from (fr2 Fm18 94 rfl))]; first | omega | (rw [upI_s]; omega) | exact hXt.2) (show 300 - (0 : Int) < ((((300 - (0 : Int) : Int) + 1).toNat : Nat) : Int) by omega)
    · skip
      refine T_ld 75 (.int (i32 0)) rfl (fun _ => rfl) ?_
      refine T_goto 80 rfl (fun _ => rfl) ?_
      refine T_sto 81 [(2, .int (i32 0)), (0, .ref (obq (m.2 107) u)), (1, .ref 12)] rfl (fun _ => rfl) ?_
      refine T_ld 82 (.int (i32 0)) rfl (fun _ => rfl) ?_
      refine T_sto 83 [(3, .int (i32 0)), (2, .int (i32 0)), (0, .ref (obq (m.2 107) u)), (1, .ref 12)] rfl (fun _ => rfl) ?_
      refine K_fl (KTy_mO Tm9 rfl rfl trivial ⟨G16, G15, trivial⟩) (fun m41 Tm41 Fm41 => ?_)
      have L83_45 : ∀ (n57 : Nat) (v42 : Int) (v43 : Int) (m44 : mR), (R32 v42) → (R32 v43) → KTy m44 → fr [] [25, 94, 101] (mO m41 [] []) m44 → (0 ≤ v42) → (v42 ≤ 17) → (0 ≤ v43) → (0 ≤ v43 ∧ v43 ≤ 238) → (0 ≤ v42 ∧ v42 ≤ 17) → (XTp u (m.2 94) (m44.2 94) ((m.2 92) u)) → ((m44.2 94) u ≤ (m.2 92) u) → 300 - v43 < (n57 : Int) → TT w D pm_180 (83, [(0, .ref (obq (m.2 107) u)), (1, .ref 12), (2, .int (i32 v42)), (3, .int (i32 v43))], [], (khp (mO m44 [] []) c, N), 0, 0) (Q_op_enter m c N u) := by
        intro n57
        induction n57 with
        | zero =>
          intro v42 v43 m44 q53 q54 Tm44 Fm44 ic46 ic47 ic48 ic49 ic50 ic51 ic52 hmu
          obtain ⟨q53a, q53b⟩ := id q53
          obtain ⟨q54a, q54b⟩ := id q54
          have hXT := ic51
          have hXl := ic52
          exfalso
          omega
        | succ n57 ih =>
          intro v42 v43 m44 q53 q54 Tm44 Fm44 ic46 ic47 ic48 ic49 ic50 ic51 ic52 hmu
          obtain ⟨q53a, q53b⟩ := id q53
          obtain ⟨q54a, q54b⟩ := id q54
          have hXT := ic51
          have hXl := ic52
          have ih58 := ih
          refine T_ld 84 (.int (i32 v43)) rfl (fun _ => rfl) ?_
          refine T_ld 87 (.int (i32 238)) rfl (fun _ => rfl) ?_
          refine T_icmp 109 90 rfl rfl rfl (r32 (by omega) (by omega)) ⟨by decide, by decide⟩ (fun (h59 : (238 : Int) ≤ v43) => ?_) (fun (h59 : ¬ ((238 : Int) ≤ v43)) => ?_)
          · skip
            refine T_ld 110 (.ref (obq (m.2 107) u)) rfl (fun _ => rfl) ?_
            refine T_ld 111 (.int (i32 v42)) rfl (fun _ => rfl) ?_
            refine T_ld 113 (.int (i32 16)) rfl (fun _ => rfl) ?_
            refine T_icmp 120 116 rfl rfl rfl (r32 (by omega) (by omega)) ⟨by decide, by decide⟩ (fun (h60 : v42 ≠ 16) => ?_) (fun (h60 : ¬ (v42 ≠ 16)) => ?_)
            · skip
              refine T_ld 121 (.int (i32 2)) rfl (fun _ => rfl) ?_
              have G61 : ∀ j, 0 ≤ (upI (upI (m.2 98) u 0) u 2) j ∧ (upI (upI (m.2 98) u 0) u 2) j ≤ 2 := upI_rg G1 ⟨by omega, by omega⟩
              refine K_poi (a' := [(98, upI (upI (m.2 98) u 0) u 2)]) 124 98 (upI (m.2 98) u 0) rfl rfl rfl (OKr_c (show (m44.2 107) = (m.2 107) from ((fr2 Fm44 107 rfl).trans ((fr2 Fm41 107 rfl).trans ((fr2 Fm9 107 rfl).trans (fr2 Fm6 107 rfl))))) (show (m44.2 108) = (m.2 108) from ((fr2 Fm44 108 rfl).trans ((fr2 Fm41 108 rfl).trans ((fr2 Fm9 108 rfl).trans (fr2 Fm6 108 rfl))))) pOKu) (show KTy (mO m44 [] []) from Tm44).2.2.1 (congrArg (fun f : Int → Int => (f u).toNat) (show (m44.2 107) = (m.2 107) from ((fr2 Fm44 107 rfl).trans ((fr2 Fm41 107 rfl).trans ((fr2 Fm9 107 rfl).trans (fr2 Fm6 107 rfl)))))) (show (m44.2 98) = (upI (m.2 98) u 0) from ((fr2 Fm44 98 rfl).trans ((fr2 Fm41 98 rfl).trans ((fr2 Fm9 98 rfl).trans (fr2 Fm6 98 rfl))))) rfl rfl ?_
              refine T_ret rfl (fun _ => rfl) ?_
              exact ⟨(mO m44 [] [(98, upI (upI (m.2 98) u 0) u 2)]), (KTy_mO Tm44 rfl rfl trivial ⟨G61, trivial⟩), (fr_m (fr_s Fm44 (fr_m (fr_s Fm41 (fr_m (fr_s Fm9 (fr_m (fr_s Fm6 (fr_m fr_0 rfl rfl) rfl rfl) rfl rfl) rfl rfl) rfl rfl) rfl rfl) rfl rfl) rfl rfl) rfl rfl), (show (∀ v, v ≠ u → (m44.2 94) v = (m.2 94) v) ∧ ((m.2 91) u = 0 → (m44.2 94) u ≤ (m.2 92) u) by first | (first | exact ⟨hXT.1, fun _ => hXT.2⟩ | exact ⟨fun v h => rfl, fun h => absurd h (by omega)⟩) | (exfalso; omega)), rfl⟩
            · skip
              refine T_ld 117 (.int (i32 0)) rfl (fun _ => rfl) ?_
              refine T_goto 121 rfl (fun _ => rfl) ?_
              have G62 : ∀ j, 0 ≤ (upI (upI (m.2 98) u 0) u 0) j ∧ (upI (upI (m.2 98) u 0) u 0) j ≤ 2 := upI_rg G1 ⟨by omega, by omega⟩
              refine K_poi (a' := [(98, upI (upI (m.2 98) u 0) u 0)]) 124 98 (upI (m.2 98) u 0) rfl rfl rfl (OKr_c (show (m44.2 107) = (m.2 107) from ((fr2 Fm44 107 rfl).trans ((fr2 Fm41 107 rfl).trans ((fr2 Fm9 107 rfl).trans (fr2 Fm6 107 rfl))))) (show (m44.2 108) = (m.2 108) from ((fr2 Fm44 108 rfl).trans ((fr2 Fm41 108 rfl).trans ((fr2 Fm9 108 rfl).trans (fr2 Fm6 108 rfl))))) pOKu) (show KTy (mO m44 [] []) from Tm44).2.2.1 (congrArg (fun f : Int → Int => (f u).toNat) (show (m44.2 107) = (m.2 107) from ((fr2 Fm44 107 rfl).trans ((fr2 Fm41 107 rfl).trans ((fr2 Fm9 107 rfl).trans (fr2 Fm6 107 rfl)))))) (show (m44.2 98) = (upI (m.2 98) u 0) from ((fr2 Fm44 98 rfl).trans ((fr2 Fm41 98 rfl).trans ((fr2 Fm9 98 rfl).trans (fr2 Fm6 98 rfl))))) rfl rfl ?_
              refine T_ret rfl (fun _ => rfl) ?_
              exact ⟨(mO m44 [] [(98, upI (upI (m.2 98) u 0) u 0)]), (KTy_mO Tm44 rfl rfl trivial ⟨G62, trivial⟩), (fr_m (fr_s Fm44 (fr_m (fr_s Fm41 (fr_m (fr_s Fm9 (fr_m (fr_s Fm6 (fr_m fr_0 rfl rfl) rfl rfl) rfl rfl) rfl rfl) rfl rfl) rfl rfl) rfl rfl) rfl rfl) rfl rfl), (show (∀ v, v ≠ u → (m44.2 94) v = (m.2 94) v) ∧ ((m.2 91) u = 0 → (m44.2 94) u ≤ (m.2 92) u) by first | (first | exact ⟨hXT.1, fun _ => hXT.2⟩ | exact ⟨fun v h => rfl, fun h => absurd h (by omega)⟩) | (exfalso; omega)), rfl⟩
          · skip
            refine T_ld 91 (.int (i32 v42)) rfl (fun _ => rfl) ?_
            refine T_ld 93 (.int (i32 16)) rfl (fun _ => rfl) ?_
            refine T_icmp 109 96 rfl rfl rfl (r32 (by omega) (by omega)) ⟨by decide, by decide⟩ (fun (h63 : (16 : Int) ≤ v42) => ?_) (fun (h63 : ¬ ((16 : Int) ≤ v42)) => ?_)
            · skip
              refine T_ld 110 (.ref (obq (m.2 107) u)) rfl (fun _ => rfl) ?_
              refine T_ld 111 (.int (i32 v42)) rfl (fun _ => rfl) ?_
              refine T_ld 113 (.int (i32 16)) rfl (fun _ => rfl) ?_
              refine T_icmp 120 116 rfl rfl rfl (r32 (by omega) (by omega)) ⟨by decide, by decide⟩ (fun (h64 : v42 ≠ 16) => ?_) (fun (h64 : ¬ (v42 ≠ 16)) => ?_)
              · skip
                refine T_ld 121 (.int (i32 2)) rfl (fun _ => rfl) ?_
                have G65 : ∀ j, 0 ≤ (upI (upI (m.2 98) u 0) u 2) j ∧ (upI (upI (m.2 98) u 0) u 2) j ≤ 2 := upI_rg G1 ⟨by omega, by omega⟩
                refine K_poi (a' := [(98, upI (upI (m.2 98) u 0) u 2)]) 124 98 (upI (m.2 98) u 0) rfl rfl rfl (OKr_c (show (m44.2 107) = (m.2 107) from ((fr2 Fm44 107 rfl).trans ((fr2 Fm41 107 rfl).trans ((fr2 Fm9 107 rfl).trans (fr2 Fm6 107 rfl))))) (show (m44.2 108) = (m.2 108) from ((fr2 Fm44 108 rfl).trans ((fr2 Fm41 108 rfl).trans ((fr2 Fm9 108 rfl).trans (fr2 Fm6 108 rfl))))) pOKu) (show KTy (mO m44 [] []) from Tm44).2.2.1 (congrArg (fun f : Int → Int => (f u).toNat) (show (m44.2 107) = (m.2 107) from ((fr2 Fm44 107 rfl).trans ((fr2 Fm41 107 rfl).trans ((fr2 Fm9 107 rfl).trans (fr2 Fm6 107 rfl)))))) (show (m44.2 98) = (upI (m.2 98) u 0) from ((fr2 Fm44 98 rfl).trans ((fr2 Fm41 98 rfl).trans ((fr2 Fm9 98 rfl).trans (fr2 Fm6 98 rfl))))) rfl rfl ?_
                refine T_ret rfl (fun _ => rfl) ?_
                exact ⟨(mO m44 [] [(98, upI (upI (m.2 98) u 0) u 2)]), (KTy_mO Tm44 rfl rfl trivial ⟨G65, trivial⟩), (fr_m (fr_s Fm44 (fr_m (fr_s Fm41 (fr_m (fr_s Fm9 (fr_m (fr_s Fm6 (fr_m fr_0 rfl rfl) rfl rfl) rfl rfl) rfl rfl) rfl rfl) rfl rfl) rfl rfl) rfl rfl) rfl rfl), (show (∀ v, v ≠ u → (m44.2 94) v = (m.2 94) v) ∧ ((m.2 91) u = 0 → (m44.2 94) u ≤ (m.2 92) u) by first | (first | exact ⟨hXT.1, fun _ => hXT.2⟩ | exact ⟨fun v h => rfl, fun h => absurd h (by omega)⟩) | (exfalso; omega)), rfl⟩
              · skip
                refine T_ld 117 (.int (i32 0)) rfl (fun _ => rfl) ?_
                refine T_goto 121 rfl (fun _ => rfl) ?_
                have G66 : ∀ j, 0 ≤ (upI (upI (m.2 98) u 0) u 0) j ∧ (upI (upI (m.2 98) u 0) u 0) j ≤ 2 := upI_rg G1 ⟨by omega, by omega⟩
                refine K_poi (a' := [(98, upI (upI (m.2 98) u 0) u 0)]) 124 98 (upI (m.2 98) u 0) rfl rfl rfl (OKr_c (show (m44.2 107) = (m.2 107) from ((fr2 Fm44 107 rfl).trans ((fr2 Fm41 107 rfl).trans ((fr2 Fm9 107 rfl).trans (fr2 Fm6 107 rfl))))) (show (m44.2 108) = (m.2 108) from ((fr2 Fm44 108 rfl).trans ((fr2 Fm41 108 rfl).trans ((fr2 Fm9 108 rfl).trans (fr2 Fm6 108 rfl))))) pOKu) (show KTy (mO m44 [] []) from Tm44).2.2.1 (congrArg (fun f : Int → Int => (f u).toNat) (show (m44.2 107) = (m.2 107) from ((fr2 Fm44 107 rfl).trans ((fr2 Fm41 107 rfl).trans ((fr2 Fm9 107 rfl).trans (fr2 Fm6 107 rfl)))))) (show (m44.2 98) = (upI (m.2 98) u 0) from ((fr2 Fm44 98 rfl).trans ((fr2 Fm41 98 rfl).trans ((fr2 Fm9 98 rfl).trans (fr2 Fm6 98 rfl))))) rfl rfl ?_
                refine T_ret rfl (fun _ => rfl) ?_
                exact ⟨(mO m44 [] [(98, upI (upI (m.2 98) u 0) u 0)]), (KTy_mO Tm44 rfl rfl trivial ⟨G66, trivial⟩), (fr_m (fr_s Fm44 (fr_m (fr_s Fm41 (fr_m (fr_s Fm9 (fr_m (fr_s Fm6 (fr_m fr_0 rfl rfl) rfl rfl) rfl rfl) rfl rfl) rfl rfl) rfl rfl) rfl rfl) rfl rfl) rfl rfl), (show (∀ v, v ≠ u → (m44.2 94) v = (m.2 94) v) ∧ ((m.2 91) u = 0 → (m44.2 94) u ≤ (m.2 92) u) by first | (first | exact ⟨hXT.1, fun _ => hXT.2⟩ | exact ⟨fun v h => rfl, fun h => absurd h (by omega)⟩) | (exfalso; omega)), rfl⟩
            · skip
              refine T_ld 97 (.ref (obq (m.2 107) u)) rfl (fun _ => rfl) ?_
              refine T_ld 98 (.ref 12) rfl (fun _ => rfl) ?_
              refine T_ld 99 (.int (i32 v42)) rfl (fun _ => rfl) ?_
              refine T_callx 102 181 [.ref (obq (m.2 107) u), .ref 12, .int (i32 v42)] [] rfl (inv_vt (args := [.int (i32 v42), .ref 12]) (obe_c (congrArg (fun f : Int → Int => (f u).toNat) (show (m44.2 107) = (m.2 107) from ((fr2 Fm44 107 rfl).trans ((fr2 Fm41 107 rfl).trans ((fr2 Fm9 107 rfl).trans (fr2 Fm6 107 rfl)))))) (khp_o0 _ (OKr_c (show (m44.2 107) = (m.2 107) from ((fr2 Fm44 107 rfl).trans ((fr2 Fm41 107 rfl).trans ((fr2 Fm9 107 rfl).trans (fr2 Fm6 107 rfl))))) (show (m44.2 108) = (m.2 108) from ((fr2 Fm44 108 rfl).trans ((fr2 Fm41 108 rfl).trans ((fr2 Fm9 108 rfl).trans (fr2 Fm6 108 rfl))))) pOKu))) rfl rfl rfl) rfl rfl (TC_cast (fun g9 => [.ref (obq g9 u), .ref 12, .int (i32 v42)]) (show (m44.2 107) = (m.2 107) from ((fr2 Fm44 107 rfl).trans ((fr2 Fm41 107 rfl).trans ((fr2 Fm9 107 rfl).trans (fr2 Fm6 107 rfl))))) (c_op_pass w (mO m44 [] []) c N D (by omega) Tm44 u v42 (r32 (by omega) (by omega)) (r32 (by omega) (by omega)) (OKr_c (show (m44.2 107) = (m.2 107) from ((fr2 Fm44 107 rfl).trans ((fr2 Fm41 107 rfl).trans ((fr2 Fm9 107 rfl).trans (fr2 Fm6 107 rfl))))) (show (m44.2 108) = (m.2 108) from ((fr2 Fm44 108 rfl).trans ((fr2 Fm41 108 rfl).trans ((fr2 Fm9 108 rfl).trans (fr2 Fm6 108 rfl))))) pOKu) (show NKp (m44.2 18) (m44.2 19) by rewrite [(show (m44.2 18) = (m.2 18) from ((fr2 Fm44 18 rfl).trans ((fr2 Fm41 18 rfl).trans ((fr2 Fm9 18 rfl).trans (fr2 Fm6 18 rfl))))), (show (m44.2 19) = (m.2 19) from ((fr2 Fm44 19 rfl).trans ((fr2 Fm41 19 rfl).trans ((fr2 Fm9 19 rfl).trans (fr2 Fm6 19 rfl)))))]; exact hNK) (show 0 ≤ v42 ∧ v42 ≤ 15 by omega) (show (m44.2 92) u ≤ 128 by rewrite [(show (m44.2 92) = (m.2 92) from ((fr2 Fm44 92 rfl).trans ((fr2 Fm41 92 rfl).trans ((fr2 Fm9 92 rfl).trans (fr2 Fm6 92 rfl)))))]; omega) (show (m44.2 94) u ≤ (m44.2 92) u by rewrite [(show (m44.2 92) = (m.2 92) from ((fr2 Fm44 92 rfl).trans ((fr2 Fm41 92 rfl).trans ((fr2 Fm9 92 rfl).trans (fr2 Fm6 92 rfl)))))]; omega))) (fun rr67 k68 => ?_)
              obtain ⟨m69, ps, Tm69, Fm69, g70, h71, rfl⟩ := k68
              refine Or.inl ⟨_, _, _, _, rfl, ?_⟩
              refine K_nb (st' := [.int (i32 ps)]) rfl ?_
              obtain ⟨g70a, g70b⟩ := g70
              replace h71 : XTp u (m44.2 94) (m69.2 94) ((m44.2 92) u) := h71
              rewrite [(show (m44.2 92) = (m.2 92) from ((fr2 Fm44 92 rfl).trans ((fr2 Fm41 92 rfl).trans ((fr2 Fm9 92 rfl).trans (fr2 Fm6 92 rfl)))))] at h71
              have hXt := h71
              refine T_sto 103 [(2, .int (i32 ps)), (0, .ref (obq (m.2 107) u)), (1, .ref 12), (3, .int (i32 v43))] rfl (fun _ => rfl) ?_
              refine T_iinc 106 [(3, .int (i32 (v43 + 1))), (2, .int (i32 ps)), (0, .ref (obq (m.2 107) u)), (1, .ref 12)] rfl rfl (by decide) rfl rfl ?_
              refine T_goto 83 rfl (fun _ => rfl) ?_
              refine Tm_lv (a := [(0, .ref (obq (m.2 107) u)), (1, .ref 12), (2, .int (i32 ps)), (3, .int (i32 (v43 + 1)))]) rfl rfl ⟨rfl, rfl, rfl, rfl, trivial⟩ ?_
              exact ih58 ps (v43 + 1) (mO m69 [] []) (r32 (by omega) (by omega)) (r32 (by omega) (by omega)) Tm69 (fr_m (fr_s Fm69 (fr_m (fr_s Fm44 (fr_m fr_0 rfl rfl) rfl rfl) rfl rfl) rfl rfl) rfl rfl) (show 0 ≤ ps by omega) (show ps ≤ 17 by omega) (show 0 ≤ (v43 + 1) by omega) (show 0 ≤ (v43 + 1) ∧ (v43 + 1) ≤ 238 by omega) (show 0 ≤ ps ∧ ps ≤ 17 by omega) (show XTp u (m.2 94) (m69.2 94) ((m.2 92) u) by first | exact XT_t hXT hXt | exact XT_i (by omega)) (show (m69.2 94) u ≤ (m.2 92) u by first | omega | (rw [upI_s]; omega) | exact hXt.2) (show 300 - (v43 + 1) < (n57 : Int) by omega)
      refine Tm_lv (a := [(0, .ref (obq (m.2 107) u)), (1, .ref 12), (2, .int (i32 0)), (3, .int (i32 0))]) rfl rfl ⟨rfl, rfl, rfl, rfl, trivial⟩ ?_
      exact L83_45 ((300 - (0 : Int) : Int) + 1).toNat 0 0 (mO m41 [] []) ⟨by decide, by decide⟩ ⟨by decide, by decide⟩ Tm41 (fr_m fr_0 rfl rfl) (show 0 ≤ (0 : Int) by omega) (show (0 : Int) ≤ 17 by omega) (show 0 ≤ (0 : Int) by omega) (show 0 ≤ (0 : Int) ∧ (0 : Int) ≤ 238 by omega) (show 0 ≤ (0 : Int) ∧ (0 : Int) ≤ 17 by omega) (show XTp u (m.2 94) (m41.2 94) ((m.2 92) u) by rewrite [(show (m41.2 94) = (upI (m.2 94) u 0) from (fr2 Fm41 94 rfl))]; first | exact XT_t hXT hXt | exact XT_i (by omega)) (show (m41.2 94) u ≤ (m.2 92) u by rewrite [(show (m41.2 94) = (upI (m.2 94) u 0) from (fr2 Fm41 94 rfl))]; first | omega | (rw [upI_s]; omega) | exact hXt.2) (show 300 - (0 : Int) < ((((300 - (0 : Int) : Int) + 1).toNat : Nat) : Int) by omega)
  · skip
    refine T_ret rfl (fun _ => rfl) ?_
    exact ⟨(mO m [] [(98, upI (m.2 98) u 0)]), (KTy_mO hT rfl rfl trivial ⟨G1, trivial⟩), (fr_m fr_0 rfl rfl), (show (∀ v, v ≠ u → (m.2 94) v = (m.2 94) v) ∧ ((m.2 91) u = 0 → (m.2 94) u ≤ (m.2 92) u) by first | (first | exact ⟨hXT.1, fun _ => hXT.2⟩ | exact ⟨fun v h => rfl, fun h => absurd h (by omega)⟩) | (exfalso; omega)), rfl⟩
def fF_op_write : List Nat := []
def fA_op_write : List Nat := [100]
def Q_op_write (m : mR) (c : Nat → Option am_C) (N : Nat) (u : Int) (i : Int) (b : Int) : ag_Re af_T → Prop := fun R => (∃ (M : mR) (r : Int), KTy M ∧ fr fF_op_write fA_op_write m M ∧ (0 ≤ r ∧ r ≤ 6144) ∧ (b ≤ r ∧ r ≤ b + 512) ∧ R = (.inl (some (.int (i32 r))), (khp M c, N), 0, 0))
set_option maxHeartbeats 3000000 in
theorem c_op_write (w : wX) (m : mR) (c : Nat → Option am_C) (N D : Nat) (hD : 2 ≤ D) (hT : KTy m) (u : Int) (i : Int) (b : Int) (qu : R32 u) (qi : R32 i) (qb : R32 b) (pOKu : OKr m u) (p1 : 0 ≤ i ∧ i ≤ 11) (p2 : 0 ≤ b ∧ b ≤ 5632) (hH5 : hb (m.2 10) ((m.2 13) i) 16 ≤ 512) : TC w D 179 [.ref (obq (m.2 107) u), .ref 12, .int (i32 i), .int (i32 b)] (khp m c, N) (Q_op_write m c N u i b) := by
  obtain ⟨D, rfl⟩ : ∃ k, D = k + 1 := ⟨D - 1, by omega⟩
  obtain ⟨qua, qub⟩ := id qu
  obtain ⟨qia, qib⟩ := id qi
  obtain ⟨qba, qbb⟩ := id qb
  refine Tc_of rfl ?_
  rw [show (khp m c, N) = (khp (mO m [] []) c, N) from by rw [mO_nil m]]
  show TT w D pm_179 (0, [(0, .ref (obq (m.2 107) u)), (1, .ref 12), (2, .int (i32 i)), (3, .int (i32 b))], [], (khp (mO m [] []) c, N), 0, 0) (Q_op_write m c N u i b)
  refine T_ld 1 (.int (i32 i)) rfl (fun _ => rfl) ?_
  refine T_ld 3 (.int (i32 17)) rfl (fun _ => rfl) ?_
  refine T_imul 4 rfl rfl ?_
  refine T_sto 6 [(4, .int (i32 (i * 17))), (0, .ref (obq (m.2 107) u)), (1, .ref 12), (2, .int (i32 i)), (3, .int (i32 b))] rfl (fun _ => rfl) ?_
  refine T_ld 7 (.int (i32 b)) rfl (fun _ => rfl) ?_
  refine T_sto 9 [(5, .int (i32 b)), (4, .int (i32 (i * 17))), (0, .ref (obq (m.2 107) u)), (1, .ref 12), (2, .int (i32 i)), (3, .int (i32 b))] rfl (fun _ => rfl) ?_
  refine T_ld 10 (.int (i32 0)) rfl (fun _ => rfl) ?_
  refine T_sto 12 [(6, .int (i32 0)), (5, .int (i32 b)), (4, .int (i32 (i * 17))), (0, .ref (obq (m.2 107) u)), (1, .ref 12), (2, .int (i32 i)), (3, .int (i32 b))] rfl (fun _ => rfl) ?_
  have L12_4 : ∀ (n14 : Nat) (v1 : Int) (v2 : Int) (m3 : mR), (R32 v1) → (R32 v2) → KTy m3 → fr [] [100] (mO m [] []) m3 → (0 ≤ v1) → (0 ≤ v2) → (0 ≤ v2 ∧ v2 ≤ 16) → (v1 = b + hb (m.2 10) ((m.2 13) i) v2) → (0 ≤ v1 ∧ v1 ≤ 6144) → 20 - v2 < (n14 : Int) → TT w D pm_179 (12, [(0, .ref (obq (m.2 107) u)), (1, .ref 12), (2, .int (i32 i)), (4, .int (i32 (i * 17))), (5, .int (i32 v1)), (6, .int (i32 v2))], [], (khp (mO m3 [] []) c, N), 0, 0) (Q_op_write m c N u i b) := by
    intro n14
    induction n14 with
    | zero =>
      intro v1 v2 m3 q10 q11 Tm3 Fm3 ic5 ic6 ic7 ic8 ic9 hmu
      obtain ⟨q10a, q10b⟩ := id q10
      obtain ⟨q11a, q11b⟩ := id q11
      have hWb := ic8
      exfalso
      omega
    | succ n14 ih =>
      intro v1 v2 m3 q10 q11 Tm3 Fm3 ic5 ic6 ic7 ic8 ic9 hmu
      obtain ⟨q10a, q10b⟩ := id q10
      obtain ⟨q11a, q11b⟩ := id q11
      have hWb := ic8
      have ih15 := ih
      refine T_ld 13 (.ref (obq (m.2 107) u)) rfl (fun _ => rfl) ?_
      refine K_gor 16 rfl rfl (OKr_c (show (m3.2 107) = (m.2 107) from (fr2 Fm3 107 rfl)) (show (m3.2 108) = (m.2 108) from (fr2 Fm3 108 rfl)) pOKu) (congrArg (fun f : Int → Int => (f u).toNat) (show (m3.2 107) = (m.2 107) from (fr2 Fm3 107 rfl))) rfl ?_
      refine T_ld 18 (.int (i32 (i * 17))) rfl (fun _ => rfl) ?_
      refine K_lalo 19 1 (m.2 101) rfl rfl rfl (OKr_c (show (m3.2 107) = (m.2 107) from (fr2 Fm3 107 rfl)) (show (m3.2 108) = (m.2 108) from (fr2 Fm3 108 rfl)) pOKu) (congrArg (fun f : Int → Int => (f u).toNat) (show (m3.2 107) = (m.2 107) from (fr2 Fm3 107 rfl))) (by omega) (show (i * 17) < (221 : Int) by omega) (show (m3.2 101) = (m.2 101) from (fr2 Fm3 101 rfl)) ?_
      have e16 : (-9223372036854775808) ≤ m.2 101 (65536 * u + (i * 17)) ∧ m.2 101 (65536 * u + (i * 17)) ≤ 9223372036854775807 := hT.2.1 101 (65536 * u + (i * 17))
      refine T_ld 20 (.long (i64 0)) rfl (fun _ => rfl) ?_
      refine T_lcmp 21 rfl rfl (r64 (by omega) (by omega)) ⟨by decide, by decide⟩ (fun z17 h18 => ?_)
      obtain ⟨h18a, h18b, h18c, h18d, h18e⟩ := h18
      refine T_if 108 24 rfl rfl rfl (r32 (by omega) (by omega)) (fun (h19 : z17 = 0) => ?_) (fun (h19 : ¬ (z17 = 0)) => ?_)
      · skip
        have hl20 : (m.2 101) (65536 * u + (i * 17)) = 0 := by omega
        have hb3 := hb_le (fw := (m.2 10)) (h := (m.2 13) i) (fun j => (hT.2.1 10 j).1) (n := v2) (k := 16) (by omega) (by omega)
        have hb4 := hb_le (fw := (m.2 10)) (h := (m.2 13) i) (fun j => (hT.2.1 10 j).1) (n := 0) (k := v2) (by omega) (by omega)
        have hb5 := hb_0 (m.2 10) ((m.2 13) i)
        refine T_ld 110 (.int (i32 v1)) rfl (fun _ => rfl) ?_
        refine T_ret rfl (fun _ => rfl) ?_
        exact ⟨(mO m3 [] []), v1, Tm3, (fr_m (fr_s Fm3 (fr_m fr_0 rfl rfl) rfl rfl) rfl rfl), ⟨by omega, by omega⟩, (show b ≤ v1 ∧ v1 ≤ b + 512 by omega), rfl⟩
      · skip
        have hl21 : (m.2 101) (65536 * u + (i * 17)) ≠ 0 := by omega
        refine T_ld 26 (.int (i32 v2)) rfl (fun _ => rfl) ?_
        refine T_ld 28 (.int (i32 16)) rfl (fun _ => rfl) ?_
        refine T_icmp 108 31 rfl rfl rfl (r32 (by omega) (by omega)) ⟨by decide, by decide⟩ (fun (h22 : (16 : Int) ≤ v2) => ?_) (fun (h22 : ¬ ((16 : Int) ≤ v2)) => ?_)
        · skip
          have hb3 := hb_le (fw := (m.2 10)) (h := (m.2 13) i) (fun j => (hT.2.1 10 j).1) (n := v2) (k := 16) (by omega) (by omega)
          have hb4 := hb_le (fw := (m.2 10)) (h := (m.2 13) i) (fun j => (hT.2.1 10 j).1) (n := 0) (k := v2) (by omega) (by omega)
          have hb5 := hb_0 (m.2 10) ((m.2 13) i)
          refine T_ld 110 (.int (i32 v1)) rfl (fun _ => rfl) ?_
          refine T_ret rfl (fun _ => rfl) ?_
          exact ⟨(mO m3 [] []), v1, Tm3, (fr_m (fr_s Fm3 (fr_m fr_0 rfl rfl) rfl rfl) rfl rfl), ⟨by omega, by omega⟩, (show b ≤ v1 ∧ v1 ≤ b + 512 by omega), rfl⟩
        · skip
          refine T_ld 32 (.ref 12) rfl (fun _ => rfl) ?_
          refine T_ld 33 (.int (i32 i)) rfl (fun _ => rfl) ?_
          refine T_ld 35 (.int (i32 v2)) rfl (fun _ => rfl) ?_
          refine T_callx 38 101 [.ref 12, .int (i32 i), .int (i32 v2)] [] rfl (fun _ => rfl) rfl rfl (c_pr_widthOfField w (mO m3 [] []) c N D (by omega) Tm3 i v2 (r32 (by omega) (by omega)) (r32 (by omega) (by omega)) (show 0 ≤ i ∧ i ≤ 11 by omega) (show 0 ≤ v2 by omega)) (fun rr23 k24 => ?_)
          obtain ⟨wf, g25, h26, rfl⟩ := k24
          refine Or.inl ⟨_, _, _, _, rfl, ?_⟩
          refine T_ns (st' := [.int (i32 wf)]) rfl ?_
          obtain ⟨g25a, g25b⟩ := g25
          replace h26 : v2 ≤ 15 → wf = (m3.2 10) ((m3.2 13) i * 16 + v2) := h26
          rewrite [(show (m3.2 10) = (m.2 10) from (fr2 Fm3 10 rfl)), (show (m3.2 13) = (m.2 13) from (fr2 Fm3 13 rfl))] at h26
          have hWf := h26
          refine T_sto 40 [(7, .int (i32 wf)), (0, .ref (obq (m.2 107) u)), (1, .ref 12), (2, .int (i32 i)), (4, .int (i32 (i * 17))), (5, .int (i32 v1)), (6, .int (i32 v2))] rfl (fun _ => rfl) ?_
          have hW1 := hWf (by omega)
          have hb1 := hb_s (m.2 10) ((m.2 13) i) (n := v2) (by omega)
          have hb2 := hb_le (fw := (m.2 10)) (h := (m.2 13) i) (fun j => (hT.2.1 10 j).1) (n := v2 + 1) (k := 16) (by omega) (by omega)
          refine T_ld 42 (.int (i32 wf)) rfl (fun _ => rfl) ?_
          refine T_ld 43 (.int (i32 1)) rfl (fun _ => rfl) ?_
          refine T_isub 44 rfl rfl ?_
          refine T_sto 46 [(8, .int (i32 (wf - 1))), (7, .int (i32 wf)), (0, .ref (obq (m.2 107) u)), (1, .ref 12), (2, .int (i32 i)), (4, .int (i32 (i * 17))), (5, .int (i32 v1)), (6, .int (i32 v2))] rfl (fun _ => rfl) ?_
          have L46_30 : ∀ (n41 : Nat) (v27 : Int) (v28 : Int) (m29 : mR), (R32 v27) → (R32 v28) → KTy m29 → fr [] [100] (mO m3 [] []) m29 → (0 ≤ v27) → ((-1) ≤ v28) → (v28 ≤ 63) → ((-1) ≤ v28 ∧ v28 ≤ 63) → (0 ≤ v27 ∧ v27 + v28 + 1 ≤ b + 512) → (v27 + v28 + 1 = b + hb (m.2 10) ((m.2 13) i) (v2 + 1)) → 100 + v28 < (n41 : Int) → TT w D pm_179 (46, [(0, .ref (obq (m.2 107) u)), (1, .ref 12), (2, .int (i32 i)), (4, .int (i32 (i * 17))), (5, .int (i32 v27)), (6, .int (i32 v2)), (8, .int (i32 v28))], [], (khp (mO m29 [] []) c, N), 0, 0) (Q_op_write m c N u i b) := by
            intro n41
            induction n41 with
            | zero =>
              intro v27 v28 m29 q37 q38 Tm29 Fm29 ic31 ic32 ic33 ic34 ic35 ic36 hmu
              obtain ⟨q37a, q37b⟩ := id q37
              obtain ⟨q38a, q38b⟩ := id q38
              have hWc := ic36
              exfalso
              omega
            | succ n41 ih =>
              intro v27 v28 m29 q37 q38 Tm29 Fm29 ic31 ic32 ic33 ic34 ic35 ic36 hmu
              obtain ⟨q37a, q37b⟩ := id q37
              obtain ⟨q38a, q38b⟩ := id q38
              have hWc := ic36
              have ih42 := ih
              refine T_ld 48 (.int (i32 v28)) rfl (fun _ => rfl) ?_
              refine T_if 102 51 rfl rfl rfl (r32 (by omega) (by omega)) (fun (h43 : v28 < 0) => ?_) (fun (h43 : ¬ (v28 < 0)) => ?_)
              · skip
                refine T_iinc 105 [(6, .int (i32 (v2 + 1))), (0, .ref (obq (m.2 107) u)), (1, .ref 12), (2, .int (i32 i)), (4, .int (i32 (i * 17))), (5, .int (i32 v27)), (8, .int (i32 v28))] rfl rfl (by decide) rfl rfl ?_
                refine T_goto 12 rfl (fun _ => rfl) ?_
                refine Tm_lv (a := [(0, .ref (obq (m.2 107) u)), (1, .ref 12), (2, .int (i32 i)), (4, .int (i32 (i * 17))), (5, .int (i32 v27)), (6, .int (i32 (v2 + 1)))]) rfl rfl ⟨rfl, rfl, rfl, rfl, rfl, rfl, trivial⟩ ?_
                exact ih15 v27 (v2 + 1) (mO m29 [] []) (r32 (by omega) (by omega)) (r32 (by omega) (by omega)) Tm29 (fr_m (fr_s Fm29 (fr_m (fr_s Fm3 (fr_m fr_0 rfl rfl) rfl rfl) rfl rfl) rfl rfl) rfl rfl) (show 0 ≤ v27 by omega) (show 0 ≤ (v2 + 1) by omega) (show 0 ≤ (v2 + 1) ∧ (v2 + 1) ≤ 16 by omega) (show v27 = b + hb (m.2 10) ((m.2 13) i) (v2 + 1) by first | (rw [hb_0]; omega) | omega) (show 0 ≤ v27 ∧ v27 ≤ 6144 by omega) (show 20 - (v2 + 1) < (n14 : Int) by omega)
              · skip
                refine T_ld 52 (.ref (obq (m.2 107) u)) rfl (fun _ => rfl) ?_
                refine K_gor 55 rfl rfl (OKr_c (show (m29.2 107) = (m.2 107) from ((fr2 Fm29 107 rfl).trans (fr2 Fm3 107 rfl))) (show (m29.2 108) = (m.2 108) from ((fr2 Fm29 108 rfl).trans (fr2 Fm3 108 rfl))) pOKu) (congrArg (fun f : Int → Int => (f u).toNat) (show (m29.2 107) = (m.2 107) from ((fr2 Fm29 107 rfl).trans (fr2 Fm3 107 rfl)))) rfl ?_
                refine T_ld 57 (.int (i32 v27)) rfl (fun _ => rfl) ?_
                refine T_ld 59 (.int (i32 8)) rfl (fun _ => rfl) ?_
                refine T_idiv 60 rfl rfl (by omega) (by omega) (by omega) (by omega) ?_
                refine T_dup2 61 rfl (fun _ => rfl) ?_
                refine K_balo 62 0 (m29.2 100) rfl rfl rfl (OKr_c (show (m29.2 107) = (m.2 107) from ((fr2 Fm29 107 rfl).trans (fr2 Fm3 107 rfl))) (show (m29.2 108) = (m.2 108) from ((fr2 Fm29 108 rfl).trans (fr2 Fm3 108 rfl))) pOKu) (congrArg (fun f : Int → Int => (f u).toNat) (show (m29.2 107) = (m.2 107) from ((fr2 Fm29 107 rfl).trans (fr2 Fm3 107 rfl)))) (by omega) (show (v27 / 8) < (896 : Int) by omega) rfl ?_
                have e44 : (-128) ≤ (m29.2 100) (65536 * u + (v27 / 8)) ∧ (m29.2 100) (65536 * u + (v27 / 8)) ≤ 127 := (Tm29.2.1 100) (65536 * u + (v27 / 8))
                refine T_ld 63 (.ref (obq (m.2 107) u)) rfl (fun _ => rfl) ?_
                refine K_gor 66 rfl rfl (OKr_c (show (m29.2 107) = (m.2 107) from ((fr2 Fm29 107 rfl).trans (fr2 Fm3 107 rfl))) (show (m29.2 108) = (m.2 108) from ((fr2 Fm29 108 rfl).trans (fr2 Fm3 108 rfl))) pOKu) (congrArg (fun f : Int → Int => (f u).toNat) (show (m29.2 107) = (m.2 107) from ((fr2 Fm29 107 rfl).trans (fr2 Fm3 107 rfl)))) rfl ?_
                refine T_ld 68 (.int (i32 (i * 17))) rfl (fun _ => rfl) ?_
                refine T_ld 69 (.int (i32 1)) rfl (fun _ => rfl) ?_
                refine T_iadd 70 rfl rfl ?_
                refine T_ld 72 (.int (i32 v2)) rfl (fun _ => rfl) ?_
                refine T_iadd 73 rfl rfl ?_
                refine K_lalo 74 1 (m.2 101) rfl rfl rfl (OKr_c (show (m29.2 107) = (m.2 107) from ((fr2 Fm29 107 rfl).trans (fr2 Fm3 107 rfl))) (show (m29.2 108) = (m.2 108) from ((fr2 Fm29 108 rfl).trans (fr2 Fm3 108 rfl))) pOKu) (congrArg (fun f : Int → Int => (f u).toNat) (show (m29.2 107) = (m.2 107) from ((fr2 Fm29 107 rfl).trans (fr2 Fm3 107 rfl)))) (by omega) (show (((i * 17) + 1) + v2) < (221 : Int) by omega) (show (m29.2 101) = (m.2 101) from ((fr2 Fm29 101 rfl).trans (fr2 Fm3 101 rfl))) ?_
                have e45 : (-9223372036854775808) ≤ m.2 101 (65536 * u + (((i * 17) + 1) + v2)) ∧ m.2 101 (65536 * u + (((i * 17) + 1) + v2)) ≤ 9223372036854775807 := hT.2.1 101 (65536 * u + (((i * 17) + 1) + v2))
                refine T_ld 76 (.int (i32 v28)) rfl (fun _ => rfl) ?_
                refine T_lhv 77 _ rfl (fun _ => rfl) (fun z46 h47 => ?_)
                obtain ⟨h47a, h47b⟩ := h47
                refine T_ld 78 (.long (i64 1)) rfl (fun _ => rfl) ?_
                refine T_land 79 rfl rfl (by decide) (by decide) (fun z48 h49 => ?_)
                refine T_ld 81 (.int (i32 7)) rfl (fun _ => rfl) ?_
                refine T_ld 83 (.int (i32 v27)) rfl (fun _ => rfl) ?_
                refine T_ld 85 (.int (i32 8)) rfl (fun _ => rfl) ?_
                refine T_irem 86 rfl rfl (by omega) (by omega) (by omega) (by omega) ?_
                refine T_isub 87 rfl rfl ?_
                refine T_lhv 88 _ rfl (fun _ => rfl) (fun z50 h51 => ?_)
                obtain ⟨h51a, h51b⟩ := h51
                refine T_l2i 89 rfl rfl ?_
                refine T_i2b 90 rfl rfl (fun z52 h53 => ?_)
                refine T_hv 91 _ rfl (fun _ => rfl) (fun z54 h55 => ?_)
                obtain ⟨h55a, h55b⟩ := h55
                refine T_i2b 92 rfl rfl (fun z56 h57 => ?_)
                have G58 : ∀ j, (-128) ≤ (upI (m29.2 100) (65536 * u + (v27 / 8)) z56) j ∧ (upI (m29.2 100) (65536 * u + (v27 / 8)) z56) j ≤ 127 := upI_rg (Tm29.2.1 100) ⟨by omega, by omega⟩
                refine K_basto (a' := [(100, upI (m29.2 100) (65536 * u + (v27 / 8)) z56)]) 93 0 (m29.2 100) rfl rfl rfl (OKr_c (show (m29.2 107) = (m.2 107) from ((fr2 Fm29 107 rfl).trans (fr2 Fm3 107 rfl))) (show (m29.2 108) = (m.2 108) from ((fr2 Fm29 108 rfl).trans (fr2 Fm3 108 rfl))) pOKu) (show KTy (mO m29 [] []) from Tm29).2.2.1 (congrArg (fun f : Int → Int => (f u).toNat) (show (m29.2 107) = (m.2 107) from ((fr2 Fm29 107 rfl).trans (fr2 Fm3 107 rfl)))) (by omega) (show (v27 / 8) < (896 : Int) by omega) (by omega) rfl rfl ?_
                refine T_iinc 96 [(5, .int (i32 (v27 + 1))), (0, .ref (obq (m.2 107) u)), (1, .ref 12), (2, .int (i32 i)), (4, .int (i32 (i * 17))), (6, .int (i32 v2)), (8, .int (i32 v28))] rfl rfl (by decide) rfl rfl ?_
                refine T_iinc 99 [(8, .int (i32 (v28 + (-1)))), (5, .int (i32 (v27 + 1))), (0, .ref (obq (m.2 107) u)), (1, .ref 12), (2, .int (i32 i)), (4, .int (i32 (i * 17))), (6, .int (i32 v2))] rfl rfl (by decide) rfl rfl ?_
                refine T_goto 46 rfl (fun _ => rfl) ?_
                refine Tm_lv (a := [(0, .ref (obq (m.2 107) u)), (1, .ref 12), (2, .int (i32 i)), (4, .int (i32 (i * 17))), (5, .int (i32 (v27 + 1))), (6, .int (i32 v2)), (8, .int (i32 (v28 + (-1))))]) rfl rfl ⟨rfl, rfl, rfl, rfl, rfl, rfl, rfl, trivial⟩ ?_
                exact ih42 (v27 + 1) (v28 + (-1)) (mO m29 [] [(100, upI (m29.2 100) (65536 * u + (v27 / 8)) z56)]) (r32 (by omega) (by omega)) (r32 (by omega) (by omega)) (KTy_mO Tm29 rfl rfl trivial ⟨G58, trivial⟩) (fr_m (fr_s Fm29 (fr_m fr_0 rfl rfl) rfl rfl) rfl rfl) (show 0 ≤ (v27 + 1) by omega) (show (-1) ≤ (v28 + (-1)) by omega) (show (v28 + (-1)) ≤ 63 by omega) (show (-1) ≤ (v28 + (-1)) ∧ (v28 + (-1)) ≤ 63 by omega) (show 0 ≤ (v27 + 1) ∧ (v27 + 1) + (v28 + (-1)) + 1 ≤ b + 512 by omega) (show (v27 + 1) + (v28 + (-1)) + 1 = b + hb (m.2 10) ((m.2 13) i) (v2 + 1) by omega) (show 100 + (v28 + (-1)) < (n41 : Int) by omega)
          refine Tm_lv (a := [(0, .ref (obq (m.2 107) u)), (1, .ref 12), (2, .int (i32 i)), (4, .int (i32 (i * 17))), (5, .int (i32 v1)), (6, .int (i32 v2)), (8, .int (i32 (wf - 1)))]) rfl rfl ⟨rfl, rfl, rfl, rfl, rfl, rfl, rfl, trivial⟩ ?_
          exact L46_30 ((100 + (wf - 1) : Int) + 1).toNat v1 (wf - 1) (mO m3 [] []) (r32 (by omega) (by omega)) (r32 (by omega) (by omega)) Tm3 (fr_m fr_0 rfl rfl) (show 0 ≤ v1 by omega) (show (-1) ≤ (wf - 1) by omega) (show (wf - 1) ≤ 63 by omega) (show (-1) ≤ (wf - 1) ∧ (wf - 1) ≤ 63 by omega) (show 0 ≤ v1 ∧ v1 + (wf - 1) + 1 ≤ b + 512 by omega) (show v1 + (wf - 1) + 1 = b + hb (m.2 10) ((m.2 13) i) (v2 + 1) by omega) (show 100 + (wf - 1) < ((((100 + (wf - 1) : Int) + 1).toNat : Nat) : Int) by omega)
  refine Tm_lv (a := [(0, .ref (obq (m.2 107) u)), (1, .ref 12), (2, .int (i32 i)), (4, .int (i32 (i * 17))), (5, .int (i32 b)), (6, .int (i32 0))]) rfl rfl ⟨rfl, rfl, rfl, rfl, rfl, rfl, trivial⟩ ?_
  exact L12_4 ((20 - (0 : Int) : Int) + 1).toNat b 0 (mO m [] []) (r32 (by omega) (by omega)) ⟨by decide, by decide⟩ hT (fr_m fr_0 rfl rfl) (show 0 ≤ b by omega) (show 0 ≤ (0 : Int) by omega) (show 0 ≤ (0 : Int) ∧ (0 : Int) ≤ 16 by omega) (show b = b + hb (m.2 10) ((m.2 13) i) (0 : Int) by first | (rw [hb_0]; omega) | omega) (show 0 ≤ b ∧ b ≤ 6144 by omega) (show 20 - (0 : Int) < ((((20 - (0 : Int) : Int) + 1).toNat : Nat) : Int) by omega)
def fF_op_leave : List Nat := []
def fA_op_leave : List Nat := [92, 98, 99, 100]
def Q_op_leave (m : mR) (c : Nat → Option am_C) (N : Nat) (u : Int) (n : Int) : ag_Re af_T → Prop := fun R => (∃ (M : mR), KTy M ∧ fr fF_op_leave fA_op_leave m M ∧ (∀ v, v ≠ u → (M.2 92) v = (m.2 92) v) ∧ R = (.inl (none), (khp M c, N), 0, 0))
set_option maxHeartbeats 3000000 in
theorem c_op_leave (w : wX) (m : mR) (c : Nat → Option am_C) (N D : Nat) (hD : 3 ≤ D) (hT : KTy m) (u : Int) (n : Int) (qu : R32 u) (qn : R32 n) (pOKu : OKr m u) (hHB : HBp (m.1 214) (m.2 10)) (hIH : IHp (m.1 215) (m.2 13) (m.1 214)) (hEM : LTp (m.1 218) (m.2 17) (m.1 215)) (p4 : 0 ≤ n ∧ n ≤ 100000000) (hLp : (m.2 91) u = 0 → (m.2 92) u ≤ 128 ∧ (m.2 94) u ≤ (m.2 92) u) : TC w D 178 [.ref (obq (m.2 107) u), .ref 12, .int (i32 n)] (khp m c, N) (Q_op_leave m c N u n) := by
  obtain ⟨D, rfl⟩ : ∃ k, D = k + 1 := ⟨D - 1, by omega⟩
  obtain ⟨qua, qub⟩ := id qu
  obtain ⟨qna, qnb⟩ := id qn
  have f214 : 0 ≤ m.1 214 ∧ m.1 214 ≤ 12 := hT.1 214
  have f215 : 0 ≤ m.1 215 ∧ m.1 215 ≤ 12 := hT.1 215
  have f218 : 0 ≤ m.1 218 ∧ m.1 218 ≤ 12 := hT.1 218
  refine Tc_of rfl ?_
  rw [show (khp m c, N) = (khp (mO m [] []) c, N) from by rw [mO_nil m]]
  show TT w D pm_178 (0, [(0, .ref (obq (m.2 107) u)), (1, .ref 12), (2, .int (i32 n))], [], (khp (mO m [] []) c, N), 0, 0) (Q_op_leave m c N u n)
  refine T_ld 1 (.ref (obq (m.2 107) u)) rfl (fun _ => rfl) ?_
  refine T_ld 2 (.int (i32 n)) rfl (fun _ => rfl) ?_
  have G1 : ∀ j, 0 ≤ (upI (m.2 99) u n) j ∧ (upI (m.2 99) u n) j ≤ 100000000 := upI_rg (hT.2.1 99) ⟨by omega, by omega⟩
  refine K_poi (a' := [(99, upI (m.2 99) u n)]) 5 99 (m.2 99) rfl rfl rfl pOKu (show KTy (mO m [] []) from hT).2.2.1 rfl rfl rfl rfl ?_
  refine K_fl (KTy_mO hT rfl rfl trivial ⟨G1, trivial⟩) (fun m2 Tm2 Fm2 => ?_)
  have J37_4 : ∀ (m3 : mR), KTy m3 → fr [] [98] (mO m2 [] []) m3 → TT w D pm_178 (37, [(0, .ref (obq (m.2 107) u)), (1, .ref 12)], [], (khp (mO m3 [] []) c, N), 0, 0) (Q_op_leave m c N u n) := by
    intro m3 Tm3 Fm3
    refine T_ld 38 (.ref (obq (m.2 107) u)) rfl (fun _ => rfl) ?_
    refine T_callx 41 36 [.ref (obq (m.2 107) u)] [] rfl (inv_vt (args := []) (obe_c (congrArg (fun f : Int → Int => (f u).toNat) (show (m3.2 107) = (m.2 107) from ((fr2 Fm3 107 rfl).trans (fr2 Fm2 107 rfl)))) (khp_o0 _ (OKr_c (show (m3.2 107) = (m.2 107) from ((fr2 Fm3 107 rfl).trans (fr2 Fm2 107 rfl))) (show (m3.2 108) = (m.2 108) from ((fr2 Fm3 108 rfl).trans (fr2 Fm2 108 rfl))) pOKu))) rfl rfl rfl) rfl rfl (TC_cast (fun g9 => [.ref (obq g9 u)]) (show (m3.2 107) = (m.2 107) from ((fr2 Fm3 107 rfl).trans (fr2 Fm2 107 rfl))) (c_op_isSent w (mO m3 [] []) c N D (by omega) Tm3 u (r32 (by omega) (by omega)) (OKr_c (show (m3.2 107) = (m.2 107) from ((fr2 Fm3 107 rfl).trans (fr2 Fm2 107 rfl))) (show (m3.2 108) = (m.2 108) from ((fr2 Fm3 108 rfl).trans (fr2 Fm2 108 rfl))) pOKu))) (fun rr8 k9 => ?_)
    obtain ⟨x10, g11, h12, rfl⟩ := k9
    refine Or.inl ⟨_, _, _, _, rfl, ?_⟩
    refine T_ns (st' := [.int (i32 x10)]) rfl ?_
    obtain ⟨g11a, g11b⟩ := g11
    replace h12 : x10 = 1 → (m3.2 91) u = 0 := h12
    rewrite [(show (m3.2 91) = (m.2 91) from ((fr2 Fm3 91 rfl).trans (fr2 Fm2 91 rfl)))] at h12
    refine T_if 45 44 rfl rfl rfl (r32 (by omega) (by omega)) (fun (h13 : x10 ≠ 0) => ?_) (fun (h13 : ¬ (x10 ≠ 0)) => ?_)
    · skip
      refine T_ld 46 (.int (i32 0)) rfl (fun _ => rfl) ?_
      refine T_sto 47 [(3, .int (i32 0)), (0, .ref (obq (m.2 107) u)), (1, .ref 12)] rfl (fun _ => rfl) ?_
      refine T_ld 48 (.int (i32 0)) rfl (fun _ => rfl) ?_
      refine T_sto 50 [(4, .int (i32 0)), (3, .int (i32 0)), (0, .ref (obq (m.2 107) u)), (1, .ref 12)] rfl (fun _ => rfl) ?_
      have L50_16 : ∀ (n24 : Nat) (v14 : Int) (v15 : Int), (R32 v14) → (R32 v15) → (0 ≤ v14) → (0 ≤ v15) → (0 ≤ v15 ∧ v15 ≤ 12) → (0 ≤ v14 ∧ v14 ≤ 64 * v15) → 20 - v15 < (n24 : Int) → TT w D pm_178 (50, [(0, .ref (obq (m.2 107) u)), (1, .ref 12), (3, .int (i32 v14)), (4, .int (i32 v15))], [], (khp (mO m3 [] []) c, N), 0, 0) (Q_op_leave m c N u n) := by
        intro n24
        induction n24 with
        | zero =>
          intro v14 v15 q21 q22 ic17 ic18 ic19 ic20 hmu
          obtain ⟨q21a, q21b⟩ := id q21
          obtain ⟨q22a, q22b⟩ := id q22
          exfalso
          omega
        | succ n24 ih =>
          intro v14 v15 q21 q22 ic17 ic18 ic19 ic20 hmu
          obtain ⟨q21a, q21b⟩ := id q21
          obtain ⟨q22a, q22b⟩ := id q22
          have ih25 := ih
          refine T_ld 52 (.int (i32 v15)) rfl (fun _ => rfl) ?_
          refine T_ld 53 (.ref 12) rfl (fun _ => rfl) ?_
          refine K_gf 56 (.int (i32 (m.1 218))) rfl rfl kd_12 rfl (kval_c2 (k := 218) (F := fun x => .int (i32 x)) rfl (show (m3.1 218) = (m.1 218) from ((fr1 Fm3 218 rfl).trans (fr1 Fm2 218 rfl)))) rfl ?_
          refine T_icmp 122 59 rfl rfl rfl (r32 (by omega) (by omega)) (r32 (by omega) (by omega)) (fun (h26 : (m.1 218) ≤ v15) => ?_) (fun (h26 : ¬ ((m.1 218) ≤ v15)) => ?_)
          · skip
            refine T_ld 123 (.ref (obq (m.2 107) u)) rfl (fun _ => rfl) ?_
            refine K_gor 126 rfl rfl (OKr_c (show (m3.2 107) = (m.2 107) from ((fr2 Fm3 107 rfl).trans (fr2 Fm2 107 rfl))) (show (m3.2 108) = (m.2 108) from ((fr2 Fm3 108 rfl).trans (fr2 Fm2 108 rfl))) pOKu) (congrArg (fun f : Int → Int => (f u).toNat) (show (m3.2 107) = (m.2 107) from ((fr2 Fm3 107 rfl).trans (fr2 Fm2 107 rfl)))) rfl ?_
            refine T_ld 127 (.ref (obq (m.2 107) u)) rfl (fun _ => rfl) ?_
            refine K_goi 130 94 (m.2 94) rfl rfl (OKr_c (show (m3.2 107) = (m.2 107) from ((fr2 Fm3 107 rfl).trans (fr2 Fm2 107 rfl))) (show (m3.2 108) = (m.2 108) from ((fr2 Fm3 108 rfl).trans (fr2 Fm2 108 rfl))) pOKu) (congrArg (fun f : Int → Int => (f u).toNat) (show (m3.2 107) = (m.2 107) from ((fr2 Fm3 107 rfl).trans (fr2 Fm2 107 rfl)))) (show (m3.2 94) = (m.2 94) from ((fr2 Fm3 94 rfl).trans (fr2 Fm2 94 rfl))) rfl ?_
            have e27 : 0 ≤ m.2 94 u ∧ m.2 94 u ≤ 128 := hT.2.1 94 u
            refine T_ld 131 (.ref (obq (m.2 107) u)) rfl (fun _ => rfl) ?_
            refine K_gor 134 rfl rfl (OKr_c (show (m3.2 107) = (m.2 107) from ((fr2 Fm3 107 rfl).trans (fr2 Fm2 107 rfl))) (show (m3.2 108) = (m.2 108) from ((fr2 Fm3 108 rfl).trans (fr2 Fm2 108 rfl))) pOKu) (congrArg (fun f : Int → Int => (f u).toNat) (show (m3.2 107) = (m.2 107) from ((fr2 Fm3 107 rfl).trans (fr2 Fm2 107 rfl)))) rfl ?_
            refine T_ld 135 (.int (i32 v14)) rfl (fun _ => rfl) ?_
            refine T_ld 136 (.ref (obq (m.2 107) u)) rfl (fun _ => rfl) ?_
            refine K_goi 139 92 (m.2 92) rfl rfl (OKr_c (show (m3.2 107) = (m.2 107) from ((fr2 Fm3 107 rfl).trans (fr2 Fm2 107 rfl))) (show (m3.2 108) = (m.2 108) from ((fr2 Fm3 108 rfl).trans (fr2 Fm2 108 rfl))) pOKu) (congrArg (fun f : Int → Int => (f u).toNat) (show (m3.2 107) = (m.2 107) from ((fr2 Fm3 107 rfl).trans (fr2 Fm2 107 rfl)))) (show (m3.2 92) = (m.2 92) from ((fr2 Fm3 92 rfl).trans (fr2 Fm2 92 rfl))) rfl ?_
            have e28 : 0 ≤ (m.2 92) u ∧ (m.2 92) u ≤ 896 := (hT.2.1 92) u
            refine T_ld 140 (.ref (obq (m.2 107) u)) rfl (fun _ => rfl) ?_
            refine K_goi 143 94 (m.2 94) rfl rfl (OKr_c (show (m3.2 107) = (m.2 107) from ((fr2 Fm3 107 rfl).trans (fr2 Fm2 107 rfl))) (show (m3.2 108) = (m.2 108) from ((fr2 Fm3 108 rfl).trans (fr2 Fm2 108 rfl))) pOKu) (congrArg (fun f : Int → Int => (f u).toNat) (show (m3.2 107) = (m.2 107) from ((fr2 Fm3 107 rfl).trans (fr2 Fm2 107 rfl)))) (show (m3.2 94) = (m.2 94) from ((fr2 Fm3 94 rfl).trans (fr2 Fm2 94 rfl))) rfl ?_
            have e29 : 0 ≤ m.2 94 u ∧ m.2 94 u ≤ 128 := hT.2.1 94 u
            refine T_isub 144 rfl rfl ?_
            obtain ⟨F30, h31, h32⟩ := src_o (c := c) (mO m3 [] []) (i := 0) (r := u) (sp := ((m.2 94) u)) (n := (((m.2 92) u) - ((m.2 94) u))) rfl (OKr_c (show (m3.2 107) = (m.2 107) from ((fr2 Fm3 107 rfl).trans (fr2 Fm2 107 rfl))) (show (m3.2 108) = (m.2 108) from ((fr2 Fm3 108 rfl).trans (fr2 Fm2 108 rfl))) pOKu) (by omega) (by omega)
            rw [show obr (mO m3 [] []) u = obq (m.2 107) u from (congrArg (fun f : Int → Int => (f u).toNat) (show (m3.2 107) = (m.2 107) from ((fr2 Fm3 107 rfl).trans (fr2 Fm2 107 rfl))))] at h31
            have G33 : ∀ j, (-128) ≤ (cpI (m.2 100) (m.2 100) ((65536 * u) + ((m.2 94) u)) (65536 * u + v14) (((m.2 92) u) - ((m.2 94) u))) j ∧ (cpI (m.2 100) (m.2 100) ((65536 * u) + ((m.2 94) u)) (65536 * u + v14) (((m.2 92) u) - ((m.2 94) u))) j ≤ 127 := cpI_rg (hT.2.1 100) (hT.2.1 100)
            refine K_cpb (a' := [(100, cpI (m.2 100) (m.2 100) ((65536 * u) + ((m.2 94) u)) (65536 * u + v14) (((m.2 92) u) - ((m.2 94) u)))]) 147 0 (m.2 100) (m.2 100) (65536 * u) (sp := ((m.2 94) u)) (dp := v14) (n := (((m.2 92) u) - ((m.2 94) u))) rfl rfl rfl rfl h31 (fun j hj => (h32 j hj).trans (congrArg (fun F : Int → Int => i32 (F ((65536 * u) + ((m.2 94) u) + (j : Int)))) (show (m3.2 100) = (m.2 100) from ((fr2 Fm3 100 rfl).trans (fr2 Fm2 100 rfl))))) (hT.2.1 100) (OKr_c (show (m3.2 107) = (m.2 107) from ((fr2 Fm3 107 rfl).trans (fr2 Fm2 107 rfl))) (show (m3.2 108) = (m.2 108) from ((fr2 Fm3 108 rfl).trans (fr2 Fm2 108 rfl))) pOKu) (show KTy (mO m3 [] []) from Tm3).2.2.1 (congrArg (fun f : Int → Int => (f u).toNat) (show (m3.2 107) = (m.2 107) from ((fr2 Fm3 107 rfl).trans (fr2 Fm2 107 rfl)))) (by omega) (by omega) (by omega) (show ((m.2 94) u) + (((m.2 92) u) - ((m.2 94) u)) ≤ ((896 : Nat) : Int) by omega) (show v14 + (((m.2 92) u) - ((m.2 94) u)) ≤ (896 : Int) by omega) (by decide) (show (m3.2 100) = (m.2 100) from ((fr2 Fm3 100 rfl).trans (fr2 Fm2 100 rfl))) rfl ?_
            refine T_ld 148 (.ref (obq (m.2 107) u)) rfl (fun _ => rfl) ?_
            refine T_ld 149 (.int (i32 v14)) rfl (fun _ => rfl) ?_
            refine T_ld 150 (.ref (obq (m.2 107) u)) rfl (fun _ => rfl) ?_
            refine K_goi 153 92 (m.2 92) rfl rfl (OKr_c (show (m3.2 107) = (m.2 107) from ((fr2 Fm3 107 rfl).trans (fr2 Fm2 107 rfl))) (show (m3.2 108) = (m.2 108) from ((fr2 Fm3 108 rfl).trans (fr2 Fm2 108 rfl))) pOKu) (congrArg (fun f : Int → Int => (f u).toNat) (show (m3.2 107) = (m.2 107) from ((fr2 Fm3 107 rfl).trans (fr2 Fm2 107 rfl)))) (show (m3.2 92) = (m.2 92) from ((fr2 Fm3 92 rfl).trans (fr2 Fm2 92 rfl))) rfl ?_
            have e34 : 0 ≤ (m.2 92) u ∧ (m.2 92) u ≤ 896 := (hT.2.1 92) u
            refine T_iadd 154 rfl rfl ?_
            refine T_ld 155 (.ref (obq (m.2 107) u)) rfl (fun _ => rfl) ?_
            refine K_goi 158 94 (m.2 94) rfl rfl (OKr_c (show (m3.2 107) = (m.2 107) from ((fr2 Fm3 107 rfl).trans (fr2 Fm2 107 rfl))) (show (m3.2 108) = (m.2 108) from ((fr2 Fm3 108 rfl).trans (fr2 Fm2 108 rfl))) pOKu) (congrArg (fun f : Int → Int => (f u).toNat) (show (m3.2 107) = (m.2 107) from ((fr2 Fm3 107 rfl).trans (fr2 Fm2 107 rfl)))) (show (m3.2 94) = (m.2 94) from ((fr2 Fm3 94 rfl).trans (fr2 Fm2 94 rfl))) rfl ?_
            have e35 : 0 ≤ m.2 94 u ∧ m.2 94 u ≤ 128 := hT.2.1 94 u
            refine T_isub 159 rfl rfl ?_
            have G36 : ∀ j, 0 ≤ (upI (m.2 92) u ((v14 + ((m.2 92) u)) - ((m.2 94) u))) j ∧ (upI (m.2 92) u ((v14 + ((m.2 92) u)) - ((m.2 94) u))) j ≤ 896 := upI_rg (hT.2.1 92) ⟨by omega, by omega⟩
            refine K_poi (a' := [(92, upI (m.2 92) u ((v14 + ((m.2 92) u)) - ((m.2 94) u))), (100, cpI (m.2 100) (m.2 100) ((65536 * u) + ((m.2 94) u)) (65536 * u + v14) (((m.2 92) u) - ((m.2 94) u)))]) 162 92 (m.2 92) rfl rfl rfl (OKr_c (show (m3.2 107) = (m.2 107) from ((fr2 Fm3 107 rfl).trans (fr2 Fm2 107 rfl))) (show (m3.2 108) = (m.2 108) from ((fr2 Fm3 108 rfl).trans (fr2 Fm2 108 rfl))) pOKu) (show KTy (mO m3 [] [(100, cpI (m.2 100) (m.2 100) ((65536 * u) + ((m.2 94) u)) (65536 * u + v14) (((m.2 92) u) - ((m.2 94) u)))]) from (KTy_mO Tm3 rfl rfl trivial ⟨G33, trivial⟩)).2.2.1 (congrArg (fun f : Int → Int => (f u).toNat) (show (m3.2 107) = (m.2 107) from ((fr2 Fm3 107 rfl).trans (fr2 Fm2 107 rfl)))) (show (m3.2 92) = (m.2 92) from ((fr2 Fm3 92 rfl).trans (fr2 Fm2 92 rfl))) rfl rfl ?_
            refine T_ld 163 (.int (i32 0)) rfl (fun _ => rfl) ?_
            refine T_sto 165 [(4, .int (i32 0)), (0, .ref (obq (m.2 107) u)), (1, .ref 12), (3, .int (i32 v14))] rfl (fun _ => rfl) ?_
            refine K_fl (KTy_mO Tm3 rfl rfl trivial ⟨G36, G33, trivial⟩) (fun m37 Tm37 Fm37 => ?_)
            have L165_40 : ∀ (n46 : Nat) (v38 : Int) (m39 : mR), (R32 v38) → KTy m39 → fr [] [100] (mO m37 [] []) m39 → (0 ≤ v38) → (0 ≤ v38 ∧ v38 ≤ 768) → 1000 - v38 < (n46 : Int) → TT w D pm_178 (165, [(0, .ref (obq (m.2 107) u)), (1, .ref 12), (3, .int (i32 v14)), (4, .int (i32 v38))], [], (khp (mO m39 [] []) c, N), 0, 0) (Q_op_leave m c N u n) := by
              intro n46
              induction n46 with
              | zero =>
                intro v38 m39 q43 Tm39 Fm39 ic41 ic42 hmu
                obtain ⟨q43a, q43b⟩ := id q43
                exfalso
                omega
              | succ n46 ih =>
                intro v38 m39 q43 Tm39 Fm39 ic41 ic42 hmu
                obtain ⟨q43a, q43b⟩ := id q43
                have ih47 := ih
                refine T_ld 167 (.int (i32 v38)) rfl (fun _ => rfl) ?_
                refine T_ld 168 (.int (i32 v14)) rfl (fun _ => rfl) ?_
                refine T_icmp 185 171 rfl rfl rfl (r32 (by omega) (by omega)) (r32 (by omega) (by omega)) (fun (h48 : v14 ≤ v38) => ?_) (fun (h48 : ¬ (v14 ≤ v38)) => ?_)
                · skip
                  refine T_ld 186 (.int (i32 0)) rfl (fun _ => rfl) ?_
                  refine T_sto 188 [(4, .int (i32 0)), (0, .ref (obq (m.2 107) u)), (1, .ref 12), (3, .int (i32 v14))] rfl (fun _ => rfl) ?_
                  refine T_ld 189 (.int (i32 0)) rfl (fun _ => rfl) ?_
                  refine T_sto 191 [(5, .int (i32 0)), (4, .int (i32 0)), (0, .ref (obq (m.2 107) u)), (1, .ref 12), (3, .int (i32 v14))] rfl (fun _ => rfl) ?_
                  have L191_52 : ∀ (n62 : Nat) (v49 : Int) (v50 : Int) (m51 : mR), (R32 v49) → (R32 v50) → KTy m51 → fr [] [100] (mO m39 [] []) m51 → (0 ≤ v49) → (v49 ≤ 6144) → (0 ≤ v50) → (0 ≤ v50 ∧ v50 ≤ 12) → (0 ≤ v49 ∧ v49 ≤ 512 * v50) → 20 - v50 < (n62 : Int) → TT w D pm_178 (191, [(0, .ref (obq (m.2 107) u)), (1, .ref 12), (4, .int (i32 v49)), (5, .int (i32 v50))], [], (khp (mO m51 [] []) c, N), 0, 0) (Q_op_leave m c N u n) := by
                    intro n62
                    induction n62 with
                    | zero =>
                      intro v49 v50 m51 q58 q59 Tm51 Fm51 ic53 ic54 ic55 ic56 ic57 hmu
                      obtain ⟨q58a, q58b⟩ := id q58
                      obtain ⟨q59a, q59b⟩ := id q59
                      exfalso
                      omega
                    | succ n62 ih =>
                      intro v49 v50 m51 q58 q59 Tm51 Fm51 ic53 ic54 ic55 ic56 ic57 hmu
                      obtain ⟨q58a, q58b⟩ := id q58
                      obtain ⟨q59a, q59b⟩ := id q59
                      have ih63 := ih
                      refine T_ld 193 (.int (i32 v50)) rfl (fun _ => rfl) ?_
                      refine T_ld 194 (.ref 12) rfl (fun _ => rfl) ?_
                      refine K_gf 197 (.int (i32 (m.1 218))) rfl rfl kd_12 rfl (kval_c2 (k := 218) (F := fun x => .int (i32 x)) rfl (show (m51.1 218) = (m.1 218) from ((fr1 Fm51 218 rfl).trans ((fr1 Fm39 218 rfl).trans ((fr1 Fm37 218 rfl).trans ((fr1 Fm3 218 rfl).trans (fr1 Fm2 218 rfl))))))) rfl ?_
                      refine T_icmp 222 200 rfl rfl rfl (r32 (by omega) (by omega)) (r32 (by omega) (by omega)) (fun (h64 : (m.1 218) ≤ v50) => ?_) (fun (h64 : ¬ ((m.1 218) ≤ v50)) => ?_)
                      · skip
                        refine T_ret rfl (fun _ => rfl) ?_
                        exact ⟨(mO m51 [] []), Tm51, (fr_m (fr_s Fm51 (fr_m (fr_s Fm39 (fr_m (fr_s Fm37 (fr_m (fr_s Fm3 (fr_m (fr_s Fm2 (fr_m fr_0 rfl rfl) rfl rfl) rfl rfl) rfl rfl) rfl rfl) rfl rfl) rfl rfl) rfl rfl) rfl rfl) rfl rfl) rfl rfl), (show ∀ v, v ≠ u → (m51.2 92) v = (m.2 92) v by rewrite [(show (m51.2 92) = (upI (m.2 92) u ((v14 + ((m.2 92) u)) - ((m.2 94) u))) from ((fr2 Fm51 92 rfl).trans ((fr2 Fm39 92 rfl).trans (fr2 Fm37 92 rfl))))]; first | (first | exact fun v h => rfl | exact fun v h => upI_n h) | (exfalso; omega)), rfl⟩
                      · skip
                        refine T_ld 201 (.ref (obq (m.2 107) u)) rfl (fun _ => rfl) ?_
                        refine T_ld 202 (.ref 12) rfl (fun _ => rfl) ?_
                        refine T_ld 203 (.ref 12) rfl (fun _ => rfl) ?_
                        refine K_gf 206 (.ref 20) rfl rfl kd_12 rfl rfl rfl ?_
                        refine T_ld 208 (.int (i32 v50)) rfl (fun _ => rfl) ?_
                        refine K_iald 209 17 (m.2 17) rfl rfl rfl (by omega) (show v50 < (12 : Int) by omega) (show (m51.2 17) = (m.2 17) from ((fr2 Fm51 17 rfl).trans ((fr2 Fm39 17 rfl).trans ((fr2 Fm37 17 rfl).trans ((fr2 Fm3 17 rfl).trans (fr2 Fm2 17 rfl)))))) ?_
                        have e65 : 0 ≤ m.2 17 v50 ∧ m.2 17 v50 ≤ 11 := hT.2.1 17 v50
                        refine T_ld 211 (.int (i32 v49)) rfl (fun _ => rfl) ?_
                        have hi1 := hEM v50 (by omega) (by omega)
                        have hi9 : 0 ≤ (m.2 13) ((m.2 17) v50) ∧ (m.2 13) ((m.2 17) v50) ≤ 11 := hT.2.1 13 _
                        have hi2 := hIH ((m.2 17) v50) (by omega) (by omega)
                        have hH5 := hHB ((m.2 13) ((m.2 17) v50)) (by omega) (by omega)
                        refine T_callx 214 179 [.ref (obq (m.2 107) u), .ref 12, .int (i32 ((m.2 17) v50)), .int (i32 v49)] [] rfl (inv_vt (args := [.int (i32 v49), .int (i32 ((m.2 17) v50)), .ref 12]) (obe_c (congrArg (fun f : Int → Int => (f u).toNat) (show (m51.2 107) = (m.2 107) from ((fr2 Fm51 107 rfl).trans ((fr2 Fm39 107 rfl).trans ((fr2 Fm37 107 rfl).trans ((fr2 Fm3 107 rfl).trans (fr2 Fm2 107 rfl))))))) (khp_o0 _ (OKr_c (show (m51.2 107) = (m.2 107) from ((fr2 Fm51 107 rfl).trans ((fr2 Fm39 107 rfl).trans ((fr2 Fm37 107 rfl).trans ((fr2 Fm3 107 rfl).trans (fr2 Fm2 107 rfl)))))) (show (m51.2 108) = (m.2 108) from ((fr2 Fm51 108 rfl).trans ((fr2 Fm39 108 rfl).trans ((fr2 Fm37 108 rfl).trans ((fr2 Fm3 108 rfl).trans (fr2 Fm2 108 rfl)))))) pOKu))) rfl rfl rfl) rfl rfl (TC_cast (fun g9 => [.ref (obq g9 u), .ref 12, .int (i32 ((m.2 17) v50)), .int (i32 v49)]) (show (m51.2 107) = (m.2 107) from ((fr2 Fm51 107 rfl).trans ((fr2 Fm39 107 rfl).trans ((fr2 Fm37 107 rfl).trans ((fr2 Fm3 107 rfl).trans (fr2 Fm2 107 rfl)))))) (c_op_write w (mO m51 [] []) c N D (by omega) Tm51 u ((m.2 17) v50) v49 (r32 (by omega) (by omega)) (r32 (by omega) (by omega)) (r32 (by omega) (by omega)) (OKr_c (show (m51.2 107) = (m.2 107) from ((fr2 Fm51 107 rfl).trans ((fr2 Fm39 107 rfl).trans ((fr2 Fm37 107 rfl).trans ((fr2 Fm3 107 rfl).trans (fr2 Fm2 107 rfl)))))) (show (m51.2 108) = (m.2 108) from ((fr2 Fm51 108 rfl).trans ((fr2 Fm39 108 rfl).trans ((fr2 Fm37 108 rfl).trans ((fr2 Fm3 108 rfl).trans (fr2 Fm2 108 rfl)))))) pOKu) (show 0 ≤ ((m.2 17) v50) ∧ ((m.2 17) v50) ≤ 11 by omega) (show 0 ≤ v49 ∧ v49 ≤ 5632 by omega) (show hb (m51.2 10) ((m51.2 13) ((m.2 17) v50)) 16 ≤ 512 by rewrite [(show (m51.2 10) = (m.2 10) from ((fr2 Fm51 10 rfl).trans ((fr2 Fm39 10 rfl).trans ((fr2 Fm37 10 rfl).trans ((fr2 Fm3 10 rfl).trans (fr2 Fm2 10 rfl)))))), (show (m51.2 13) = (m.2 13) from ((fr2 Fm51 13 rfl).trans ((fr2 Fm39 13 rfl).trans ((fr2 Fm37 13 rfl).trans ((fr2 Fm3 13 rfl).trans (fr2 Fm2 13 rfl))))))]; exact hH5))) (fun rr66 k67 => ?_)
                        obtain ⟨m68, wr, Tm68, Fm68, g69, h70, rfl⟩ := k67
                        refine Or.inl ⟨_, _, _, _, rfl, ?_⟩
                        refine K_nb (st' := [.int (i32 wr)]) rfl ?_
                        obtain ⟨g69a, g69b⟩ := g69
                        replace h70 : v49 ≤ wr ∧ wr ≤ v49 + 512 := h70
                        refine T_sto 216 [(4, .int (i32 wr)), (0, .ref (obq (m.2 107) u)), (1, .ref 12), (5, .int (i32 v50))] rfl (fun _ => rfl) ?_
                        refine T_iinc 219 [(5, .int (i32 (v50 + 1))), (4, .int (i32 wr)), (0, .ref (obq (m.2 107) u)), (1, .ref 12)] rfl rfl (by decide) rfl rfl ?_
                        refine T_goto 191 rfl (fun _ => rfl) ?_
                        refine Tm_lv (a := [(0, .ref (obq (m.2 107) u)), (1, .ref 12), (4, .int (i32 wr)), (5, .int (i32 (v50 + 1)))]) rfl rfl ⟨rfl, rfl, rfl, rfl, trivial⟩ ?_
                        exact ih63 wr (v50 + 1) (mO m68 [] []) (r32 (by omega) (by omega)) (r32 (by omega) (by omega)) Tm68 (fr_m (fr_s Fm68 (fr_m (fr_s Fm51 (fr_m fr_0 rfl rfl) rfl rfl) rfl rfl) rfl rfl) rfl rfl) (show 0 ≤ wr by omega) (show wr ≤ 6144 by omega) (show 0 ≤ (v50 + 1) by omega) (show 0 ≤ (v50 + 1) ∧ (v50 + 1) ≤ 12 by omega) (show 0 ≤ wr ∧ wr ≤ 512 * (v50 + 1) by omega) (show 20 - (v50 + 1) < (n62 : Int) by omega)
                  refine Tm_lv (a := [(0, .ref (obq (m.2 107) u)), (1, .ref 12), (4, .int (i32 0)), (5, .int (i32 0))]) rfl rfl ⟨rfl, rfl, rfl, rfl, trivial⟩ ?_
                  exact L191_52 ((20 - (0 : Int) : Int) + 1).toNat 0 0 (mO m39 [] []) ⟨by decide, by decide⟩ ⟨by decide, by decide⟩ Tm39 (fr_m fr_0 rfl rfl) (show 0 ≤ (0 : Int) by omega) (show (0 : Int) ≤ 6144 by omega) (show 0 ≤ (0 : Int) by omega) (show 0 ≤ (0 : Int) ∧ (0 : Int) ≤ 12 by omega) (show 0 ≤ (0 : Int) ∧ (0 : Int) ≤ 512 * (0 : Int) by omega) (show 20 - (0 : Int) < ((((20 - (0 : Int) : Int) + 1).toNat : Nat) : Int) by omega)
                · skip
                  refine T_ld 172 (.ref (obq (m.2 107) u)) rfl (fun _ => rfl) ?_
                  refine K_gor 175 rfl rfl (OKr_c (show (m39.2 107) = (m.2 107) from ((fr2 Fm39 107 rfl).trans ((fr2 Fm37 107 rfl).trans ((fr2 Fm3 107 rfl).trans (fr2 Fm2 107 rfl))))) (show (m39.2 108) = (m.2 108) from ((fr2 Fm39 108 rfl).trans ((fr2 Fm37 108 rfl).trans ((fr2 Fm3 108 rfl).trans (fr2 Fm2 108 rfl))))) pOKu) (congrArg (fun f : Int → Int => (f u).toNat) (show (m39.2 107) = (m.2 107) from ((fr2 Fm39 107 rfl).trans ((fr2 Fm37 107 rfl).trans ((fr2 Fm3 107 rfl).trans (fr2 Fm2 107 rfl)))))) rfl ?_
                  refine T_ld 177 (.int (i32 v38)) rfl (fun _ => rfl) ?_
                  refine T_ld 178 (.int (i32 0)) rfl (fun _ => rfl) ?_
                  have G71 : ∀ j, (-128) ≤ (upI (m39.2 100) (65536 * u + v38) 0) j ∧ (upI (m39.2 100) (65536 * u + v38) 0) j ≤ 127 := upI_rg (Tm39.2.1 100) ⟨by omega, by omega⟩
                  refine K_basto (a' := [(100, upI (m39.2 100) (65536 * u + v38) 0)]) 179 0 (m39.2 100) rfl rfl rfl (OKr_c (show (m39.2 107) = (m.2 107) from ((fr2 Fm39 107 rfl).trans ((fr2 Fm37 107 rfl).trans ((fr2 Fm3 107 rfl).trans (fr2 Fm2 107 rfl))))) (show (m39.2 108) = (m.2 108) from ((fr2 Fm39 108 rfl).trans ((fr2 Fm37 108 rfl).trans ((fr2 Fm3 108 rfl).trans (fr2 Fm2 108 rfl))))) pOKu) (show KTy (mO m39 [] []) from Tm39).2.2.1 (congrArg (fun f : Int → Int => (f u).toNat) (show (m39.2 107) = (m.2 107) from ((fr2 Fm39 107 rfl).trans ((fr2 Fm37 107 rfl).trans ((fr2 Fm3 107 rfl).trans (fr2 Fm2 107 rfl)))))) (by omega) (show v38 < (896 : Int) by omega) (by omega) rfl rfl ?_
                  refine T_iinc 182 [(4, .int (i32 (v38 + 1))), (0, .ref (obq (m.2 107) u)), (1, .ref 12), (3, .int (i32 v14))] rfl rfl (by decide) rfl rfl ?_
                  refine T_goto 165 rfl (fun _ => rfl) ?_
                  refine Tm_lv (a := [(0, .ref (obq (m.2 107) u)), (1, .ref 12), (3, .int (i32 v14)), (4, .int (i32 (v38 + 1)))]) rfl rfl ⟨rfl, rfl, rfl, rfl, trivial⟩ ?_
                  exact ih47 (v38 + 1) (mO m39 [] [(100, upI (m39.2 100) (65536 * u + v38) 0)]) (r32 (by omega) (by omega)) (KTy_mO Tm39 rfl rfl trivial ⟨G71, trivial⟩) (fr_m (fr_s Fm39 (fr_m fr_0 rfl rfl) rfl rfl) rfl rfl) (show 0 ≤ (v38 + 1) by omega) (show 0 ≤ (v38 + 1) ∧ (v38 + 1) ≤ 768 by omega) (show 1000 - (v38 + 1) < (n46 : Int) by omega)
            refine Tm_lv (a := [(0, .ref (obq (m.2 107) u)), (1, .ref 12), (3, .int (i32 v14)), (4, .int (i32 0))]) rfl rfl ⟨rfl, rfl, rfl, rfl, trivial⟩ ?_
            exact L165_40 ((1000 - (0 : Int) : Int) + 1).toNat 0 (mO m37 [] []) ⟨by decide, by decide⟩ Tm37 (fr_m fr_0 rfl rfl) (show 0 ≤ (0 : Int) by omega) (show 0 ≤ (0 : Int) ∧ (0 : Int) ≤ 768 by omega) (show 1000 - (0 : Int) < ((((1000 - (0 : Int) : Int) + 1).toNat : Nat) : Int) by omega)
          · skip
            refine T_ld 60 (.ref 12) rfl (fun _ => rfl) ?_
            refine K_gf 63 (.ref 20) rfl rfl kd_12 rfl rfl rfl ?_
            refine T_ld 65 (.int (i32 v15)) rfl (fun _ => rfl) ?_
            refine K_iald 66 17 (m.2 17) rfl rfl rfl (by omega) (show v15 < (12 : Int) by omega) (show (m3.2 17) = (m.2 17) from ((fr2 Fm3 17 rfl).trans (fr2 Fm2 17 rfl))) ?_
            have e72 : 0 ≤ m.2 17 v15 ∧ m.2 17 v15 ≤ 11 := hT.2.1 17 v15
            refine T_sto 68 [(5, .int (i32 ((m.2 17) v15))), (0, .ref (obq (m.2 107) u)), (1, .ref 12), (3, .int (i32 v14)), (4, .int (i32 v15))] rfl (fun _ => rfl) ?_
            refine T_ld 69 (.ref (obq (m.2 107) u)) rfl (fun _ => rfl) ?_
            refine K_gor 72 rfl rfl (OKr_c (show (m3.2 107) = (m.2 107) from ((fr2 Fm3 107 rfl).trans (fr2 Fm2 107 rfl))) (show (m3.2 108) = (m.2 108) from ((fr2 Fm3 108 rfl).trans (fr2 Fm2 108 rfl))) pOKu) (congrArg (fun f : Int → Int => (f u).toNat) (show (m3.2 107) = (m.2 107) from ((fr2 Fm3 107 rfl).trans (fr2 Fm2 107 rfl)))) rfl ?_
            refine T_ld 74 (.int (i32 ((m.2 17) v15))) rfl (fun _ => rfl) ?_
            refine T_ld 76 (.int (i32 17)) rfl (fun _ => rfl) ?_
            refine T_imul 77 rfl rfl ?_
            refine K_lalo 78 1 (m.2 101) rfl rfl rfl (OKr_c (show (m3.2 107) = (m.2 107) from ((fr2 Fm3 107 rfl).trans (fr2 Fm2 107 rfl))) (show (m3.2 108) = (m.2 108) from ((fr2 Fm3 108 rfl).trans (fr2 Fm2 108 rfl))) pOKu) (congrArg (fun f : Int → Int => (f u).toNat) (show (m3.2 107) = (m.2 107) from ((fr2 Fm3 107 rfl).trans (fr2 Fm2 107 rfl)))) (by omega) (show (((m.2 17) v15) * 17) < (221 : Int) by omega) (show (m3.2 101) = (m.2 101) from ((fr2 Fm3 101 rfl).trans (fr2 Fm2 101 rfl))) ?_
            have e73 : (-9223372036854775808) ≤ m.2 101 (65536 * u + (((m.2 17) v15) * 17)) ∧ m.2 101 (65536 * u + (((m.2 17) v15) * 17)) ≤ 9223372036854775807 := hT.2.1 101 (65536 * u + (((m.2 17) v15) * 17))
            refine T_ld 79 (.long (i64 0)) rfl (fun _ => rfl) ?_
            refine T_lcmp 80 rfl rfl (r64 (by omega) (by omega)) ⟨by decide, by decide⟩ (fun z74 h75 => ?_)
            obtain ⟨h75a, h75b, h75c, h75d, h75e⟩ := h75
            refine T_if 87 83 rfl rfl rfl (r32 (by omega) (by omega)) (fun (h76 : z74 = 0) => ?_) (fun (h76 : ¬ (z74 = 0)) => ?_)
            · skip
              have hl77 : (m.2 101) (65536 * u + (((m.2 17) v15) * 17)) = 0 := by omega
              refine T_ld 88 (.int (i32 0)) rfl (fun _ => rfl) ?_
              refine T_sto 90 [(6, .int (i32 0)), (5, .int (i32 ((m.2 17) v15))), (0, .ref (obq (m.2 107) u)), (1, .ref 12), (3, .int (i32 v14)), (4, .int (i32 v15))] rfl (fun _ => rfl) ?_
              refine T_ld 91 (.int (i32 v14)) rfl (fun _ => rfl) ?_
              refine T_ld 93 (.int (i32 0)) rfl (fun _ => rfl) ?_
              refine T_if 113 96 rfl rfl rfl ⟨by decide, by decide⟩ (fun _ => ?_) (fun h78 => absurd (show (0 : Int) = 0 by decide) h78)
              refine T_ld 114 (.int (i32 0)) rfl (fun _ => rfl) ?_
              refine T_iadd 115 rfl rfl ?_
              refine T_sto 116 [(3, .int (i32 (v14 + 0))), (6, .int (i32 0)), (5, .int (i32 ((m.2 17) v15))), (0, .ref (obq (m.2 107) u)), (1, .ref 12), (4, .int (i32 v15))] rfl (fun _ => rfl) ?_
              refine T_iinc 119 [(4, .int (i32 (v15 + 1))), (3, .int (i32 (v14 + 0))), (6, .int (i32 0)), (5, .int (i32 ((m.2 17) v15))), (0, .ref (obq (m.2 107) u)), (1, .ref 12)] rfl rfl (by decide) rfl rfl ?_
              refine T_goto 50 rfl (fun _ => rfl) ?_
              refine Tm_lv (a := [(0, .ref (obq (m.2 107) u)), (1, .ref 12), (3, .int (i32 (v14 + 0))), (4, .int (i32 (v15 + 1)))]) rfl rfl ⟨rfl, rfl, rfl, rfl, trivial⟩ ?_
              exact ih25 (v14 + 0) (v15 + 1) (r32 (by omega) (by omega)) (r32 (by omega) (by omega)) (show 0 ≤ (v14 + 0) by omega) (show 0 ≤ (v15 + 1) by omega) (show 0 ≤ (v15 + 1) ∧ (v15 + 1) ≤ 12 by omega) (show 0 ≤ (v14 + 0) ∧ (v14 + 0) ≤ 64 * (v15 + 1) by omega) (show 20 - (v15 + 1) < (n24 : Int) by omega)
            · skip
              have hl79 : (m.2 101) (65536 * u + (((m.2 17) v15) * 17)) ≠ 0 := by omega
              refine T_ld 84 (.int (i32 1)) rfl (fun _ => rfl) ?_
              refine T_goto 88 rfl (fun _ => rfl) ?_
              refine T_sto 90 [(6, .int (i32 1)), (5, .int (i32 ((m.2 17) v15))), (0, .ref (obq (m.2 107) u)), (1, .ref 12), (3, .int (i32 v14)), (4, .int (i32 v15))] rfl (fun _ => rfl) ?_
              refine T_ld 91 (.int (i32 v14)) rfl (fun _ => rfl) ?_
              refine T_ld 93 (.int (i32 1)) rfl (fun _ => rfl) ?_
              refine T_if 113 96 rfl rfl rfl ⟨by decide, by decide⟩ (fun h80 => absurd (show (1 : Int) = 0 from h80) (by decide)) (fun _ => ?_)
              refine T_ld 97 (.ref 12) rfl (fun _ => rfl) ?_
              refine T_ld 98 (.ref 12) rfl (fun _ => rfl) ?_
              refine K_gf 101 (.ref 16) rfl rfl kd_12 rfl rfl rfl ?_
              refine T_ld 103 (.int (i32 ((m.2 17) v15))) rfl (fun _ => rfl) ?_
              refine K_iald 104 13 (m.2 13) rfl rfl rfl (by omega) (show ((m.2 17) v15) < (12 : Int) by omega) (show (m3.2 13) = (m.2 13) from ((fr2 Fm3 13 rfl).trans (fr2 Fm2 13 rfl))) ?_
              have e81 : 0 ≤ m.2 13 ((m.2 17) v15) ∧ m.2 13 ((m.2 17) v15) ≤ 11 := hT.2.1 13 ((m.2 17) v15)
              have hi1 := hEM v15 (by omega) (by omega)
              have hi2 := hIH ((m.2 17) v15) (by omega) (by omega)
              have hi3 := hHB ((m.2 13) ((m.2 17) v15)) (by omega) (by omega)
              refine T_callx 107 29 [.ref 12, .int (i32 ((m.2 13) ((m.2 17) v15)))] [.int (i32 v14)] rfl (fun _ => rfl) rfl rfl (c_pr_headerBits w (mO m3 [] []) c N D (by omega) Tm3 ((m.2 13) ((m.2 17) v15)) (r32 (by omega) (by omega)) (show 0 ≤ ((m.2 13) ((m.2 17) v15)) ∧ ((m.2 13) ((m.2 17) v15)) ≤ 11 by omega)) (fun rr82 k83 => ?_)
              obtain ⟨hbr, g84, h85, rfl⟩ := k83
              refine Or.inl ⟨_, _, _, _, rfl, ?_⟩
              refine T_ns (st' := [.int (i32 hbr), .int (i32 v14)]) rfl ?_
              obtain ⟨g84a, g84b⟩ := g84
              replace h85 : hbr = hb (m3.2 10) ((m.2 13) ((m.2 17) v15)) 16 := h85
              rewrite [(show (m3.2 10) = (m.2 10) from ((fr2 Fm3 10 rfl).trans (fr2 Fm2 10 rfl)))] at h85
              have hHr := h85
              refine T_ld 109 (.int (i32 8)) rfl (fun _ => rfl) ?_
              refine T_idiv 110 rfl rfl (by omega) (by omega) (by omega) (by omega) ?_
              refine T_goto 114 rfl (fun _ => rfl) ?_
              refine T_iadd 115 rfl rfl ?_
              refine T_sto 116 [(3, .int (i32 (v14 + (hbr / 8)))), (6, .int (i32 1)), (5, .int (i32 ((m.2 17) v15))), (0, .ref (obq (m.2 107) u)), (1, .ref 12), (4, .int (i32 v15))] rfl (fun _ => rfl) ?_
              refine T_iinc 119 [(4, .int (i32 (v15 + 1))), (3, .int (i32 (v14 + (hbr / 8)))), (6, .int (i32 1)), (5, .int (i32 ((m.2 17) v15))), (0, .ref (obq (m.2 107) u)), (1, .ref 12)] rfl rfl (by decide) rfl rfl ?_
              refine T_goto 50 rfl (fun _ => rfl) ?_
              refine Tm_lv (a := [(0, .ref (obq (m.2 107) u)), (1, .ref 12), (3, .int (i32 (v14 + (hbr / 8)))), (4, .int (i32 (v15 + 1)))]) rfl rfl ⟨rfl, rfl, rfl, rfl, trivial⟩ ?_
              exact ih25 (v14 + (hbr / 8)) (v15 + 1) (r32 (by omega) (by omega)) (r32 (by omega) (by omega)) (show 0 ≤ (v14 + (hbr / 8)) by omega) (show 0 ≤ (v15 + 1) by omega) (show 0 ≤ (v15 + 1) ∧ (v15 + 1) ≤ 12 by omega) (show 0 ≤ (v14 + (hbr / 8)) ∧ (v14 + (hbr / 8)) ≤ 64 * (v15 + 1) by omega) (show 20 - (v15 + 1) < (n24 : Int) by omega)
      refine Tm_lv (a := [(0, .ref (obq (m.2 107) u)), (1, .ref 12), (3, .int (i32 0)), (4, .int (i32 0))]) rfl rfl ⟨rfl, rfl, rfl, rfl, trivial⟩ ?_
      exact L50_16 ((20 - (0 : Int) : Int) + 1).toNat 0 0 ⟨by decide, by decide⟩ ⟨by decide, by decide⟩ (show 0 ≤ (0 : Int) by omega) (show 0 ≤ (0 : Int) by omega) (show 0 ≤ (0 : Int) ∧ (0 : Int) ≤ 12 by omega) (show 0 ≤ (0 : Int) ∧ (0 : Int) ≤ 64 * (0 : Int) by omega) (show 20 - (0 : Int) < ((((20 - (0 : Int) : Int) + 1).toNat : Nat) : Int) by omega)
    · skip
      refine T_ret rfl (fun _ => rfl) ?_
      exact ⟨(mO m3 [] []), Tm3, (fr_m (fr_s Fm3 (fr_m (fr_s Fm2 (fr_m fr_0 rfl rfl) rfl rfl) rfl rfl) rfl rfl) rfl rfl), (show ∀ v, v ≠ u → (m3.2 92) v = (m.2 92) v by rewrite [(show (m3.2 92) = (m.2 92) from ((fr2 Fm3 92 rfl).trans (fr2 Fm2 92 rfl)))]; first | (first | exact fun v h => rfl | exact fun v h => upI_n h) | (exfalso; omega)), rfl⟩
  refine T_ld 6 (.ref (obq (m.2 107) u)) rfl (fun _ => rfl) ?_
  refine K_goi 9 91 (m.2 91) rfl rfl (OKr_c (show (m2.2 107) = (m.2 107) from (fr2 Fm2 107 rfl)) (show (m2.2 108) = (m.2 108) from (fr2 Fm2 108 rfl)) pOKu) (congrArg (fun f : Int → Int => (f u).toNat) (show (m2.2 107) = (m.2 107) from (fr2 Fm2 107 rfl))) (show (m2.2 91) = (m.2 91) from (fr2 Fm2 91 rfl)) rfl ?_
  have e86 : 0 ≤ m.2 91 u ∧ m.2 91 u ≤ 3 := hT.2.1 91 u
  refine T_if 37 12 rfl rfl rfl (r32 (by omega) (by omega)) (fun (h87 : (m.2 91) u ≠ 0) => ?_) (fun (h87 : ¬ ((m.2 91) u ≠ 0)) => ?_)
  · skip
    refine Tm_lv (a := [(0, .ref (obq (m.2 107) u)), (1, .ref 12)]) rfl rfl ⟨rfl, rfl, trivial⟩ ?_
    exact J37_4 (mO m2 [] []) Tm2 (fr_m fr_0 rfl rfl)
  · skip
    refine T_ld 13 (.ref (obq (m.2 107) u)) rfl (fun _ => rfl) ?_
    refine K_goi 16 98 (m.2 98) rfl rfl (OKr_c (show (m2.2 107) = (m.2 107) from (fr2 Fm2 107 rfl)) (show (m2.2 108) = (m.2 108) from (fr2 Fm2 108 rfl)) pOKu) (congrArg (fun f : Int → Int => (f u).toNat) (show (m2.2 107) = (m.2 107) from (fr2 Fm2 107 rfl))) (show (m2.2 98) = (m.2 98) from (fr2 Fm2 98 rfl)) rfl ?_
    have e88 : 0 ≤ (m.2 98) u ∧ (m.2 98) u ≤ 2 := (hT.2.1 98) u
    refine T_if 37 19 rfl rfl rfl (r32 (by omega) (by omega)) (fun (h89 : (m.2 98) u ≠ 0) => ?_) (fun (h89 : ¬ ((m.2 98) u ≠ 0)) => ?_)
    · skip
      refine Tm_lv (a := [(0, .ref (obq (m.2 107) u)), (1, .ref 12)]) rfl rfl ⟨rfl, rfl, trivial⟩ ?_
      exact J37_4 (mO m2 [] []) Tm2 (fr_m fr_0 rfl rfl)
    · skip
      refine T_ld 20 (.ref (obq (m.2 107) u)) rfl (fun _ => rfl) ?_
      refine K_gor 23 rfl rfl (OKr_c (show (m2.2 107) = (m.2 107) from (fr2 Fm2 107 rfl)) (show (m2.2 108) = (m.2 108) from (fr2 Fm2 108 rfl)) pOKu) (congrArg (fun f : Int → Int => (f u).toNat) (show (m2.2 107) = (m.2 107) from (fr2 Fm2 107 rfl))) rfl ?_
      refine T_ld 26 (.int (i32 220)) rfl (fun _ => rfl) ?_
      refine K_lalo 27 1 (m.2 101) rfl rfl rfl (OKr_c (show (m2.2 107) = (m.2 107) from (fr2 Fm2 107 rfl)) (show (m2.2 108) = (m.2 108) from (fr2 Fm2 108 rfl)) pOKu) (congrArg (fun f : Int → Int => (f u).toNat) (show (m2.2 107) = (m.2 107) from (fr2 Fm2 107 rfl))) (by omega) (show 220 < (221 : Int) by omega) (show (m2.2 101) = (m.2 101) from (fr2 Fm2 101 rfl)) ?_
      have e90 : (-9223372036854775808) ≤ m.2 101 (65536 * u + 220) ∧ m.2 101 (65536 * u + 220) ≤ 9223372036854775807 := hT.2.1 101 (65536 * u + 220)
      refine T_ld 28 (.long (i64 0)) rfl (fun _ => rfl) ?_
      refine T_lcmp 29 rfl rfl (r64 (by omega) (by omega)) ⟨by decide, by decide⟩ (fun z91 h92 => ?_)
      obtain ⟨h92a, h92b, h92c, h92d, h92e⟩ := h92
      refine T_if 37 32 rfl rfl rfl (r32 (by omega) (by omega)) (fun (h93 : z91 = 0) => ?_) (fun (h93 : ¬ (z91 = 0)) => ?_)
      · skip
        have hl94 : (m.2 101) (65536 * u + 220) = 0 := by omega
        refine Tm_lv (a := [(0, .ref (obq (m.2 107) u)), (1, .ref 12)]) rfl rfl ⟨rfl, rfl, trivial⟩ ?_
        exact J37_4 (mO m2 [] []) Tm2 (fr_m fr_0 rfl rfl)
      · skip
        have hl95 : (m.2 101) (65536 * u + 220) ≠ 0 := by omega
        refine T_ld 33 (.ref (obq (m.2 107) u)) rfl (fun _ => rfl) ?_
        refine T_ld 34 (.int (i32 1)) rfl (fun _ => rfl) ?_
        have G96 : ∀ j, 0 ≤ (upI (m.2 98) u 1) j ∧ (upI (m.2 98) u 1) j ≤ 2 := upI_rg (hT.2.1 98) ⟨by omega, by omega⟩
        refine K_poi (a' := [(98, upI (m.2 98) u 1)]) 37 98 (m.2 98) rfl rfl rfl (OKr_c (show (m2.2 107) = (m.2 107) from (fr2 Fm2 107 rfl)) (show (m2.2 108) = (m.2 108) from (fr2 Fm2 108 rfl)) pOKu) (show KTy (mO m2 [] []) from Tm2).2.2.1 (congrArg (fun f : Int → Int => (f u).toNat) (show (m2.2 107) = (m.2 107) from (fr2 Fm2 107 rfl))) (show (m2.2 98) = (m.2 98) from (fr2 Fm2 98 rfl)) rfl rfl ?_
        refine Tm_lv (a := [(0, .ref (obq (m.2 107) u)), (1, .ref 12)]) rfl rfl ⟨rfl, rfl, trivial⟩ ?_
        exact J37_4 (mO m2 [] [(98, upI (m.2 98) u 1)]) (KTy_mO Tm2 rfl rfl trivial ⟨G96, trivial⟩) (fr_m fr_0 rfl rfl)
