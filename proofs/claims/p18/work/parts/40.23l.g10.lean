def fF_takeParameter : List Nat := [7, 8, 9, 10, 11, 12]
def fA_takeParameter : List Nat := [46, 47, 48, 49]
def Q_takeParameter (m : mR) (c : Nat → Option am_C) (N : Nat) (a : Int) : ag_Re af_T → Prop := fun R => ∃ (M : mR), Ty M ∧ fr fF_takeParameter fA_takeParameter m M ∧ ((M.1 10) = 0 → (m.1 10) = 0) ∧ (LxP (M.1 7) (M.1 8) (M.1 9) (m.1 6) (M.1 10)) ∧ (∀ k, (M.2 47) k + (M.2 48) k ≤ 4000) ∧ (M.1 10 = 0 → ((m.1 8) + 1 ≤ (M.1 8))) ∧ R = (.inl (none), (mhp M c, N), 0, 0)
set_option maxHeartbeats 3000000 in
theorem c_takeParameter (w : wX) (m : mR) (c : Nat → Option am_C) (N D : Nat) (hD : 7 ≤ D) (hT : Ty m) (a : Int) (qa : R32 a) (hLx0 : LxP (m.1 7) (m.1 8) (m.1 9) (m.1 6) (m.1 10)) (hPA0 : ∀ k, (m.2 47) k + (m.2 48) k ≤ 4000) (p2 : 0 ≤ a ∧ a ≤ 15) (hC : m.1 10 = 0 → True) : TC w D 268 [.ref 189, .int (i32 a)] (mhp m c, N) (Q_takeParameter m c N a) := by
  obtain ⟨D, rfl⟩ : ∃ k, D = k + 1 := ⟨D - 1, by omega⟩
  obtain ⟨qaa, qab⟩ := id qa
  have hLx := hLx0
  have hPA := hPA0
  have f7 : 0 ≤ m.1 7 ∧ m.1 7 ≤ 330 := hT.1 7
  have f8 : 0 ≤ m.1 8 ∧ m.1 8 ≤ 4000 := hT.1 8
  have f9 : 0 ≤ m.1 9 ∧ m.1 9 ≤ 4000 := hT.1 9
  have f10 : 0 ≤ m.1 10 ∧ m.1 10 ≤ 8 := hT.1 10
  have f11 : (-1) ≤ m.1 11 ∧ m.1 11 ≤ 4000 := hT.1 11
  have f12 : (-9223372036854775808) ≤ m.1 12 ∧ m.1 12 ≤ 9223372036854775807 := hT.1 12
  have f6 : 0 ≤ m.1 6 ∧ m.1 6 ≤ 4000 := hT.1 6
  refine Tc_of rfl ?_
  show TT w D pm_268 (0, [(0, .ref 189), (1, .int (i32 a))], [], (mhp (mO m [] []) c, N), 0, 0) (Q_takeParameter m c N a)
  by_cases hf0 : m.1 10 = 0
  · skip
    have h7 := hLx (by omega)
    have J153_11 : ∀ (s9 : Int) (m10 : mR), (R32 s9) → Ty m10 → fr [7, 8, 9, 10, 11, 12] [47, 48] (mO m [] []) m10 → (1 ≤ s9) → (s9 ≤ 64) → (∀ k, (m10.2 47) k + (m10.2 48) k ≤ 4000) → ((m.2 46) a ≤ 3) → (0 ≤ (4 * a) + ((m.2 46) a) ∧ (4 * a) + ((m.2 46) a) ≤ 64) → (1 ≤ (m10.1 10)) → TT w D pm_268 (153, [(0, .ref 189), (1, .int (i32 a))], [.int (i32 s9), .int (i32 ((4 * a) + ((m.2 46) a))), .ref 219], (mhp (mO m10 [] []) c, N), 0, 0) (Q_takeParameter m c N a) := by
      intro s9 m10 q18 Tm10 Fm10 ic12 ic13 ic14 ic15 ic16 ic17
      obtain ⟨q18a, q18b⟩ := id q18
      have q19_7 : 0 ≤ m10.1 7 ∧ m10.1 7 ≤ 330 := Tm10.1 7
      have q19_8 : 0 ≤ m10.1 8 ∧ m10.1 8 ≤ 4000 := Tm10.1 8
      have q19_9 : 0 ≤ m10.1 9 ∧ m10.1 9 ≤ 4000 := Tm10.1 9
      have q19_10 : 0 ≤ m10.1 10 ∧ m10.1 10 ≤ 8 := Tm10.1 10
      have q19_11 : (-1) ≤ m10.1 11 ∧ m10.1 11 ≤ 4000 := Tm10.1 11
      have q19_12 : (-9223372036854775808) ≤ m10.1 12 ∧ m10.1 12 ≤ 9223372036854775807 := Tm10.1 12
      have hPA := ic14
      have G22 : ∀ j, 0 ≤ (upI (m.2 49) ((4 * a) + ((m.2 46) a)) s9) j ∧ (upI (m.2 49) ((4 * a) + ((m.2 46) a)) s9) j ≤ 64 := upI_rg (hT.2.1 49) ⟨by omega, by omega⟩
      refine T_iast (a' := [(49, upI (m.2 49) ((4 * a) + ((m.2 46) a)) s9)]) 154 49 (m.2 49) rfl rfl rfl (by omega) (show ((4 * a) + ((m.2 46) a)) < (64 : Int) by omega) (show (m10.2 49) = (m.2 49) from (fr2 Fm10 49 rfl)) rfl ?_
      refine T_gf 158 (.ref 216) rfl rfl rfl rfl rfl rfl ?_
      refine T_ld 159 (.int (i32 a)) rfl (fun _ => rfl) ?_
      refine T_dup2 160 rfl (fun _ => rfl) ?_
      refine T_iald 161 46 (m.2 46) rfl rfl rfl (by omega) (show a < (16 : Int) by omega) (show (m10.2 46) = (m.2 46) from (fr2 Fm10 46 rfl)) ?_
      have e23 : 0 ≤ (m.2 46) a ∧ (m.2 46) a ≤ 4 := (hT.2.1 46) a
      refine T_ld 162 (.int (i32 1)) rfl (fun _ => rfl) ?_
      refine T_iadd 163 rfl rfl ?_
      have G24 : ∀ j, 0 ≤ (upI (m.2 46) a (((m.2 46) a) + 1)) j ∧ (upI (m.2 46) a (((m.2 46) a) + 1)) j ≤ 4 := upI_rg (hT.2.1 46) ⟨by omega, by omega⟩
      refine T_iast (a' := [(46, upI (m.2 46) a (((m.2 46) a) + 1)), (49, upI (m.2 49) ((4 * a) + ((m.2 46) a)) s9)]) 164 46 (m.2 46) rfl rfl rfl (by omega) (show a < (16 : Int) by omega) (show (m10.2 46) = (m.2 46) from (fr2 Fm10 46 rfl)) rfl ?_
      refine T_ret rfl (fun _ => rfl) ?_
      exact ⟨(mO m10 [] [(46, upI (m.2 46) a (((m.2 46) a) + 1)), (49, upI (m.2 49) ((4 * a) + ((m.2 46) a)) s9)]), (Ty_mO Tm10 rfl rfl trivial ⟨G24, G22, trivial⟩), (fr_m (fr_s Fm10 (fr_m fr_0 rfl rfl) rfl rfl) rfl rfl), (show (m10.1 10) = 0 → (m.1 10) = 0 by omega), (show LxP (m10.1 7) (m10.1 8) (m10.1 9) (m.1 6) (m10.1 10) by first | (first | exact hLx | exact (fun _ => hLx (by omega)) | (intro h9; exfalso; omega)) | (exfalso; omega)), (show ∀ k, (m10.2 47) k + (m10.2 48) k ≤ 4000 by first | (first | exact hPA | (intro k; have := hPA0 k; have h7 := hLx0 hf0; unfold upI; split <;> omega)) | (exfalso; omega)), (fun (h : (m10.1 10) = 0) => absurd h (by omega)), rfl⟩
    have J141_26 : ∀ (m25 : mR), Ty m25 → fr [7, 8, 9, 10, 11, 12] [47, 48] (mO m [] []) m25 → (∀ k, (m25.2 47) k + (m25.2 48) k ≤ 4000) → ((m.2 46) a ≤ 3) → (0 ≤ ((4 * a) + ((m.2 46) a)) ∧ ((4 * a) + ((m.2 46) a)) ≤ 64) → (1 ≤ (m25.1 10)) → TT w D pm_268 (141, [(0, .ref 189), (1, .int (i32 a)), (2, .int (i32 ((4 * a) + ((m.2 46) a))))], [], (mhp (mO m25 [] []) c, N), 0, 0) (Q_takeParameter m c N a) := by
      intro m25 Tm25 Fm25 ic27 ic28 ic29 ic30
      have q31_7 : 0 ≤ m25.1 7 ∧ m25.1 7 ≤ 330 := Tm25.1 7
      have q31_8 : 0 ≤ m25.1 8 ∧ m25.1 8 ≤ 4000 := Tm25.1 8
      have q31_9 : 0 ≤ m25.1 9 ∧ m25.1 9 ≤ 4000 := Tm25.1 9
      have q31_10 : 0 ≤ m25.1 10 ∧ m25.1 10 ≤ 8 := Tm25.1 10
      have q31_11 : (-1) ≤ m25.1 11 ∧ m25.1 11 ≤ 4000 := Tm25.1 11
      have q31_12 : (-9223372036854775808) ≤ m25.1 12 ∧ m25.1 12 ≤ 9223372036854775807 := Tm25.1 12
      have hPA := ic27
      refine T_gf 145 (.ref 219) rfl rfl rfl rfl rfl rfl ?_
      refine T_ld 146 (.int (i32 ((4 * a) + ((m.2 46) a)))) rfl (fun _ => rfl) ?_
      refine T_ld 147 (.ref 189) rfl (fun _ => rfl) ?_
      refine T_ld 148 (.int (i32 1)) rfl (fun _ => rfl) ?_
      refine T_ld 150 (.int (i32 64)) rfl (fun _ => rfl) ?_
      refine T_call 153 234 [.ref 189, .int (i32 1), .int (i32 64)] [.int (i32 ((4 * a) + ((m.2 46) a))), .ref 219] rfl (fun _ => rfl) rfl (d_number w (mO m25 [] []) c N D (by omega) Tm25 1 64 ⟨by decide, by decide⟩ ⟨by decide, by decide⟩ (show LxP (m25.1 7) (m25.1 8) (m25.1 9) (m25.1 6) (m25.1 10) by rewrite [(show (m25.1 6) = (m.1 6) from (fr1 Fm25 6 rfl))]; first | exact hLx | (intro h9; exfalso; omega) | (intro h9; have h8 := hLx (by omega); omega)) (show (1 : Int) ≤ (64 : Int) by omega)) (fun rr34 k35 => ?_)
      obtain ⟨m36, nu, Tm36, Fm36, g37, h38, h39, h40, h41, h42, h43, rfl⟩ := k35
      refine ⟨_, _, rfl, ?_⟩
      refine T_nb (st' := [.int (i32 nu), .int (i32 ((4 * a) + ((m.2 46) a))), .ref 219]) rfl ?_
      obtain ⟨g37a, g37b⟩ := g37
      have g44 : 0 ≤ m36.1 7 ∧ m36.1 7 ≤ 330 := Tm36.1 7
      have g45 : 0 ≤ m36.1 8 ∧ m36.1 8 ≤ 4000 := Tm36.1 8
      have g46 : 0 ≤ m36.1 9 ∧ m36.1 9 ≤ 4000 := Tm36.1 9
      have g47 : 0 ≤ m36.1 10 ∧ m36.1 10 ≤ 8 := Tm36.1 10
      have g48 : (-1) ≤ m36.1 11 ∧ m36.1 11 ≤ 4000 := Tm36.1 11
      have g49 : (-9223372036854775808) ≤ m36.1 12 ∧ m36.1 12 ≤ 9223372036854775807 := Tm36.1 12
      replace h38 : LxP (m36.1 7) (m36.1 8) (m36.1 9) (m25.1 6) (m36.1 10) := h38
      rewrite [(show (m25.1 6) = (m.1 6) from (fr1 Fm25 6 rfl))] at h38
      replace h39 : (m25.1 8) ≤ (m36.1 8) := h39
      replace h40 : (m36.1 10) = 0 → (m25.1 10) = 0 ∧ (m25.1 8) + (m25.1 9) ≤ (m36.1 8) := h40
      replace h41 : (m36.1 10) = 0 → (m25.1 7) = 2 := h41
      replace h42 : (1 : Int) ≤ nu ∧ nu ≤ (64 : Int) := h42
      replace h43 : (m36.1 10) = 0 → nu = (m25.1 12) := h43
      have hf50 : 1 ≤ (m36.1 10) := by omega
      clear h40
      clear h41
      clear h43
      have hLx := h38
      clear q31_7 q31_8 q31_9 q31_10 q31_11 q31_12 ic30 h39
      refine Tm_lv (a := [(0, .ref 189), (1, .int (i32 a))]) rfl rfl ⟨rfl, rfl, trivial⟩ ?_
      exact J153_11 nu (mO m36 [] []) (r32 (by omega) (by omega)) Tm36 (fr_m (fr_s Fm36 (fr_m (fr_s Fm25 (fr_m fr_0 rfl rfl) rfl rfl) rfl rfl) rfl rfl) rfl rfl) (show 1 ≤ nu by omega) (show nu ≤ 64 by omega) (show ∀ k, (m36.2 47) k + (m36.2 48) k ≤ 4000 by rewrite [(show (m36.2 47) = (m25.2 47) from (fr2 Fm36 47 rfl)), (show (m36.2 48) = (m25.2 48) from (fr2 Fm36 48 rfl))]; first | exact hPA | (intro k; have := hPA0 k; have h7 := hLx0 hf0; unfold upI; split <;> omega)) (show (m.2 46) a ≤ 3 by omega) (show 0 ≤ (4 * a) + ((m.2 46) a) ∧ (4 * a) + ((m.2 46) a) ≤ 64 by omega) (show 1 ≤ (m36.1 10) by omega)
    have J135_52 : ∀ (m51 : mR), Ty m51 → fr [7, 8, 9, 10, 11, 12] [47, 48] (mO m [] []) m51 → (∀ k, (m51.2 47) k + (m51.2 48) k ≤ 4000) → ((m.2 46) a ≤ 3) → (0 ≤ ((4 * a) + ((m.2 46) a)) ∧ ((4 * a) + ((m.2 46) a)) ≤ 64) → (1 ≤ (m51.1 10)) → TT w D pm_268 (135, [(0, .ref 189), (1, .int (i32 a)), (2, .int (i32 ((4 * a) + ((m.2 46) a))))], [], (mhp (mO m51 [] []) c, N), 0, 0) (Q_takeParameter m c N a) := by
      intro m51 Tm51 Fm51 ic53 ic54 ic55 ic56
      have q57_7 : 0 ≤ m51.1 7 ∧ m51.1 7 ≤ 330 := Tm51.1 7
      have q57_8 : 0 ≤ m51.1 8 ∧ m51.1 8 ≤ 4000 := Tm51.1 8
      have q57_9 : 0 ≤ m51.1 9 ∧ m51.1 9 ≤ 4000 := Tm51.1 9
      have q57_10 : 0 ≤ m51.1 10 ∧ m51.1 10 ≤ 8 := Tm51.1 10
      have q57_11 : (-1) ≤ m51.1 11 ∧ m51.1 11 ≤ 4000 := Tm51.1 11
      have q57_12 : (-9223372036854775808) ≤ m51.1 12 ∧ m51.1 12 ≤ 9223372036854775807 := Tm51.1 12
      have hPA := ic53
      refine T_ld 136 (.ref 189) rfl (fun _ => rfl) ?_
      refine T_ld 138 (.int (i32 58)) rfl (fun _ => rfl) ?_
      refine T_call 141 232 [.ref 189, .int (i32 58)] [] rfl (fun _ => rfl) rfl (d_need w (mO m51 [] []) c N D (by omega) Tm51 58 ⟨by decide, by decide⟩ (show 1 ≤ (58 : Int) by omega) (show LxP (m51.1 7) (m51.1 8) (m51.1 9) (m51.1 6) (m51.1 10) by rewrite [(show (m51.1 6) = (m.1 6) from (fr1 Fm51 6 rfl))]; first | exact hLx | (intro h9; exfalso; omega) | (intro h9; have h8 := hLx (by omega); omega))) (fun rr60 k61 => ?_)
      obtain ⟨m62, Tm62, Fm62, h63, h64, h65, h66, rfl⟩ := k61
      refine ⟨_, _, rfl, ?_⟩
      refine T_nb (st' := []) rfl ?_
      have g67 : 0 ≤ m62.1 7 ∧ m62.1 7 ≤ 330 := Tm62.1 7
      have g68 : 0 ≤ m62.1 8 ∧ m62.1 8 ≤ 4000 := Tm62.1 8
      have g69 : 0 ≤ m62.1 9 ∧ m62.1 9 ≤ 4000 := Tm62.1 9
      have g70 : 0 ≤ m62.1 10 ∧ m62.1 10 ≤ 8 := Tm62.1 10
      have g71 : (-1) ≤ m62.1 11 ∧ m62.1 11 ≤ 4000 := Tm62.1 11
      have g72 : (-9223372036854775808) ≤ m62.1 12 ∧ m62.1 12 ≤ 9223372036854775807 := Tm62.1 12
      replace h63 : LxP (m62.1 7) (m62.1 8) (m62.1 9) (m51.1 6) (m62.1 10) := h63
      rewrite [(show (m51.1 6) = (m.1 6) from (fr1 Fm51 6 rfl))] at h63
      replace h64 : (m62.1 10) = 0 → (m51.1 10) = 0 ∧ (m51.1 7) = (58 : Int) := h64
      replace h65 : (m51.1 8) ≤ (m62.1 8) := h65
      replace h66 : (m62.1 10) = 0 → (m51.1 8) + (m51.1 9) ≤ (m62.1 8) := h66
      have hf73 : 1 ≤ (m62.1 10) := by omega
      clear h64
      clear h66
      have hLx := h63
      clear q57_7 q57_8 q57_9 q57_10 q57_11 q57_12 ic56 h65
      exact J141_26 (mO m62 [] []) Tm62 (fr_m (fr_s Fm62 (fr_m (fr_s Fm51 (fr_m fr_0 rfl rfl) rfl rfl) rfl rfl) rfl rfl) rfl rfl) (show ∀ k, (m62.2 47) k + (m62.2 48) k ≤ 4000 by rewrite [(show (m62.2 47) = (m51.2 47) from (fr2 Fm62 47 rfl)), (show (m62.2 48) = (m51.2 48) from (fr2 Fm62 48 rfl))]; first | exact hPA | (intro k; have := hPA0 k; have h7 := hLx0 hf0; unfold upI; split <;> omega)) (show (m.2 46) a ≤ 3 by omega) (show 0 ≤ ((4 * a) + ((m.2 46) a)) ∧ ((4 * a) + ((m.2 46) a)) ≤ 64 by omega) (show 1 ≤ (m62.1 10) by omega)
    have J97_76 : ∀ (v74 : Int) (m75 : mR), (R32 v74) → Ty m75 → fr [10, 11] [] (mO m [] []) m75 → (0 ≤ v74) → (v74 ≤ 63) → (∀ k, (m.2 47) k + (m.2 48) k ≤ 4000) → (v74 < ((4 * a) + ((m.2 46) a))) → (1 ≤ ((4 * a) + ((m.2 46) a)) ∧ ((4 * a) + ((m.2 46) a)) ≤ 64) → (1 ≤ (m75.1 10)) → TT w D pm_268 (97, [(0, .ref 189), (1, .int (i32 a)), (2, .int (i32 ((4 * a) + ((m.2 46) a)))), (3, .int (i32 v74))], [], (mhp (mO m75 [] []) c, N), 0, 0) (Q_takeParameter m c N a) := by
      intro v74 m75 q83 Tm75 Fm75 ic77 ic78 ic79 ic80 ic81 ic82
      obtain ⟨q83a, q83b⟩ := id q83
      have q84_10 : 0 ≤ m75.1 10 ∧ m75.1 10 ≤ 8 := Tm75.1 10
      have q84_11 : (-1) ≤ m75.1 11 ∧ m75.1 11 ≤ 4000 := Tm75.1 11
      have hPA := ic79
      refine T_iinc 100 [(3, .int (i32 (v74 + 1))), (0, .ref 189), (1, .int (i32 a)), (2, .int (i32 ((4 * a) + ((m.2 46) a))))] rfl rfl (by decide) rfl rfl ?_
      refine T_goto 57 rfl (fun _ => rfl) ?_
      have L57_89 : ∀ (n96 : Nat) (v87 : Int) (m88 : mR), (R32 v87) → Ty m88 → fr [10, 11] [] (mO m75 [] []) m88 → (1 ≤ v87) → (v87 ≤ 64) → (v87 ≤ (4 * a) + ((m.2 46) a)) → ((m88.1 10) = 0 → ((m.1 7) = 1) ∧ ((m.2 46) a ≤ 3)) → ((4 * a) + ((m.2 46) a)) - v87 < (n96 : Int) → TT w D pm_268 (57, [(0, .ref 189), (1, .int (i32 a)), (2, .int (i32 ((4 * a) + ((m.2 46) a)))), (3, .int (i32 v87))], [], (mhp (mO m88 [] []) c, N), 0, 0) (Q_takeParameter m c N a) := by
        intro n96
        induction n96 with
        | zero =>
          intro v87 m88 q93 Tm88 Fm88 ic90 ic91 ic92 c95 hmu
          obtain ⟨q93a, q93b⟩ := id q93
          have q94_10 : 0 ≤ m88.1 10 ∧ m88.1 10 ≤ 8 := Tm88.1 10
          have q94_11 : (-1) ≤ m88.1 11 ∧ m88.1 11 ≤ 4000 := Tm88.1 11
          exfalso
          omega
        | succ n96 ih =>
          intro v87 m88 q93 Tm88 Fm88 ic90 ic91 ic92 c95 hmu
          obtain ⟨q93a, q93b⟩ := id q93
          have q94_10 : 0 ≤ m88.1 10 ∧ m88.1 10 ≤ 8 := Tm88.1 10
          have q94_11 : (-1) ≤ m88.1 11 ∧ m88.1 11 ≤ 4000 := Tm88.1 11
          have ih97 := ih
          by_cases hf98 : (m88.1 10) = 0
          · skip
            obtain ⟨c99, c100⟩ := c95 hf98
            clear c95
            refine T_ld 58 (.int (i32 v87)) rfl (fun _ => rfl) ?_
            refine T_ld 59 (.int (i32 ((4 * a) + ((m.2 46) a)))) rfl (fun _ => rfl) ?_
            refine T_icmp 103 62 rfl rfl rfl (r32 (by omega) (by omega)) (r32 (by omega) (by omega)) (fun (h101 : (4 * a) + ((m.2 46) a) ≤ v87) => ?_) (fun (h101 : ¬ ((4 * a) + ((m.2 46) a) ≤ v87)) => ?_)
            · skip
              refine T_gf 107 (.int (i32 (m88.1 10))) rfl rfl rfl rfl rfl rfl ?_
              refine T_if 111 110 rfl rfl rfl (r32 (by omega) (by omega)) (fun (h102 : (m88.1 10) ≤ 0) => ?_) (fun (h102 : ¬ ((m88.1 10) ≤ 0)) => by exfalso; omega)
              refine T_gf 115 (.ref 217) rfl rfl rfl rfl rfl rfl ?_
              refine T_ld 116 (.int (i32 ((4 * a) + ((m.2 46) a)))) rfl (fun _ => rfl) ?_
              refine T_gf 120 (.int (i32 (m.1 8))) rfl rfl rfl rfl (mfv_c (F := fun x => .int (i32 x)) rfl (show (m88.1 8) = (m.1 8) from ((fr1 Fm88 8 rfl).trans (fr1 Fm75 8 rfl)))) rfl ?_
              have G103 : ∀ j, 0 ≤ (upI (m.2 47) ((4 * a) + ((m.2 46) a)) (m.1 8)) j ∧ (upI (m.2 47) ((4 * a) + ((m.2 46) a)) (m.1 8)) j ≤ 4000 := upI_rg (hT.2.1 47) ⟨by omega, by omega⟩
              refine T_iast (a' := [(47, upI (m.2 47) ((4 * a) + ((m.2 46) a)) (m.1 8))]) 121 47 (m.2 47) rfl rfl rfl (by omega) (show ((4 * a) + ((m.2 46) a)) < (64 : Int) by omega) (show (m88.2 47) = (m.2 47) from ((fr2 Fm88 47 rfl).trans (fr2 Fm75 47 rfl))) rfl ?_
              refine T_gf 125 (.ref 218) rfl rfl rfl rfl rfl rfl ?_
              refine T_ld 126 (.int (i32 ((4 * a) + ((m.2 46) a)))) rfl (fun _ => rfl) ?_
              refine T_gf 130 (.int (i32 (m.1 9))) rfl rfl rfl rfl (mfv_c (F := fun x => .int (i32 x)) rfl (show (m88.1 9) = (m.1 9) from ((fr1 Fm88 9 rfl).trans (fr1 Fm75 9 rfl)))) rfl ?_
              have G104 : ∀ j, 0 ≤ (upI (m.2 48) ((4 * a) + ((m.2 46) a)) (m.1 9)) j ∧ (upI (m.2 48) ((4 * a) + ((m.2 46) a)) (m.1 9)) j ≤ 4000 := upI_rg (hT.2.1 48) ⟨by omega, by omega⟩
              refine T_iast (a' := [(47, upI (m.2 47) ((4 * a) + ((m.2 46) a)) (m.1 8)), (48, upI (m.2 48) ((4 * a) + ((m.2 46) a)) (m.1 9))]) 131 48 (m.2 48) rfl rfl rfl (by omega) (show ((4 * a) + ((m.2 46) a)) < (64 : Int) by omega) (show (m88.2 48) = (m.2 48) from ((fr2 Fm88 48 rfl).trans (fr2 Fm75 48 rfl))) rfl ?_
              have hLx : LxP (m.1 7) (m.1 8) (m.1 9) (m.1 6) (m88.1 10) := fun _ => hLx0 (by omega)
              refine T_ld 132 (.ref 189) rfl (fun _ => rfl) ?_
              refine T_call 135 212 [.ref 189] [] rfl (fun _ => rfl) rfl (d_next w (mO m88 [] [(47, upI (m.2 47) ((4 * a) + ((m.2 46) a)) (m.1 8)), (48, upI (m.2 48) ((4 * a) + ((m.2 46) a)) (m.1 9))]) c N D (by omega) (Ty_mO Tm88 rfl rfl trivial ⟨G103, G104, trivial⟩) (show (m88.1 10) = 0 → (m88.1 8) + (m88.1 9) ≤ (m88.1 6) by rewrite [(show (m88.1 8) = (m.1 8) from ((fr1 Fm88 8 rfl).trans (fr1 Fm75 8 rfl))), (show (m88.1 9) = (m.1 9) from ((fr1 Fm88 9 rfl).trans (fr1 Fm75 9 rfl))), (show (m88.1 6) = (m.1 6) from ((fr1 Fm88 6 rfl).trans (fr1 Fm75 6 rfl)))]; first | omega | (intro h9; have h8 := hLx h9; omega))) (fun rr105 k106 => ?_)
              obtain ⟨m107, Tm107, Fm107, h108, h109, h110, h111, rfl⟩ := k106
              refine ⟨_, _, rfl, ?_⟩
              refine T_nb (st' := []) rfl ?_
              have g112 : 0 ≤ m107.1 7 ∧ m107.1 7 ≤ 330 := Tm107.1 7
              have g113 : 0 ≤ m107.1 8 ∧ m107.1 8 ≤ 4000 := Tm107.1 8
              have g114 : 0 ≤ m107.1 9 ∧ m107.1 9 ≤ 4000 := Tm107.1 9
              have g115 : 0 ≤ m107.1 10 ∧ m107.1 10 ≤ 8 := Tm107.1 10
              have g116 : (-1) ≤ m107.1 11 ∧ m107.1 11 ≤ 4000 := Tm107.1 11
              have g117 : (-9223372036854775808) ≤ m107.1 12 ∧ m107.1 12 ≤ 9223372036854775807 := Tm107.1 12
              by_cases hf118 : (m107.1 10) = 0
              · skip
                replace h108 : LxP (m107.1 7) (m107.1 8) (m107.1 9) (m88.1 6) (m107.1 10) := h108
                rewrite [(show (m88.1 6) = (m.1 6) from ((fr1 Fm88 6 rfl).trans (fr1 Fm75 6 rfl)))] at h108
                have hLx := h108
                replace h109 : (m88.1 10) = 0 := h109 hf118
                replace h110 : (m88.1 8) ≤ (m107.1 8) := h110
                rewrite [(show (m88.1 8) = (m.1 8) from ((fr1 Fm88 8 rfl).trans (fr1 Fm75 8 rfl)))] at h110
                replace h111 : (m88.1 8) + (m88.1 9) ≤ (m107.1 8) := h111 hf118
                rewrite [(show (m88.1 8) = (m.1 8) from ((fr1 Fm88 8 rfl).trans (fr1 Fm75 8 rfl))), (show (m88.1 9) = (m.1 9) from ((fr1 Fm88 9 rfl).trans (fr1 Fm75 9 rfl)))] at h111
                have u119 : (m.1 8) + 1 ≤ (m107.1 8) := by omega
                clear q83a q83b q83 q84_10 q84_11 ic77 ic78 ic80 ic82 q94_10 q94_11 h102 h109
                refine T_ld 136 (.ref 189) rfl (fun _ => rfl) ?_
                refine T_ld 138 (.int (i32 58)) rfl (fun _ => rfl) ?_
                refine T_call 141 232 [.ref 189, .int (i32 58)] [] rfl (fun _ => rfl) rfl (d_need w (mO m107 [] []) c N D (by omega) Tm107 58 ⟨by decide, by decide⟩ (show 1 ≤ (58 : Int) by omega) (show LxP (m107.1 7) (m107.1 8) (m107.1 9) (m107.1 6) (m107.1 10) by rewrite [(show (m107.1 6) = (m.1 6) from ((fr1 Fm107 6 rfl).trans ((fr1 Fm88 6 rfl).trans (fr1 Fm75 6 rfl))))]; first | exact hLx | (intro h9; exfalso; omega) | (intro h9; have h8 := hLx (by omega); omega))) (fun rr120 k121 => ?_)
                obtain ⟨m122, Tm122, Fm122, h123, h124, h125, h126, rfl⟩ := k121
                refine ⟨_, _, rfl, ?_⟩
                refine T_nb (st' := []) rfl ?_
                have g127 : 0 ≤ m122.1 7 ∧ m122.1 7 ≤ 330 := Tm122.1 7
                have g128 : 0 ≤ m122.1 8 ∧ m122.1 8 ≤ 4000 := Tm122.1 8
                have g129 : 0 ≤ m122.1 9 ∧ m122.1 9 ≤ 4000 := Tm122.1 9
                have g130 : 0 ≤ m122.1 10 ∧ m122.1 10 ≤ 8 := Tm122.1 10
                have g131 : (-1) ≤ m122.1 11 ∧ m122.1 11 ≤ 4000 := Tm122.1 11
                have g132 : (-9223372036854775808) ≤ m122.1 12 ∧ m122.1 12 ≤ 9223372036854775807 := Tm122.1 12
                by_cases hf133 : (m122.1 10) = 0
                · skip
                  replace h123 : LxP (m122.1 7) (m122.1 8) (m122.1 9) (m107.1 6) (m122.1 10) := h123
                  rewrite [(show (m107.1 6) = (m.1 6) from ((fr1 Fm107 6 rfl).trans ((fr1 Fm88 6 rfl).trans (fr1 Fm75 6 rfl))))] at h123
                  have hLx := h123
                  replace h124 : (m107.1 10) = 0 ∧ (m107.1 7) = (58 : Int) := h124 hf133
                  replace h125 : (m107.1 8) ≤ (m122.1 8) := h125
                  replace h126 : (m107.1 8) + (m107.1 9) ≤ (m122.1 8) := h126 hf133
                  have u134 : (m.1 8) + 1 ≤ (m122.1 8) := by omega
                  clear g112 g113 g114 g115 g116 g117 h108 h110 h111 u119 h124 h125 h126
                  refine T_gf 145 (.ref 219) rfl rfl rfl rfl rfl rfl ?_
                  refine T_ld 146 (.int (i32 ((4 * a) + ((m.2 46) a)))) rfl (fun _ => rfl) ?_
                  refine T_ld 147 (.ref 189) rfl (fun _ => rfl) ?_
                  refine T_ld 148 (.int (i32 1)) rfl (fun _ => rfl) ?_
                  refine T_ld 150 (.int (i32 64)) rfl (fun _ => rfl) ?_
                  refine T_call 153 234 [.ref 189, .int (i32 1), .int (i32 64)] [.int (i32 ((4 * a) + ((m.2 46) a))), .ref 219] rfl (fun _ => rfl) rfl (d_number w (mO m122 [] []) c N D (by omega) Tm122 1 64 ⟨by decide, by decide⟩ ⟨by decide, by decide⟩ (show LxP (m122.1 7) (m122.1 8) (m122.1 9) (m122.1 6) (m122.1 10) by rewrite [(show (m122.1 6) = (m.1 6) from ((fr1 Fm122 6 rfl).trans ((fr1 Fm107 6 rfl).trans ((fr1 Fm88 6 rfl).trans (fr1 Fm75 6 rfl)))))]; first | exact hLx | (intro h9; exfalso; omega) | (intro h9; have h8 := hLx (by omega); omega)) (show (1 : Int) ≤ (64 : Int) by omega)) (fun rr135 k136 => ?_)
                  obtain ⟨m137, nu, Tm137, Fm137, g138, h139, h140, h141, h142, h143, h144, rfl⟩ := k136
                  refine ⟨_, _, rfl, ?_⟩
                  refine T_nb (st' := [.int (i32 nu), .int (i32 ((4 * a) + ((m.2 46) a))), .ref 219]) rfl ?_
                  obtain ⟨g138a, g138b⟩ := g138
                  have g145 : 0 ≤ m137.1 7 ∧ m137.1 7 ≤ 330 := Tm137.1 7
                  have g146 : 0 ≤ m137.1 8 ∧ m137.1 8 ≤ 4000 := Tm137.1 8
                  have g147 : 0 ≤ m137.1 9 ∧ m137.1 9 ≤ 4000 := Tm137.1 9
                  have g148 : 0 ≤ m137.1 10 ∧ m137.1 10 ≤ 8 := Tm137.1 10
                  have g149 : (-1) ≤ m137.1 11 ∧ m137.1 11 ≤ 4000 := Tm137.1 11
                  have g150 : (-9223372036854775808) ≤ m137.1 12 ∧ m137.1 12 ≤ 9223372036854775807 := Tm137.1 12
                  by_cases hf151 : (m137.1 10) = 0
                  · skip
                    replace h139 : LxP (m137.1 7) (m137.1 8) (m137.1 9) (m122.1 6) (m137.1 10) := h139
                    rewrite [(show (m122.1 6) = (m.1 6) from ((fr1 Fm122 6 rfl).trans ((fr1 Fm107 6 rfl).trans ((fr1 Fm88 6 rfl).trans (fr1 Fm75 6 rfl)))))] at h139
                    have hLx := h139
                    replace h140 : (m122.1 8) ≤ (m137.1 8) := h140
                    replace h141 : (m122.1 10) = 0 ∧ (m122.1 8) + (m122.1 9) ≤ (m137.1 8) := h141 hf151
                    replace h142 : (m122.1 7) = 2 := h142 hf151
                    replace h143 : (1 : Int) ≤ nu ∧ nu ≤ (64 : Int) := h143
                    replace h144 : nu = (m122.1 12) := h144 hf151
                    have u152 : (m.1 8) + 1 ≤ (m137.1 8) := by omega
                    clear g127 g128 g129 g130 g131 g132 h123 u134 h140 h141 h142 h144
                    have G153 : ∀ j, 0 ≤ (upI (m.2 49) ((4 * a) + ((m.2 46) a)) nu) j ∧ (upI (m.2 49) ((4 * a) + ((m.2 46) a)) nu) j ≤ 64 := upI_rg (hT.2.1 49) ⟨by omega, by omega⟩
                    refine T_iast (a' := [(49, upI (m.2 49) ((4 * a) + ((m.2 46) a)) nu)]) 154 49 (m.2 49) rfl rfl rfl (by omega) (show ((4 * a) + ((m.2 46) a)) < (64 : Int) by omega) (show (m137.2 49) = (m.2 49) from ((fr2 Fm137 49 rfl).trans ((fr2 Fm122 49 rfl).trans ((fr2 Fm107 49 rfl).trans ((fr2 Fm88 49 rfl).trans (fr2 Fm75 49 rfl)))))) rfl ?_
                    refine T_gf 158 (.ref 216) rfl rfl rfl rfl rfl rfl ?_
                    refine T_ld 159 (.int (i32 a)) rfl (fun _ => rfl) ?_
                    refine T_dup2 160 rfl (fun _ => rfl) ?_
                    refine T_iald 161 46 (m.2 46) rfl rfl rfl (by omega) (show a < (16 : Int) by omega) (show (m137.2 46) = (m.2 46) from ((fr2 Fm137 46 rfl).trans ((fr2 Fm122 46 rfl).trans ((fr2 Fm107 46 rfl).trans ((fr2 Fm88 46 rfl).trans (fr2 Fm75 46 rfl)))))) ?_
                    have e154 : 0 ≤ (m.2 46) a ∧ (m.2 46) a ≤ 4 := (hT.2.1 46) a
                    refine T_ld 162 (.int (i32 1)) rfl (fun _ => rfl) ?_
                    refine T_iadd 163 rfl rfl ?_
                    have G155 : ∀ j, 0 ≤ (upI (m.2 46) a (((m.2 46) a) + 1)) j ∧ (upI (m.2 46) a (((m.2 46) a) + 1)) j ≤ 4 := upI_rg (hT.2.1 46) ⟨by omega, by omega⟩
                    refine T_iast (a' := [(46, upI (m.2 46) a (((m.2 46) a) + 1)), (49, upI (m.2 49) ((4 * a) + ((m.2 46) a)) nu)]) 164 46 (m.2 46) rfl rfl rfl (by omega) (show a < (16 : Int) by omega) (show (m137.2 46) = (m.2 46) from ((fr2 Fm137 46 rfl).trans ((fr2 Fm122 46 rfl).trans ((fr2 Fm107 46 rfl).trans ((fr2 Fm88 46 rfl).trans (fr2 Fm75 46 rfl)))))) rfl ?_
                    refine T_ret rfl (fun _ => rfl) ?_
                    exact ⟨(mO m137 [] [(46, upI (m.2 46) a (((m.2 46) a) + 1)), (49, upI (m.2 49) ((4 * a) + ((m.2 46) a)) nu)]), (Ty_mO Tm137 rfl rfl trivial ⟨G155, G153, trivial⟩), (fr_m (fr_s Fm137 (fr_m (fr_s Fm122 (fr_m (fr_s Fm107 (fr_m (fr_s Fm88 (fr_m (fr_s Fm75 (fr_m fr_0 rfl rfl) rfl rfl) rfl rfl) rfl rfl) rfl rfl) rfl rfl) rfl rfl) rfl rfl) rfl rfl) rfl rfl) rfl rfl), (show (m137.1 10) = 0 → (m.1 10) = 0 by omega), (show LxP (m137.1 7) (m137.1 8) (m137.1 9) (m.1 6) (m137.1 10) by first | (first | exact hLx | exact (fun _ => hLx (by omega)) | (intro h9; exfalso; omega)) | (exfalso; omega)), (show ∀ k, (m137.2 47) k + (m137.2 48) k ≤ 4000 by rewrite [(show (m137.2 47) = (upI (m.2 47) ((4 * a) + ((m.2 46) a)) (m.1 8)) from ((fr2 Fm137 47 rfl).trans ((fr2 Fm122 47 rfl).trans (fr2 Fm107 47 rfl)))), (show (m137.2 48) = (upI (m.2 48) ((4 * a) + ((m.2 46) a)) (m.1 9)) from ((fr2 Fm137 48 rfl).trans ((fr2 Fm122 48 rfl).trans (fr2 Fm107 48 rfl))))]; first | (first | exact hPA | (intro k; have := hPA0 k; have h7 := hLx0 hf0; unfold upI; split <;> omega)) | (exfalso; omega)), (fun _ => (show (m.1 8) + 1 ≤ (m137.1 8) by omega)), rfl⟩
                  · skip
                    replace h139 : LxP (m137.1 7) (m137.1 8) (m137.1 9) (m122.1 6) (m137.1 10) := h139
                    rewrite [(show (m122.1 6) = (m.1 6) from ((fr1 Fm122 6 rfl).trans ((fr1 Fm107 6 rfl).trans ((fr1 Fm88 6 rfl).trans (fr1 Fm75 6 rfl)))))] at h139
                    have hLx := h139
                    replace h140 : (m122.1 8) ≤ (m137.1 8) := h140
                    clear h141
                    clear h142
                    replace h143 : (1 : Int) ≤ nu ∧ nu ≤ (64 : Int) := h143
                    clear h144
                    have hf156 : 1 ≤ (m137.1 10) := by omega
                    clear g127 g128 g129 g130 g131 g132 h123 u134 h140
                    refine Tm_lv (a := [(0, .ref 189), (1, .int (i32 a))]) rfl rfl ⟨rfl, rfl, trivial⟩ ?_
                    exact J153_11 nu (mO m137 [] []) (r32 (by omega) (by omega)) Tm137 (fr_m (fr_s Fm137 (fr_m (fr_s Fm122 (fr_m (fr_s Fm107 (fr_m (fr_s Fm88 (fr_m (fr_s Fm75 (fr_m fr_0 rfl rfl) rfl rfl) rfl rfl) rfl rfl) rfl rfl) rfl rfl) rfl rfl) rfl rfl) rfl rfl) rfl rfl) rfl rfl) (show 1 ≤ nu by omega) (show nu ≤ 64 by omega) (show ∀ k, (m137.2 47) k + (m137.2 48) k ≤ 4000 by rewrite [(show (m137.2 47) = (upI (m.2 47) ((4 * a) + ((m.2 46) a)) (m.1 8)) from ((fr2 Fm137 47 rfl).trans ((fr2 Fm122 47 rfl).trans (fr2 Fm107 47 rfl)))), (show (m137.2 48) = (upI (m.2 48) ((4 * a) + ((m.2 46) a)) (m.1 9)) from ((fr2 Fm137 48 rfl).trans ((fr2 Fm122 48 rfl).trans (fr2 Fm107 48 rfl))))]; first | exact hPA | (intro k; have := hPA0 k; have h7 := hLx0 hf0; unfold upI; split <;> omega)) (show (m.2 46) a ≤ 3 by omega) (show 0 ≤ (4 * a) + ((m.2 46) a) ∧ (4 * a) + ((m.2 46) a) ≤ 64 by omega) (show 1 ≤ (m137.1 10) by omega)
                · skip
                  replace h123 : LxP (m122.1 7) (m122.1 8) (m122.1 9) (m107.1 6) (m122.1 10) := h123
                  rewrite [(show (m107.1 6) = (m.1 6) from ((fr1 Fm107 6 rfl).trans ((fr1 Fm88 6 rfl).trans (fr1 Fm75 6 rfl))))] at h123
                  have hLx := h123
                  clear h124
                  replace h125 : (m107.1 8) ≤ (m122.1 8) := h125
                  clear h126
                  have hf157 : 1 ≤ (m122.1 10) := by omega
                  clear g112 g113 g114 g115 g116 g117 h108 h110 h111 u119 h125
                  refine Tm_lv (a := [(0, .ref 189), (1, .int (i32 a)), (2, .int (i32 ((4 * a) + ((m.2 46) a))))]) rfl rfl ⟨rfl, rfl, rfl, trivial⟩ ?_
                  exact J141_26 (mO m122 [] []) Tm122 (fr_m (fr_s Fm122 (fr_m (fr_s Fm107 (fr_m (fr_s Fm88 (fr_m (fr_s Fm75 (fr_m fr_0 rfl rfl) rfl rfl) rfl rfl) rfl rfl) rfl rfl) rfl rfl) rfl rfl) rfl rfl) rfl rfl) (show ∀ k, (m122.2 47) k + (m122.2 48) k ≤ 4000 by rewrite [(show (m122.2 47) = (upI (m.2 47) ((4 * a) + ((m.2 46) a)) (m.1 8)) from ((fr2 Fm122 47 rfl).trans (fr2 Fm107 47 rfl))), (show (m122.2 48) = (upI (m.2 48) ((4 * a) + ((m.2 46) a)) (m.1 9)) from ((fr2 Fm122 48 rfl).trans (fr2 Fm107 48 rfl)))]; first | exact hPA | (intro k; have := hPA0 k; have h7 := hLx0 hf0; unfold upI; split <;> omega)) (show (m.2 46) a ≤ 3 by omega) (show 0 ≤ ((4 * a) + ((m.2 46) a)) ∧ ((4 * a) + ((m.2 46) a)) ≤ 64 by omega) (show 1 ≤ (m122.1 10) by omega)
              · skip
                replace h108 : LxP (m107.1 7) (m107.1 8) (m107.1 9) (m88.1 6) (m107.1 10) := h108
                rewrite [(show (m88.1 6) = (m.1 6) from ((fr1 Fm88 6 rfl).trans (fr1 Fm75 6 rfl)))] at h108
                have hLx := h108
                clear h109
                replace h110 : (m88.1 8) ≤ (m107.1 8) := h110
                rewrite [(show (m88.1 8) = (m.1 8) from ((fr1 Fm88 8 rfl).trans (fr1 Fm75 8 rfl)))] at h110
                clear h111
                have hf158 : 1 ≤ (m107.1 10) := by omega
                clear q83a q83b q83 q84_10 q84_11 ic77 ic78 ic80 ic82 q94_10 q94_11 h102
                refine Tm_lv (a := [(0, .ref 189), (1, .int (i32 a)), (2, .int (i32 ((4 * a) + ((m.2 46) a))))]) rfl rfl ⟨rfl, rfl, rfl, trivial⟩ ?_
                exact J135_52 (mO m107 [] []) Tm107 (fr_m (fr_s Fm107 (fr_m (fr_s Fm88 (fr_m (fr_s Fm75 (fr_m fr_0 rfl rfl) rfl rfl) rfl rfl) rfl rfl) rfl rfl) rfl rfl) rfl rfl) (show ∀ k, (m107.2 47) k + (m107.2 48) k ≤ 4000 by rewrite [(show (m107.2 47) = (upI (m.2 47) ((4 * a) + ((m.2 46) a)) (m.1 8)) from (fr2 Fm107 47 rfl)), (show (m107.2 48) = (upI (m.2 48) ((4 * a) + ((m.2 46) a)) (m.1 9)) from (fr2 Fm107 48 rfl))]; first | exact hPA | (intro k; have := hPA0 k; have h7 := hLx0 hf0; unfold upI; split <;> omega)) (show (m.2 46) a ≤ 3 by omega) (show 0 ≤ ((4 * a) + ((m.2 46) a)) ∧ ((4 * a) + ((m.2 46) a)) ≤ 64 by omega) (show 1 ≤ (m107.1 10) by omega)
            · skip
              refine T_gf 66 (.int (i32 (m88.1 10))) rfl rfl rfl rfl rfl rfl ?_
              refine T_if 103 69 rfl rfl rfl (r32 (by omega) (by omega)) (fun (h159 : (m88.1 10) ≠ 0) => by exfalso; omega) (fun (h159 : ¬ ((m88.1 10) ≠ 0)) => ?_)
              have hp3 := hPA v87
              refine T_ld 70 (.ref 189) rfl (fun _ => rfl) ?_
              refine T_gf 74 (.ref 217) rfl rfl rfl rfl rfl rfl ?_
              refine T_ld 75 (.int (i32 v87)) rfl (fun _ => rfl) ?_
              refine T_iald 76 47 (m.2 47) rfl rfl rfl (by omega) (show v87 < (64 : Int) by omega) (show (m88.2 47) = (m.2 47) from ((fr2 Fm88 47 rfl).trans (fr2 Fm75 47 rfl))) ?_
              have e160 : 0 ≤ (m.2 47) v87 ∧ (m.2 47) v87 ≤ 4000 := (hT.2.1 47) v87
              refine T_gf 80 (.ref 218) rfl rfl rfl rfl rfl rfl ?_
              refine T_ld 81 (.int (i32 v87)) rfl (fun _ => rfl) ?_
              refine T_iald 82 48 (m.2 48) rfl rfl rfl (by omega) (show v87 < (64 : Int) by omega) (show (m88.2 48) = (m.2 48) from ((fr2 Fm88 48 rfl).trans (fr2 Fm75 48 rfl))) ?_
              have e161 : 0 ≤ (m.2 48) v87 ∧ (m.2 48) v87 ≤ 4000 := (hT.2.1 48) v87
              refine T_call 85 230 [.ref 189, .int (i32 ((m.2 47) v87)), .int (i32 ((m.2 48) v87))] [] rfl (fun _ => rfl) rfl (d_isHere w (mO m88 [] []) c N D (by omega) Tm88 ((m.2 47) v87) ((m.2 48) v87) (r32 (by omega) (by omega)) (r32 (by omega) (by omega)) (show 0 ≤ ((m.2 47) v87) by omega) (show 0 ≤ ((m.2 48) v87) by omega) (show ((m.2 47) v87) + ((m.2 48) v87) ≤ 4000 by omega) (show 1 ≤ (m88.1 9) ∧ (m88.1 8) + (m88.1 9) ≤ (m88.1 6) by rewrite [(show (m88.1 9) = (m.1 9) from ((fr1 Fm88 9 rfl).trans (fr1 Fm75 9 rfl))), (show (m88.1 8) = (m.1 8) from ((fr1 Fm88 8 rfl).trans (fr1 Fm75 8 rfl))), (show (m88.1 6) = (m.1 6) from ((fr1 Fm88 6 rfl).trans (fr1 Fm75 6 rfl)))]; first | omega | (have h8 := hLx (by omega); omega))) (fun rr162 k163 => ?_)
              obtain ⟨x164, g165, h166, rfl⟩ := k163
              refine ⟨_, _, rfl, ?_⟩
              refine T_ns (st' := [.int (i32 x164)]) rfl ?_
              obtain ⟨g165a, g165b⟩ := g165
              replace h166 : (x164 = 1 ∧ sameN (m88.2 4) (m88.1 8) (m88.1 9) ((m.2 47) v87) ((m.2 48) v87)) ∨ (x164 = 0 ∧ ¬ sameN (m88.2 4) (m88.1 8) (m88.1 9) ((m.2 47) v87) ((m.2 48) v87)) := h166
              rewrite [(show (m88.2 4) = (m.2 4) from ((fr2 Fm88 4 rfl).trans (fr2 Fm75 4 rfl))), (show (m88.1 8) = (m.1 8) from ((fr1 Fm88 8 rfl).trans (fr1 Fm75 8 rfl))), (show (m88.1 9) = (m.1 9) from ((fr1 Fm88 9 rfl).trans (fr1 Fm75 9 rfl)))] at h166
              have hh := h166
              have u167 : (m.1 8) ≤ (m.1 8) := by omega
              clear q83a q83b q83 q84_10 q84_11 ic77 ic78 ic80 ic82
              refine T_if 97 88 rfl rfl rfl (r32 (by omega) (by omega)) (fun (h168 : x164 = 0) => ?_) (fun (h168 : ¬ (x164 = 0)) => ?_)
              · skip
                refine T_iinc 100 [(3, .int (i32 (v87 + 1))), (0, .ref 189), (1, .int (i32 a)), (2, .int (i32 ((4 * a) + ((m.2 46) a))))] rfl rfl (by decide) rfl rfl ?_
                refine T_goto 57 rfl (fun _ => rfl) ?_
                refine Tm_lv (a := [(0, .ref 189), (1, .int (i32 a)), (2, .int (i32 ((4 * a) + ((m.2 46) a)))), (3, .int (i32 (v87 + 1)))]) rfl rfl ⟨rfl, rfl, rfl, rfl, trivial⟩ ?_
                exact ih97 (v87 + 1) (mO m88 [] []) (r32 (by omega) (by omega)) Tm88 (fr_m (fr_s Fm88 (fr_m fr_0 rfl rfl) rfl rfl) rfl rfl) (show 1 ≤ (v87 + 1) by omega) (show (v87 + 1) ≤ 64 by omega) (show (v87 + 1) ≤ (4 * a) + ((m.2 46) a) by omega) (fun _ => ⟨(show (m.1 7) = 1 by omega), (show (m.2 46) a ≤ 3 by omega)⟩) (show ((4 * a) + ((m.2 46) a)) - (v87 + 1) < (n96 : Int) by omega)
              · skip
                refine T_ld 89 (.ref 189) rfl (fun _ => rfl) ?_
                refine T_ld 90 (.int (i32 3)) rfl (fun _ => rfl) ?_
                refine T_gf 94 (.int (i32 (m.1 8))) rfl rfl rfl rfl (mfv_c (F := fun x => .int (i32 x)) rfl (show (m88.1 8) = (m.1 8) from ((fr1 Fm88 8 rfl).trans (fr1 Fm75 8 rfl)))) rfl ?_
                refine T_call 97 222 [.ref 189, .int (i32 3), .int (i32 (m.1 8))] [] rfl (fun _ => rfl) rfl (d_wrong w (mO m88 [] []) c N D (by omega) Tm88 3 (m.1 8) ⟨by decide, by decide⟩ (r32 (by omega) (by omega)) (show 1 ≤ (3 : Int) ∧ (3 : Int) ≤ 8 by omega) (show 0 ≤ (m.1 8) ∧ (m.1 8) ≤ 4000 by omega)) (fun rr169 k170 => ?_)
                obtain ⟨m171, Tm171, Fm171, h172, rfl⟩ := k170
                refine ⟨_, _, rfl, ?_⟩
                refine T_nb (st' := []) rfl ?_
                have g173 : 0 ≤ m171.1 10 ∧ m171.1 10 ≤ 8 := Tm171.1 10
                have g174 : (-1) ≤ m171.1 11 ∧ m171.1 11 ≤ 4000 := Tm171.1 11
                replace h172 : (0 < (m88.1 10) → (m171.1 10) = (m88.1 10) ∧ (m171.1 11) = (m88.1 11)) ∧ ((m88.1 10) ≤ 0 → (m171.1 10) = (3 : Int) ∧ (m171.1 11) = (m.1 8)) := h172
                have hf175 : 1 ≤ (m171.1 10) := by omega
                clear q94_10 q94_11 h159 g165a g165b h166 h168 h172
                refine T_iinc 100 [(3, .int (i32 (v87 + 1))), (0, .ref 189), (1, .int (i32 a)), (2, .int (i32 ((4 * a) + ((m.2 46) a))))] rfl rfl (by decide) rfl rfl ?_
                refine T_goto 57 rfl (fun _ => rfl) ?_
                refine Tm_lv (a := [(0, .ref 189), (1, .int (i32 a)), (2, .int (i32 ((4 * a) + ((m.2 46) a)))), (3, .int (i32 (v87 + 1)))]) rfl rfl ⟨rfl, rfl, rfl, rfl, trivial⟩ ?_
                exact ih97 (v87 + 1) (mO m171 [] []) (r32 (by omega) (by omega)) Tm171 (fr_m (fr_s Fm171 (fr_m (fr_s Fm88 (fr_m fr_0 rfl rfl) rfl rfl) rfl rfl) rfl rfl) rfl rfl) (show 1 ≤ (v87 + 1) by omega) (show (v87 + 1) ≤ 64 by omega) (show (v87 + 1) ≤ (4 * a) + ((m.2 46) a) by omega) (fun (h : (m171.1 10) = 0) => absurd h (by omega)) (show ((4 * a) + ((m.2 46) a)) - (v87 + 1) < (n96 : Int) by omega)
          · skip
            clear c95
            have hf176 : 1 ≤ (m88.1 10) := by omega
            refine T_ld 58 (.int (i32 v87)) rfl (fun _ => rfl) ?_
            refine T_ld 59 (.int (i32 ((4 * a) + ((m.2 46) a)))) rfl (fun _ => rfl) ?_
            refine T_icmp 103 62 rfl rfl rfl (r32 (by omega) (by omega)) (r32 (by omega) (by omega)) (fun (h177 : (4 * a) + ((m.2 46) a) ≤ v87) => ?_) (fun (h177 : ¬ ((4 * a) + ((m.2 46) a) ≤ v87)) => ?_)
            · skip
              refine T_gf 107 (.int (i32 (m88.1 10))) rfl rfl rfl rfl rfl rfl ?_
              refine T_if 111 110 rfl rfl rfl (r32 (by omega) (by omega)) (fun (h178 : (m88.1 10) ≤ 0) => by exfalso; omega) (fun (h178 : ¬ ((m88.1 10) ≤ 0)) => ?_)
              refine T_ret rfl (fun _ => rfl) ?_
              exact ⟨(mO m88 [] []), Tm88, (fr_m (fr_s Fm88 (fr_m (fr_s Fm75 (fr_m fr_0 rfl rfl) rfl rfl) rfl rfl) rfl rfl) rfl rfl), (show (m88.1 10) = 0 → (m.1 10) = 0 by omega), (show LxP (m88.1 7) (m88.1 8) (m88.1 9) (m.1 6) (m88.1 10) by rewrite [(show (m88.1 7) = (m.1 7) from ((fr1 Fm88 7 rfl).trans (fr1 Fm75 7 rfl))), (show (m88.1 8) = (m.1 8) from ((fr1 Fm88 8 rfl).trans (fr1 Fm75 8 rfl))), (show (m88.1 9) = (m.1 9) from ((fr1 Fm88 9 rfl).trans (fr1 Fm75 9 rfl)))]; first | (first | exact hLx | exact (fun _ => hLx (by omega)) | (intro h9; exfalso; omega)) | (exfalso; omega)), (show ∀ k, (m88.2 47) k + (m88.2 48) k ≤ 4000 by rewrite [(show (m88.2 47) = (m.2 47) from ((fr2 Fm88 47 rfl).trans (fr2 Fm75 47 rfl))), (show (m88.2 48) = (m.2 48) from ((fr2 Fm88 48 rfl).trans (fr2 Fm75 48 rfl)))]; first | (first | exact hPA | (intro k; have := hPA0 k; have h7 := hLx0 hf0; unfold upI; split <;> omega)) | (exfalso; omega)), (fun (h : (m88.1 10) = 0) => absurd h (by omega)), rfl⟩
            · skip
              refine T_gf 66 (.int (i32 (m88.1 10))) rfl rfl rfl rfl rfl rfl ?_
              refine T_if 103 69 rfl rfl rfl (r32 (by omega) (by omega)) (fun (h179 : (m88.1 10) ≠ 0) => ?_) (fun (h179 : ¬ ((m88.1 10) ≠ 0)) => by exfalso; omega)
              refine T_gf 107 (.int (i32 (m88.1 10))) rfl rfl rfl rfl rfl rfl ?_
              refine T_if 111 110 rfl rfl rfl (r32 (by omega) (by omega)) (fun (h180 : (m88.1 10) ≤ 0) => by exfalso; omega) (fun (h180 : ¬ ((m88.1 10) ≤ 0)) => ?_)
              refine T_ret rfl (fun _ => rfl) ?_
              exact ⟨(mO m88 [] []), Tm88, (fr_m (fr_s Fm88 (fr_m (fr_s Fm75 (fr_m fr_0 rfl rfl) rfl rfl) rfl rfl) rfl rfl) rfl rfl), (show (m88.1 10) = 0 → (m.1 10) = 0 by omega), (show LxP (m88.1 7) (m88.1 8) (m88.1 9) (m.1 6) (m88.1 10) by rewrite [(show (m88.1 7) = (m.1 7) from ((fr1 Fm88 7 rfl).trans (fr1 Fm75 7 rfl))), (show (m88.1 8) = (m.1 8) from ((fr1 Fm88 8 rfl).trans (fr1 Fm75 8 rfl))), (show (m88.1 9) = (m.1 9) from ((fr1 Fm88 9 rfl).trans (fr1 Fm75 9 rfl)))]; first | (first | exact hLx | exact (fun _ => hLx (by omega)) | (intro h9; exfalso; omega)) | (exfalso; omega)), (show ∀ k, (m88.2 47) k + (m88.2 48) k ≤ 4000 by rewrite [(show (m88.2 47) = (m.2 47) from ((fr2 Fm88 47 rfl).trans (fr2 Fm75 47 rfl))), (show (m88.2 48) = (m.2 48) from ((fr2 Fm88 48 rfl).trans (fr2 Fm75 48 rfl)))]; first | (first | exact hPA | (intro k; have := hPA0 k; have h7 := hLx0 hf0; unfold upI; split <;> omega)) | (exfalso; omega)), (fun (h : (m88.1 10) = 0) => absurd h (by omega)), rfl⟩
      refine Tm_lv (a := [(0, .ref 189), (1, .int (i32 a)), (2, .int (i32 ((4 * a) + ((m.2 46) a)))), (3, .int (i32 (v74 + 1)))]) rfl rfl ⟨rfl, rfl, rfl, rfl, trivial⟩ ?_
      exact L57_89 ((((4 * a) + ((m.2 46) a)) - (v74 + 1) : Int) + 1).toNat (v74 + 1) (mO m75 [] []) (r32 (by omega) (by omega)) Tm75 (fr_m fr_0 rfl rfl) (show 1 ≤ (v74 + 1) by omega) (show (v74 + 1) ≤ 64 by omega) (show (v74 + 1) ≤ (4 * a) + ((m.2 46) a) by omega) (fun (h : (m75.1 10) = 0) => absurd h (by omega)) (show ((4 * a) + ((m.2 46) a)) - (v74 + 1) < ((((((4 * a) + ((m.2 46) a)) - (v74 + 1) : Int) + 1).toNat : Nat) : Int) by omega)
    refine T_gf 4 (.int (i32 (m.1 10))) rfl rfl rfl rfl rfl rfl ?_
    refine T_if 8 7 rfl rfl rfl (r32 (by omega) (by omega)) (fun (h181 : (m.1 10) ≤ 0) => ?_) (fun (h181 : ¬ ((m.1 10) ≤ 0)) => by exfalso; omega)
    refine T_ld 9 (.int (i32 4)) rfl (fun _ => rfl) ?_
    refine T_ld 10 (.int (i32 a)) rfl (fun _ => rfl) ?_
    refine T_imul 11 rfl rfl ?_
    refine T_gf 15 (.ref 216) rfl rfl rfl rfl rfl rfl ?_
    refine T_ld 16 (.int (i32 a)) rfl (fun _ => rfl) ?_
    refine T_iald 17 46 (m.2 46) rfl rfl rfl (by omega) (show a < (16 : Int) by omega) rfl ?_
    have e182 : 0 ≤ (m.2 46) a ∧ (m.2 46) a ≤ 4 := (hT.2.1 46) a
    refine T_iadd 18 rfl rfl ?_
    refine T_sto 19 [(2, .int (i32 ((4 * a) + ((m.2 46) a)))), (0, .ref 189), (1, .int (i32 a))] rfl (fun _ => rfl) ?_
    refine T_gf 23 (.int (i32 (m.1 7))) rfl rfl rfl rfl rfl rfl ?_
    refine T_ld 24 (.int (i32 1)) rfl (fun _ => rfl) ?_
    refine T_icmp 34 27 rfl rfl rfl (r32 (by omega) (by omega)) ⟨by decide, by decide⟩ (fun (h183 : (m.1 7) = 1) => ?_) (fun (h183 : ¬ ((m.1 7) = 1)) => ?_)
    · skip
      refine T_gf 38 (.ref 216) rfl rfl rfl rfl rfl rfl ?_
      refine T_ld 39 (.int (i32 a)) rfl (fun _ => rfl) ?_
      refine T_iald 40 46 (m.2 46) rfl rfl rfl (by omega) (show a < (16 : Int) by omega) rfl ?_
      have e184 : 0 ≤ (m.2 46) a ∧ (m.2 46) a ≤ 4 := (hT.2.1 46) a
      refine T_ld 41 (.int (i32 4)) rfl (fun _ => rfl) ?_
      refine T_icmp 53 44 rfl rfl rfl (r32 (by omega) (by omega)) ⟨by decide, by decide⟩ (fun (h185 : (m.2 46) a ≠ 4) => ?_) (fun (h185 : ¬ ((m.2 46) a ≠ 4)) => ?_)
      · skip
        refine T_ld 54 (.int (i32 4)) rfl (fun _ => rfl) ?_
        refine T_ld 55 (.int (i32 a)) rfl (fun _ => rfl) ?_
        refine T_imul 56 rfl rfl ?_
        refine T_sto 57 [(3, .int (i32 (4 * a))), (2, .int (i32 ((4 * a) + ((m.2 46) a)))), (0, .ref 189), (1, .int (i32 a))] rfl (fun _ => rfl) ?_
        have L57_188 : ∀ (n194 : Nat) (v186 : Int) (m187 : mR), (R32 v186) → Ty m187 → fr [10, 11] [] (mO m [] []) m187 → (0 ≤ v186) → (v186 ≤ (4 * a) + ((m.2 46) a)) → ((m187.1 10) = 0 → ((m.1 7) = 1) ∧ ((m.2 46) a ≤ 3)) → ((4 * a) + ((m.2 46) a)) - v186 < (n194 : Int) → TT w D pm_268 (57, [(0, .ref 189), (1, .int (i32 a)), (2, .int (i32 ((4 * a) + ((m.2 46) a)))), (3, .int (i32 v186))], [], (mhp (mO m187 [] []) c, N), 0, 0) (Q_takeParameter m c N a) := by
          intro n194
          induction n194 with
          | zero =>
            intro v186 m187 q191 Tm187 Fm187 ic189 ic190 c193 hmu
            obtain ⟨q191a, q191b⟩ := id q191
            have q192_10 : 0 ≤ m187.1 10 ∧ m187.1 10 ≤ 8 := Tm187.1 10
            have q192_11 : (-1) ≤ m187.1 11 ∧ m187.1 11 ≤ 4000 := Tm187.1 11
            exfalso
            omega
          | succ n194 ih =>
            intro v186 m187 q191 Tm187 Fm187 ic189 ic190 c193 hmu
            obtain ⟨q191a, q191b⟩ := id q191
            have q192_10 : 0 ≤ m187.1 10 ∧ m187.1 10 ≤ 8 := Tm187.1 10
            have q192_11 : (-1) ≤ m187.1 11 ∧ m187.1 11 ≤ 4000 := Tm187.1 11
            have ih195 := ih
            by_cases hf196 : (m187.1 10) = 0
            · skip
              obtain ⟨c197, c198⟩ := c193 hf196
              clear c193
              refine T_ld 58 (.int (i32 v186)) rfl (fun _ => rfl) ?_
              refine T_ld 59 (.int (i32 ((4 * a) + ((m.2 46) a)))) rfl (fun _ => rfl) ?_
              refine T_icmp 103 62 rfl rfl rfl (r32 (by omega) (by omega)) (r32 (by omega) (by omega)) (fun (h199 : (4 * a) + ((m.2 46) a) ≤ v186) => ?_) (fun (h199 : ¬ ((4 * a) + ((m.2 46) a) ≤ v186)) => ?_)
              · skip
                refine T_gf 107 (.int (i32 (m187.1 10))) rfl rfl rfl rfl rfl rfl ?_
                refine T_if 111 110 rfl rfl rfl (r32 (by omega) (by omega)) (fun (h200 : (m187.1 10) ≤ 0) => ?_) (fun (h200 : ¬ ((m187.1 10) ≤ 0)) => by exfalso; omega)
                refine T_gf 115 (.ref 217) rfl rfl rfl rfl rfl rfl ?_
                refine T_ld 116 (.int (i32 ((4 * a) + ((m.2 46) a)))) rfl (fun _ => rfl) ?_
                refine T_gf 120 (.int (i32 (m.1 8))) rfl rfl rfl rfl (mfv_c (F := fun x => .int (i32 x)) rfl (show (m187.1 8) = (m.1 8) from (fr1 Fm187 8 rfl))) rfl ?_
                have G201 : ∀ j, 0 ≤ (upI (m.2 47) ((4 * a) + ((m.2 46) a)) (m.1 8)) j ∧ (upI (m.2 47) ((4 * a) + ((m.2 46) a)) (m.1 8)) j ≤ 4000 := upI_rg (hT.2.1 47) ⟨by omega, by omega⟩
                refine T_iast (a' := [(47, upI (m.2 47) ((4 * a) + ((m.2 46) a)) (m.1 8))]) 121 47 (m.2 47) rfl rfl rfl (by omega) (show ((4 * a) + ((m.2 46) a)) < (64 : Int) by omega) (show (m187.2 47) = (m.2 47) from (fr2 Fm187 47 rfl)) rfl ?_
                refine T_gf 125 (.ref 218) rfl rfl rfl rfl rfl rfl ?_
                refine T_ld 126 (.int (i32 ((4 * a) + ((m.2 46) a)))) rfl (fun _ => rfl) ?_
                refine T_gf 130 (.int (i32 (m.1 9))) rfl rfl rfl rfl (mfv_c (F := fun x => .int (i32 x)) rfl (show (m187.1 9) = (m.1 9) from (fr1 Fm187 9 rfl))) rfl ?_
                have G202 : ∀ j, 0 ≤ (upI (m.2 48) ((4 * a) + ((m.2 46) a)) (m.1 9)) j ∧ (upI (m.2 48) ((4 * a) + ((m.2 46) a)) (m.1 9)) j ≤ 4000 := upI_rg (hT.2.1 48) ⟨by omega, by omega⟩
                refine T_iast (a' := [(47, upI (m.2 47) ((4 * a) + ((m.2 46) a)) (m.1 8)), (48, upI (m.2 48) ((4 * a) + ((m.2 46) a)) (m.1 9))]) 131 48 (m.2 48) rfl rfl rfl (by omega) (show ((4 * a) + ((m.2 46) a)) < (64 : Int) by omega) (show (m187.2 48) = (m.2 48) from (fr2 Fm187 48 rfl)) rfl ?_
                have hLx : LxP (m.1 7) (m.1 8) (m.1 9) (m.1 6) (m187.1 10) := fun _ => hLx0 (by omega)
                refine T_ld 132 (.ref 189) rfl (fun _ => rfl) ?_
                refine T_call 135 212 [.ref 189] [] rfl (fun _ => rfl) rfl (d_next w (mO m187 [] [(47, upI (m.2 47) ((4 * a) + ((m.2 46) a)) (m.1 8)), (48, upI (m.2 48) ((4 * a) + ((m.2 46) a)) (m.1 9))]) c N D (by omega) (Ty_mO Tm187 rfl rfl trivial ⟨G201, G202, trivial⟩) (show (m187.1 10) = 0 → (m187.1 8) + (m187.1 9) ≤ (m187.1 6) by rewrite [(show (m187.1 8) = (m.1 8) from (fr1 Fm187 8 rfl)), (show (m187.1 9) = (m.1 9) from (fr1 Fm187 9 rfl)), (show (m187.1 6) = (m.1 6) from (fr1 Fm187 6 rfl))]; first | omega | (intro h9; have h8 := hLx h9; omega))) (fun rr203 k204 => ?_)
                obtain ⟨m205, Tm205, Fm205, h206, h207, h208, h209, rfl⟩ := k204
                refine ⟨_, _, rfl, ?_⟩
                refine T_nb (st' := []) rfl ?_
                have g210 : 0 ≤ m205.1 7 ∧ m205.1 7 ≤ 330 := Tm205.1 7
                have g211 : 0 ≤ m205.1 8 ∧ m205.1 8 ≤ 4000 := Tm205.1 8
                have g212 : 0 ≤ m205.1 9 ∧ m205.1 9 ≤ 4000 := Tm205.1 9
                have g213 : 0 ≤ m205.1 10 ∧ m205.1 10 ≤ 8 := Tm205.1 10
                have g214 : (-1) ≤ m205.1 11 ∧ m205.1 11 ≤ 4000 := Tm205.1 11
                have g215 : (-9223372036854775808) ≤ m205.1 12 ∧ m205.1 12 ≤ 9223372036854775807 := Tm205.1 12
                by_cases hf216 : (m205.1 10) = 0
                · skip
                  replace h206 : LxP (m205.1 7) (m205.1 8) (m205.1 9) (m187.1 6) (m205.1 10) := h206
                  rewrite [(show (m187.1 6) = (m.1 6) from (fr1 Fm187 6 rfl))] at h206
                  have hLx := h206
                  replace h207 : (m187.1 10) = 0 := h207 hf216
                  replace h208 : (m187.1 8) ≤ (m205.1 8) := h208
                  rewrite [(show (m187.1 8) = (m.1 8) from (fr1 Fm187 8 rfl))] at h208
                  replace h209 : (m187.1 8) + (m187.1 9) ≤ (m205.1 8) := h209 hf216
                  rewrite [(show (m187.1 8) = (m.1 8) from (fr1 Fm187 8 rfl)), (show (m187.1 9) = (m.1 9) from (fr1 Fm187 9 rfl))] at h209
                  have u217 : (m.1 8) + 1 ≤ (m205.1 8) := by omega
                  clear q192_10 q192_11 h200 h207
                  refine T_ld 136 (.ref 189) rfl (fun _ => rfl) ?_
                  refine T_ld 138 (.int (i32 58)) rfl (fun _ => rfl) ?_
                  refine T_call 141 232 [.ref 189, .int (i32 58)] [] rfl (fun _ => rfl) rfl (d_need w (mO m205 [] []) c N D (by omega) Tm205 58 ⟨by decide, by decide⟩ (show 1 ≤ (58 : Int) by omega) (show LxP (m205.1 7) (m205.1 8) (m205.1 9) (m205.1 6) (m205.1 10) by rewrite [(show (m205.1 6) = (m.1 6) from ((fr1 Fm205 6 rfl).trans (fr1 Fm187 6 rfl)))]; first | exact hLx | (intro h9; exfalso; omega) | (intro h9; have h8 := hLx (by omega); omega))) (fun rr218 k219 => ?_)
                  obtain ⟨m220, Tm220, Fm220, h221, h222, h223, h224, rfl⟩ := k219
                  refine ⟨_, _, rfl, ?_⟩
                  refine T_nb (st' := []) rfl ?_
                  have g225 : 0 ≤ m220.1 7 ∧ m220.1 7 ≤ 330 := Tm220.1 7
                  have g226 : 0 ≤ m220.1 8 ∧ m220.1 8 ≤ 4000 := Tm220.1 8
                  have g227 : 0 ≤ m220.1 9 ∧ m220.1 9 ≤ 4000 := Tm220.1 9
                  have g228 : 0 ≤ m220.1 10 ∧ m220.1 10 ≤ 8 := Tm220.1 10
                  have g229 : (-1) ≤ m220.1 11 ∧ m220.1 11 ≤ 4000 := Tm220.1 11
                  have g230 : (-9223372036854775808) ≤ m220.1 12 ∧ m220.1 12 ≤ 9223372036854775807 := Tm220.1 12
                  by_cases hf231 : (m220.1 10) = 0
                  · skip
                    replace h221 : LxP (m220.1 7) (m220.1 8) (m220.1 9) (m205.1 6) (m220.1 10) := h221
                    rewrite [(show (m205.1 6) = (m.1 6) from ((fr1 Fm205 6 rfl).trans (fr1 Fm187 6 rfl)))] at h221
                    have hLx := h221
                    replace h222 : (m205.1 10) = 0 ∧ (m205.1 7) = (58 : Int) := h222 hf231
                    replace h223 : (m205.1 8) ≤ (m220.1 8) := h223
                    replace h224 : (m205.1 8) + (m205.1 9) ≤ (m220.1 8) := h224 hf231
                    have u232 : (m.1 8) + 1 ≤ (m220.1 8) := by omega
                    clear g210 g211 g212 g213 g214 g215 h206 h208 h209 u217 h222 h223 h224
                    refine T_gf 145 (.ref 219) rfl rfl rfl rfl rfl rfl ?_
                    refine T_ld 146 (.int (i32 ((4 * a) + ((m.2 46) a)))) rfl (fun _ => rfl) ?_
                    refine T_ld 147 (.ref 189) rfl (fun _ => rfl) ?_
                    refine T_ld 148 (.int (i32 1)) rfl (fun _ => rfl) ?_
                    refine T_ld 150 (.int (i32 64)) rfl (fun _ => rfl) ?_
                    refine T_call 153 234 [.ref 189, .int (i32 1), .int (i32 64)] [.int (i32 ((4 * a) + ((m.2 46) a))), .ref 219] rfl (fun _ => rfl) rfl (d_number w (mO m220 [] []) c N D (by omega) Tm220 1 64 ⟨by decide, by decide⟩ ⟨by decide, by decide⟩ (show LxP (m220.1 7) (m220.1 8) (m220.1 9) (m220.1 6) (m220.1 10) by rewrite [(show (m220.1 6) = (m.1 6) from ((fr1 Fm220 6 rfl).trans ((fr1 Fm205 6 rfl).trans (fr1 Fm187 6 rfl))))]; first | exact hLx | (intro h9; exfalso; omega) | (intro h9; have h8 := hLx (by omega); omega)) (show (1 : Int) ≤ (64 : Int) by omega)) (fun rr233 k234 => ?_)
                    obtain ⟨m235, nu, Tm235, Fm235, g236, h237, h238, h239, h240, h241, h242, rfl⟩ := k234
                    refine ⟨_, _, rfl, ?_⟩
                    refine T_nb (st' := [.int (i32 nu), .int (i32 ((4 * a) + ((m.2 46) a))), .ref 219]) rfl ?_
                    obtain ⟨g236a, g236b⟩ := g236
                    have g243 : 0 ≤ m235.1 7 ∧ m235.1 7 ≤ 330 := Tm235.1 7
                    have g244 : 0 ≤ m235.1 8 ∧ m235.1 8 ≤ 4000 := Tm235.1 8
                    have g245 : 0 ≤ m235.1 9 ∧ m235.1 9 ≤ 4000 := Tm235.1 9
                    have g246 : 0 ≤ m235.1 10 ∧ m235.1 10 ≤ 8 := Tm235.1 10
                    have g247 : (-1) ≤ m235.1 11 ∧ m235.1 11 ≤ 4000 := Tm235.1 11
                    have g248 : (-9223372036854775808) ≤ m235.1 12 ∧ m235.1 12 ≤ 9223372036854775807 := Tm235.1 12
                    by_cases hf249 : (m235.1 10) = 0
                    · skip
                      replace h237 : LxP (m235.1 7) (m235.1 8) (m235.1 9) (m220.1 6) (m235.1 10) := h237
                      rewrite [(show (m220.1 6) = (m.1 6) from ((fr1 Fm220 6 rfl).trans ((fr1 Fm205 6 rfl).trans (fr1 Fm187 6 rfl))))] at h237
                      have hLx := h237
                      replace h238 : (m220.1 8) ≤ (m235.1 8) := h238
                      replace h239 : (m220.1 10) = 0 ∧ (m220.1 8) + (m220.1 9) ≤ (m235.1 8) := h239 hf249
                      replace h240 : (m220.1 7) = 2 := h240 hf249
                      replace h241 : (1 : Int) ≤ nu ∧ nu ≤ (64 : Int) := h241
                      replace h242 : nu = (m220.1 12) := h242 hf249
                      have u250 : (m.1 8) + 1 ≤ (m235.1 8) := by omega
                      clear g225 g226 g227 g228 g229 g230 h221 u232 h238 h239 h240 h242
                      have G251 : ∀ j, 0 ≤ (upI (m.2 49) ((4 * a) + ((m.2 46) a)) nu) j ∧ (upI (m.2 49) ((4 * a) + ((m.2 46) a)) nu) j ≤ 64 := upI_rg (hT.2.1 49) ⟨by omega, by omega⟩
                      refine T_iast (a' := [(49, upI (m.2 49) ((4 * a) + ((m.2 46) a)) nu)]) 154 49 (m.2 49) rfl rfl rfl (by omega) (show ((4 * a) + ((m.2 46) a)) < (64 : Int) by omega) (show (m235.2 49) = (m.2 49) from ((fr2 Fm235 49 rfl).trans ((fr2 Fm220 49 rfl).trans ((fr2 Fm205 49 rfl).trans (fr2 Fm187 49 rfl))))) rfl ?_
                      refine T_gf 158 (.ref 216) rfl rfl rfl rfl rfl rfl ?_
                      refine T_ld 159 (.int (i32 a)) rfl (fun _ => rfl) ?_
                      refine T_dup2 160 rfl (fun _ => rfl) ?_
                      refine T_iald 161 46 (m.2 46) rfl rfl rfl (by omega) (show a < (16 : Int) by omega) (show (m235.2 46) = (m.2 46) from ((fr2 Fm235 46 rfl).trans ((fr2 Fm220 46 rfl).trans ((fr2 Fm205 46 rfl).trans (fr2 Fm187 46 rfl))))) ?_
                      have e252 : 0 ≤ (m.2 46) a ∧ (m.2 46) a ≤ 4 := (hT.2.1 46) a
                      refine T_ld 162 (.int (i32 1)) rfl (fun _ => rfl) ?_
                      refine T_iadd 163 rfl rfl ?_
                      have G253 : ∀ j, 0 ≤ (upI (m.2 46) a (((m.2 46) a) + 1)) j ∧ (upI (m.2 46) a (((m.2 46) a) + 1)) j ≤ 4 := upI_rg (hT.2.1 46) ⟨by omega, by omega⟩
                      refine T_iast (a' := [(46, upI (m.2 46) a (((m.2 46) a) + 1)), (49, upI (m.2 49) ((4 * a) + ((m.2 46) a)) nu)]) 164 46 (m.2 46) rfl rfl rfl (by omega) (show a < (16 : Int) by omega) (show (m235.2 46) = (m.2 46) from ((fr2 Fm235 46 rfl).trans ((fr2 Fm220 46 rfl).trans ((fr2 Fm205 46 rfl).trans (fr2 Fm187 46 rfl))))) rfl ?_
                      refine T_ret rfl (fun _ => rfl) ?_
                      exact ⟨(mO m235 [] [(46, upI (m.2 46) a (((m.2 46) a) + 1)), (49, upI (m.2 49) ((4 * a) + ((m.2 46) a)) nu)]), (Ty_mO Tm235 rfl rfl trivial ⟨G253, G251, trivial⟩), (fr_m (fr_s Fm235 (fr_m (fr_s Fm220 (fr_m (fr_s Fm205 (fr_m (fr_s Fm187 (fr_m fr_0 rfl rfl) rfl rfl) rfl rfl) rfl rfl) rfl rfl) rfl rfl) rfl rfl) rfl rfl) rfl rfl), (show (m235.1 10) = 0 → (m.1 10) = 0 by omega), (show LxP (m235.1 7) (m235.1 8) (m235.1 9) (m.1 6) (m235.1 10) by first | (first | exact hLx | exact (fun _ => hLx (by omega)) | (intro h9; exfalso; omega)) | (exfalso; omega)), (show ∀ k, (m235.2 47) k + (m235.2 48) k ≤ 4000 by rewrite [(show (m235.2 47) = (upI (m.2 47) ((4 * a) + ((m.2 46) a)) (m.1 8)) from ((fr2 Fm235 47 rfl).trans ((fr2 Fm220 47 rfl).trans (fr2 Fm205 47 rfl)))), (show (m235.2 48) = (upI (m.2 48) ((4 * a) + ((m.2 46) a)) (m.1 9)) from ((fr2 Fm235 48 rfl).trans ((fr2 Fm220 48 rfl).trans (fr2 Fm205 48 rfl))))]; first | (first | exact hPA | (intro k; have := hPA0 k; have h7 := hLx0 hf0; unfold upI; split <;> omega)) | (exfalso; omega)), (fun _ => (show (m.1 8) + 1 ≤ (m235.1 8) by omega)), rfl⟩
                    · skip
                      replace h237 : LxP (m235.1 7) (m235.1 8) (m235.1 9) (m220.1 6) (m235.1 10) := h237
                      rewrite [(show (m220.1 6) = (m.1 6) from ((fr1 Fm220 6 rfl).trans ((fr1 Fm205 6 rfl).trans (fr1 Fm187 6 rfl))))] at h237
                      have hLx := h237
                      replace h238 : (m220.1 8) ≤ (m235.1 8) := h238
                      clear h239
                      clear h240
                      replace h241 : (1 : Int) ≤ nu ∧ nu ≤ (64 : Int) := h241
                      clear h242
                      have hf254 : 1 ≤ (m235.1 10) := by omega
                      clear g225 g226 g227 g228 g229 g230 h221 u232 h238
                      refine Tm_lv (a := [(0, .ref 189), (1, .int (i32 a))]) rfl rfl ⟨rfl, rfl, trivial⟩ ?_
                      exact J153_11 nu (mO m235 [] []) (r32 (by omega) (by omega)) Tm235 (fr_m (fr_s Fm235 (fr_m (fr_s Fm220 (fr_m (fr_s Fm205 (fr_m (fr_s Fm187 (fr_m fr_0 rfl rfl) rfl rfl) rfl rfl) rfl rfl) rfl rfl) rfl rfl) rfl rfl) rfl rfl) rfl rfl) (show 1 ≤ nu by omega) (show nu ≤ 64 by omega) (show ∀ k, (m235.2 47) k + (m235.2 48) k ≤ 4000 by rewrite [(show (m235.2 47) = (upI (m.2 47) ((4 * a) + ((m.2 46) a)) (m.1 8)) from ((fr2 Fm235 47 rfl).trans ((fr2 Fm220 47 rfl).trans (fr2 Fm205 47 rfl)))), (show (m235.2 48) = (upI (m.2 48) ((4 * a) + ((m.2 46) a)) (m.1 9)) from ((fr2 Fm235 48 rfl).trans ((fr2 Fm220 48 rfl).trans (fr2 Fm205 48 rfl))))]; first | exact hPA | (intro k; have := hPA0 k; have h7 := hLx0 hf0; unfold upI; split <;> omega)) (show (m.2 46) a ≤ 3 by omega) (show 0 ≤ (4 * a) + ((m.2 46) a) ∧ (4 * a) + ((m.2 46) a) ≤ 64 by omega) (show 1 ≤ (m235.1 10) by omega)
                  · skip
                    replace h221 : LxP (m220.1 7) (m220.1 8) (m220.1 9) (m205.1 6) (m220.1 10) := h221
                    rewrite [(show (m205.1 6) = (m.1 6) from ((fr1 Fm205 6 rfl).trans (fr1 Fm187 6 rfl)))] at h221
                    have hLx := h221
                    clear h222
                    replace h223 : (m205.1 8) ≤ (m220.1 8) := h223
                    clear h224
                    have hf255 : 1 ≤ (m220.1 10) := by omega
                    clear g210 g211 g212 g213 g214 g215 h206 h208 h209 u217 h223
                    refine Tm_lv (a := [(0, .ref 189), (1, .int (i32 a)), (2, .int (i32 ((4 * a) + ((m.2 46) a))))]) rfl rfl ⟨rfl, rfl, rfl, trivial⟩ ?_
                    exact J141_26 (mO m220 [] []) Tm220 (fr_m (fr_s Fm220 (fr_m (fr_s Fm205 (fr_m (fr_s Fm187 (fr_m fr_0 rfl rfl) rfl rfl) rfl rfl) rfl rfl) rfl rfl) rfl rfl) rfl rfl) (show ∀ k, (m220.2 47) k + (m220.2 48) k ≤ 4000 by rewrite [(show (m220.2 47) = (upI (m.2 47) ((4 * a) + ((m.2 46) a)) (m.1 8)) from ((fr2 Fm220 47 rfl).trans (fr2 Fm205 47 rfl))), (show (m220.2 48) = (upI (m.2 48) ((4 * a) + ((m.2 46) a)) (m.1 9)) from ((fr2 Fm220 48 rfl).trans (fr2 Fm205 48 rfl)))]; first | exact hPA | (intro k; have := hPA0 k; have h7 := hLx0 hf0; unfold upI; split <;> omega)) (show (m.2 46) a ≤ 3 by omega) (show 0 ≤ ((4 * a) + ((m.2 46) a)) ∧ ((4 * a) + ((m.2 46) a)) ≤ 64 by omega) (show 1 ≤ (m220.1 10) by omega)
                · skip
                  replace h206 : LxP (m205.1 7) (m205.1 8) (m205.1 9) (m187.1 6) (m205.1 10) := h206
                  rewrite [(show (m187.1 6) = (m.1 6) from (fr1 Fm187 6 rfl))] at h206
                  have hLx := h206
                  clear h207
                  replace h208 : (m187.1 8) ≤ (m205.1 8) := h208
                  rewrite [(show (m187.1 8) = (m.1 8) from (fr1 Fm187 8 rfl))] at h208
                  clear h209
                  have hf256 : 1 ≤ (m205.1 10) := by omega
                  clear q192_10 q192_11 h200
                  refine Tm_lv (a := [(0, .ref 189), (1, .int (i32 a)), (2, .int (i32 ((4 * a) + ((m.2 46) a))))]) rfl rfl ⟨rfl, rfl, rfl, trivial⟩ ?_
                  exact J135_52 (mO m205 [] []) Tm205 (fr_m (fr_s Fm205 (fr_m (fr_s Fm187 (fr_m fr_0 rfl rfl) rfl rfl) rfl rfl) rfl rfl) rfl rfl) (show ∀ k, (m205.2 47) k + (m205.2 48) k ≤ 4000 by rewrite [(show (m205.2 47) = (upI (m.2 47) ((4 * a) + ((m.2 46) a)) (m.1 8)) from (fr2 Fm205 47 rfl)), (show (m205.2 48) = (upI (m.2 48) ((4 * a) + ((m.2 46) a)) (m.1 9)) from (fr2 Fm205 48 rfl))]; first | exact hPA | (intro k; have := hPA0 k; have h7 := hLx0 hf0; unfold upI; split <;> omega)) (show (m.2 46) a ≤ 3 by omega) (show 0 ≤ ((4 * a) + ((m.2 46) a)) ∧ ((4 * a) + ((m.2 46) a)) ≤ 64 by omega) (show 1 ≤ (m205.1 10) by omega)
              · skip
                refine T_gf 66 (.int (i32 (m187.1 10))) rfl rfl rfl rfl rfl rfl ?_
                refine T_if 103 69 rfl rfl rfl (r32 (by omega) (by omega)) (fun (h257 : (m187.1 10) ≠ 0) => by exfalso; omega) (fun (h257 : ¬ ((m187.1 10) ≠ 0)) => ?_)
                have hp3 := hPA v186
                refine T_ld 70 (.ref 189) rfl (fun _ => rfl) ?_
                refine T_gf 74 (.ref 217) rfl rfl rfl rfl rfl rfl ?_
                refine T_ld 75 (.int (i32 v186)) rfl (fun _ => rfl) ?_
                refine T_iald 76 47 (m.2 47) rfl rfl rfl (by omega) (show v186 < (64 : Int) by omega) (show (m187.2 47) = (m.2 47) from (fr2 Fm187 47 rfl)) ?_
                have e258 : 0 ≤ (m.2 47) v186 ∧ (m.2 47) v186 ≤ 4000 := (hT.2.1 47) v186
                refine T_gf 80 (.ref 218) rfl rfl rfl rfl rfl rfl ?_
                refine T_ld 81 (.int (i32 v186)) rfl (fun _ => rfl) ?_
                refine T_iald 82 48 (m.2 48) rfl rfl rfl (by omega) (show v186 < (64 : Int) by omega) (show (m187.2 48) = (m.2 48) from (fr2 Fm187 48 rfl)) ?_
                have e259 : 0 ≤ (m.2 48) v186 ∧ (m.2 48) v186 ≤ 4000 := (hT.2.1 48) v186
                refine T_call 85 230 [.ref 189, .int (i32 ((m.2 47) v186)), .int (i32 ((m.2 48) v186))] [] rfl (fun _ => rfl) rfl (d_isHere w (mO m187 [] []) c N D (by omega) Tm187 ((m.2 47) v186) ((m.2 48) v186) (r32 (by omega) (by omega)) (r32 (by omega) (by omega)) (show 0 ≤ ((m.2 47) v186) by omega) (show 0 ≤ ((m.2 48) v186) by omega) (show ((m.2 47) v186) + ((m.2 48) v186) ≤ 4000 by omega) (show 1 ≤ (m187.1 9) ∧ (m187.1 8) + (m187.1 9) ≤ (m187.1 6) by rewrite [(show (m187.1 9) = (m.1 9) from (fr1 Fm187 9 rfl)), (show (m187.1 8) = (m.1 8) from (fr1 Fm187 8 rfl)), (show (m187.1 6) = (m.1 6) from (fr1 Fm187 6 rfl))]; first | omega | (have h8 := hLx (by omega); omega))) (fun rr260 k261 => ?_)
                obtain ⟨x262, g263, h264, rfl⟩ := k261
                refine ⟨_, _, rfl, ?_⟩
                refine T_ns (st' := [.int (i32 x262)]) rfl ?_
                obtain ⟨g263a, g263b⟩ := g263
                replace h264 : (x262 = 1 ∧ sameN (m187.2 4) (m187.1 8) (m187.1 9) ((m.2 47) v186) ((m.2 48) v186)) ∨ (x262 = 0 ∧ ¬ sameN (m187.2 4) (m187.1 8) (m187.1 9) ((m.2 47) v186) ((m.2 48) v186)) := h264
                rewrite [(show (m187.2 4) = (m.2 4) from (fr2 Fm187 4 rfl)), (show (m187.1 8) = (m.1 8) from (fr1 Fm187 8 rfl)), (show (m187.1 9) = (m.1 9) from (fr1 Fm187 9 rfl))] at h264
                have hh := h264
                have u265 : (m.1 8) ≤ (m.1 8) := by omega
                refine T_if 97 88 rfl rfl rfl (r32 (by omega) (by omega)) (fun (h266 : x262 = 0) => ?_) (fun (h266 : ¬ (x262 = 0)) => ?_)
                · skip
                  refine T_iinc 100 [(3, .int (i32 (v186 + 1))), (0, .ref 189), (1, .int (i32 a)), (2, .int (i32 ((4 * a) + ((m.2 46) a))))] rfl rfl (by decide) rfl rfl ?_
                  refine T_goto 57 rfl (fun _ => rfl) ?_
                  refine Tm_lv (a := [(0, .ref 189), (1, .int (i32 a)), (2, .int (i32 ((4 * a) + ((m.2 46) a)))), (3, .int (i32 (v186 + 1)))]) rfl rfl ⟨rfl, rfl, rfl, rfl, trivial⟩ ?_
                  exact ih195 (v186 + 1) (mO m187 [] []) (r32 (by omega) (by omega)) Tm187 (fr_m (fr_s Fm187 (fr_m fr_0 rfl rfl) rfl rfl) rfl rfl) (show 0 ≤ (v186 + 1) by omega) (show (v186 + 1) ≤ (4 * a) + ((m.2 46) a) by omega) (fun _ => ⟨(show (m.1 7) = 1 by omega), (show (m.2 46) a ≤ 3 by omega)⟩) (show ((4 * a) + ((m.2 46) a)) - (v186 + 1) < (n194 : Int) by omega)
                · skip
                  refine T_ld 89 (.ref 189) rfl (fun _ => rfl) ?_
                  refine T_ld 90 (.int (i32 3)) rfl (fun _ => rfl) ?_
                  refine T_gf 94 (.int (i32 (m.1 8))) rfl rfl rfl rfl (mfv_c (F := fun x => .int (i32 x)) rfl (show (m187.1 8) = (m.1 8) from (fr1 Fm187 8 rfl))) rfl ?_
                  refine T_call 97 222 [.ref 189, .int (i32 3), .int (i32 (m.1 8))] [] rfl (fun _ => rfl) rfl (d_wrong w (mO m187 [] []) c N D (by omega) Tm187 3 (m.1 8) ⟨by decide, by decide⟩ (r32 (by omega) (by omega)) (show 1 ≤ (3 : Int) ∧ (3 : Int) ≤ 8 by omega) (show 0 ≤ (m.1 8) ∧ (m.1 8) ≤ 4000 by omega)) (fun rr267 k268 => ?_)
                  obtain ⟨m269, Tm269, Fm269, h270, rfl⟩ := k268
                  refine ⟨_, _, rfl, ?_⟩
                  refine T_nb (st' := []) rfl ?_
                  have g271 : 0 ≤ m269.1 10 ∧ m269.1 10 ≤ 8 := Tm269.1 10
                  have g272 : (-1) ≤ m269.1 11 ∧ m269.1 11 ≤ 4000 := Tm269.1 11
                  replace h270 : (0 < (m187.1 10) → (m269.1 10) = (m187.1 10) ∧ (m269.1 11) = (m187.1 11)) ∧ ((m187.1 10) ≤ 0 → (m269.1 10) = (3 : Int) ∧ (m269.1 11) = (m.1 8)) := h270
                  have hf273 : 1 ≤ (m269.1 10) := by omega
                  clear q192_10 q192_11 h257 g263a g263b h264 h266 h270
                  exact J97_76 v186 (mO m269 [] []) (r32 (by omega) (by omega)) Tm269 (fr_m (fr_s Fm269 (fr_m (fr_s Fm187 (fr_m fr_0 rfl rfl) rfl rfl) rfl rfl) rfl rfl) rfl rfl) (show 0 ≤ v186 by omega) (show v186 ≤ 63 by omega) (show ∀ k, (m.2 47) k + (m.2 48) k ≤ 4000 by first | exact hPA | (intro k; have := hPA0 k; have h7 := hLx0 hf0; unfold upI; split <;> omega)) (show v186 < ((4 * a) + ((m.2 46) a)) by omega) (show 1 ≤ ((4 * a) + ((m.2 46) a)) ∧ ((4 * a) + ((m.2 46) a)) ≤ 64 by omega) (show 1 ≤ (m269.1 10) by omega)
            · skip
              clear c193
              have hf274 : 1 ≤ (m187.1 10) := by omega
              refine T_ld 58 (.int (i32 v186)) rfl (fun _ => rfl) ?_
              refine T_ld 59 (.int (i32 ((4 * a) + ((m.2 46) a)))) rfl (fun _ => rfl) ?_
              refine T_icmp 103 62 rfl rfl rfl (r32 (by omega) (by omega)) (r32 (by omega) (by omega)) (fun (h275 : (4 * a) + ((m.2 46) a) ≤ v186) => ?_) (fun (h275 : ¬ ((4 * a) + ((m.2 46) a) ≤ v186)) => ?_)
              · skip
                refine T_gf 107 (.int (i32 (m187.1 10))) rfl rfl rfl rfl rfl rfl ?_
                refine T_if 111 110 rfl rfl rfl (r32 (by omega) (by omega)) (fun (h276 : (m187.1 10) ≤ 0) => by exfalso; omega) (fun (h276 : ¬ ((m187.1 10) ≤ 0)) => ?_)
                refine T_ret rfl (fun _ => rfl) ?_
                exact ⟨(mO m187 [] []), Tm187, (fr_m (fr_s Fm187 (fr_m fr_0 rfl rfl) rfl rfl) rfl rfl), (show (m187.1 10) = 0 → (m.1 10) = 0 by omega), (show LxP (m187.1 7) (m187.1 8) (m187.1 9) (m.1 6) (m187.1 10) by rewrite [(show (m187.1 7) = (m.1 7) from (fr1 Fm187 7 rfl)), (show (m187.1 8) = (m.1 8) from (fr1 Fm187 8 rfl)), (show (m187.1 9) = (m.1 9) from (fr1 Fm187 9 rfl))]; first | (first | exact hLx | exact (fun _ => hLx (by omega)) | (intro h9; exfalso; omega)) | (exfalso; omega)), (show ∀ k, (m187.2 47) k + (m187.2 48) k ≤ 4000 by rewrite [(show (m187.2 47) = (m.2 47) from (fr2 Fm187 47 rfl)), (show (m187.2 48) = (m.2 48) from (fr2 Fm187 48 rfl))]; first | (first | exact hPA | (intro k; have := hPA0 k; have h7 := hLx0 hf0; unfold upI; split <;> omega)) | (exfalso; omega)), (fun (h : (m187.1 10) = 0) => absurd h (by omega)), rfl⟩
              · skip
                refine T_gf 66 (.int (i32 (m187.1 10))) rfl rfl rfl rfl rfl rfl ?_
                refine T_if 103 69 rfl rfl rfl (r32 (by omega) (by omega)) (fun (h277 : (m187.1 10) ≠ 0) => ?_) (fun (h277 : ¬ ((m187.1 10) ≠ 0)) => by exfalso; omega)
                refine T_gf 107 (.int (i32 (m187.1 10))) rfl rfl rfl rfl rfl rfl ?_
                refine T_if 111 110 rfl rfl rfl (r32 (by omega) (by omega)) (fun (h278 : (m187.1 10) ≤ 0) => by exfalso; omega) (fun (h278 : ¬ ((m187.1 10) ≤ 0)) => ?_)
                refine T_ret rfl (fun _ => rfl) ?_
                exact ⟨(mO m187 [] []), Tm187, (fr_m (fr_s Fm187 (fr_m fr_0 rfl rfl) rfl rfl) rfl rfl), (show (m187.1 10) = 0 → (m.1 10) = 0 by omega), (show LxP (m187.1 7) (m187.1 8) (m187.1 9) (m.1 6) (m187.1 10) by rewrite [(show (m187.1 7) = (m.1 7) from (fr1 Fm187 7 rfl)), (show (m187.1 8) = (m.1 8) from (fr1 Fm187 8 rfl)), (show (m187.1 9) = (m.1 9) from (fr1 Fm187 9 rfl))]; first | (first | exact hLx | exact (fun _ => hLx (by omega)) | (intro h9; exfalso; omega)) | (exfalso; omega)), (show ∀ k, (m187.2 47) k + (m187.2 48) k ≤ 4000 by rewrite [(show (m187.2 47) = (m.2 47) from (fr2 Fm187 47 rfl)), (show (m187.2 48) = (m.2 48) from (fr2 Fm187 48 rfl))]; first | (first | exact hPA | (intro k; have := hPA0 k; have h7 := hLx0 hf0; unfold upI; split <;> omega)) | (exfalso; omega)), (fun (h : (m187.1 10) = 0) => absurd h (by omega)), rfl⟩
        refine Tm_lv (a := [(0, .ref 189), (1, .int (i32 a)), (2, .int (i32 ((4 * a) + ((m.2 46) a)))), (3, .int (i32 (4 * a)))]) rfl rfl ⟨rfl, rfl, rfl, rfl, trivial⟩ ?_
        exact L57_188 ((((4 * a) + ((m.2 46) a)) - (4 * a) : Int) + 1).toNat (4 * a) (mO m [] []) (r32 (by omega) (by omega)) hT (fr_m fr_0 rfl rfl) (show 0 ≤ (4 * a) by omega) (show (4 * a) ≤ (4 * a) + ((m.2 46) a) by omega) (fun _ => ⟨(show (m.1 7) = 1 by omega), (show (m.2 46) a ≤ 3 by omega)⟩) (show ((4 * a) + ((m.2 46) a)) - (4 * a) < ((((((4 * a) + ((m.2 46) a)) - (4 * a) : Int) + 1).toNat : Nat) : Int) by omega)
      · skip
        refine T_ld 45 (.ref 189) rfl (fun _ => rfl) ?_
        refine T_ld 46 (.int (i32 4)) rfl (fun _ => rfl) ?_
        refine T_gf 50 (.int (i32 (m.1 8))) rfl rfl rfl rfl rfl rfl ?_
        refine T_call 53 222 [.ref 189, .int (i32 4), .int (i32 (m.1 8))] [] rfl (fun _ => rfl) rfl (d_wrong w (mO m [] []) c N D (by omega) hT 4 (m.1 8) ⟨by decide, by decide⟩ (r32 (by omega) (by omega)) (show 1 ≤ (4 : Int) ∧ (4 : Int) ≤ 8 by omega) (show 0 ≤ (m.1 8) ∧ (m.1 8) ≤ 4000 by omega)) (fun rr279 k280 => ?_)
        obtain ⟨m281, Tm281, Fm281, h282, rfl⟩ := k280
        refine ⟨_, _, rfl, ?_⟩
        refine T_nb (st' := []) rfl ?_
        have g283 : 0 ≤ m281.1 10 ∧ m281.1 10 ≤ 8 := Tm281.1 10
        have g284 : (-1) ≤ m281.1 11 ∧ m281.1 11 ≤ 4000 := Tm281.1 11
        replace h282 : (0 < (m.1 10) → (m281.1 10) = (m.1 10) ∧ (m281.1 11) = (m.1 11)) ∧ ((m.1 10) ≤ 0 → (m281.1 10) = (4 : Int) ∧ (m281.1 11) = (m.1 8)) := h282
        have hf285 : 1 ≤ (m281.1 10) := by omega
        refine T_ld 54 (.int (i32 4)) rfl (fun _ => rfl) ?_
        refine T_ld 55 (.int (i32 a)) rfl (fun _ => rfl) ?_
        refine T_imul 56 rfl rfl ?_
        refine T_sto 57 [(3, .int (i32 (4 * a))), (2, .int (i32 ((4 * a) + ((m.2 46) a)))), (0, .ref 189), (1, .int (i32 a))] rfl (fun _ => rfl) ?_
        have L57_288 : ∀ (n294 : Nat) (v286 : Int) (m287 : mR), (R32 v286) → Ty m287 → fr [10, 11] [] (mO m281 [] []) m287 → (0 ≤ v286) → (v286 ≤ (4 * a) + ((m.2 46) a)) → ((m287.1 10) = 0 → ((m.1 7) = 1) ∧ ((m.2 46) a ≤ 3)) → ((4 * a) + ((m.2 46) a)) - v286 < (n294 : Int) → TT w D pm_268 (57, [(0, .ref 189), (1, .int (i32 a)), (2, .int (i32 ((4 * a) + ((m.2 46) a)))), (3, .int (i32 v286))], [], (mhp (mO m287 [] []) c, N), 0, 0) (Q_takeParameter m c N a) := by
          intro n294
          induction n294 with
          | zero =>
            intro v286 m287 q291 Tm287 Fm287 ic289 ic290 c293 hmu
            obtain ⟨q291a, q291b⟩ := id q291
            have q292_10 : 0 ≤ m287.1 10 ∧ m287.1 10 ≤ 8 := Tm287.1 10
            have q292_11 : (-1) ≤ m287.1 11 ∧ m287.1 11 ≤ 4000 := Tm287.1 11
            exfalso
            omega
          | succ n294 ih =>
            intro v286 m287 q291 Tm287 Fm287 ic289 ic290 c293 hmu
            obtain ⟨q291a, q291b⟩ := id q291
            have q292_10 : 0 ≤ m287.1 10 ∧ m287.1 10 ≤ 8 := Tm287.1 10
            have q292_11 : (-1) ≤ m287.1 11 ∧ m287.1 11 ≤ 4000 := Tm287.1 11
            have ih295 := ih
            by_cases hf296 : (m287.1 10) = 0
            · skip
              obtain ⟨c297, c298⟩ := c293 hf296
              clear c293
              refine T_ld 58 (.int (i32 v286)) rfl (fun _ => rfl) ?_
              refine T_ld 59 (.int (i32 ((4 * a) + ((m.2 46) a)))) rfl (fun _ => rfl) ?_
              refine T_icmp 103 62 rfl rfl rfl (r32 (by omega) (by omega)) (r32 (by omega) (by omega)) (fun (h299 : (4 * a) + ((m.2 46) a) ≤ v286) => ?_) (fun (h299 : ¬ ((4 * a) + ((m.2 46) a) ≤ v286)) => ?_)
              · skip
                refine T_gf 107 (.int (i32 (m287.1 10))) rfl rfl rfl rfl rfl rfl ?_
                refine T_if 111 110 rfl rfl rfl (r32 (by omega) (by omega)) (fun (h300 : (m287.1 10) ≤ 0) => ?_) (fun (h300 : ¬ ((m287.1 10) ≤ 0)) => by exfalso; omega)
                refine T_gf 115 (.ref 217) rfl rfl rfl rfl rfl rfl ?_
                refine T_ld 116 (.int (i32 ((4 * a) + ((m.2 46) a)))) rfl (fun _ => rfl) ?_
                refine T_gf 120 (.int (i32 (m.1 8))) rfl rfl rfl rfl (mfv_c (F := fun x => .int (i32 x)) rfl (show (m287.1 8) = (m.1 8) from ((fr1 Fm287 8 rfl).trans (fr1 Fm281 8 rfl)))) rfl ?_
                have G301 : ∀ j, 0 ≤ (upI (m.2 47) ((4 * a) + ((m.2 46) a)) (m.1 8)) j ∧ (upI (m.2 47) ((4 * a) + ((m.2 46) a)) (m.1 8)) j ≤ 4000 := upI_rg (hT.2.1 47) ⟨by omega, by omega⟩
                refine T_iast (a' := [(47, upI (m.2 47) ((4 * a) + ((m.2 46) a)) (m.1 8))]) 121 47 (m.2 47) rfl rfl rfl (by omega) (show ((4 * a) + ((m.2 46) a)) < (64 : Int) by omega) (show (m287.2 47) = (m.2 47) from ((fr2 Fm287 47 rfl).trans (fr2 Fm281 47 rfl))) rfl ?_
                refine T_gf 125 (.ref 218) rfl rfl rfl rfl rfl rfl ?_
                refine T_ld 126 (.int (i32 ((4 * a) + ((m.2 46) a)))) rfl (fun _ => rfl) ?_
                refine T_gf 130 (.int (i32 (m.1 9))) rfl rfl rfl rfl (mfv_c (F := fun x => .int (i32 x)) rfl (show (m287.1 9) = (m.1 9) from ((fr1 Fm287 9 rfl).trans (fr1 Fm281 9 rfl)))) rfl ?_
                have G302 : ∀ j, 0 ≤ (upI (m.2 48) ((4 * a) + ((m.2 46) a)) (m.1 9)) j ∧ (upI (m.2 48) ((4 * a) + ((m.2 46) a)) (m.1 9)) j ≤ 4000 := upI_rg (hT.2.1 48) ⟨by omega, by omega⟩
                refine T_iast (a' := [(47, upI (m.2 47) ((4 * a) + ((m.2 46) a)) (m.1 8)), (48, upI (m.2 48) ((4 * a) + ((m.2 46) a)) (m.1 9))]) 131 48 (m.2 48) rfl rfl rfl (by omega) (show ((4 * a) + ((m.2 46) a)) < (64 : Int) by omega) (show (m287.2 48) = (m.2 48) from ((fr2 Fm287 48 rfl).trans (fr2 Fm281 48 rfl))) rfl ?_
                have hLx : LxP (m.1 7) (m.1 8) (m.1 9) (m.1 6) (m287.1 10) := fun _ => hLx0 (by omega)
                refine T_ld 132 (.ref 189) rfl (fun _ => rfl) ?_
                refine T_call 135 212 [.ref 189] [] rfl (fun _ => rfl) rfl (d_next w (mO m287 [] [(47, upI (m.2 47) ((4 * a) + ((m.2 46) a)) (m.1 8)), (48, upI (m.2 48) ((4 * a) + ((m.2 46) a)) (m.1 9))]) c N D (by omega) (Ty_mO Tm287 rfl rfl trivial ⟨G301, G302, trivial⟩) (show (m287.1 10) = 0 → (m287.1 8) + (m287.1 9) ≤ (m287.1 6) by rewrite [(show (m287.1 8) = (m.1 8) from ((fr1 Fm287 8 rfl).trans (fr1 Fm281 8 rfl))), (show (m287.1 9) = (m.1 9) from ((fr1 Fm287 9 rfl).trans (fr1 Fm281 9 rfl))), (show (m287.1 6) = (m.1 6) from ((fr1 Fm287 6 rfl).trans (fr1 Fm281 6 rfl)))]; first | omega | (intro h9; have h8 := hLx h9; omega))) (fun rr303 k304 => ?_)
                obtain ⟨m305, Tm305, Fm305, h306, h307, h308, h309, rfl⟩ := k304
                refine ⟨_, _, rfl, ?_⟩
                refine T_nb (st' := []) rfl ?_
                have g310 : 0 ≤ m305.1 7 ∧ m305.1 7 ≤ 330 := Tm305.1 7
                have g311 : 0 ≤ m305.1 8 ∧ m305.1 8 ≤ 4000 := Tm305.1 8
                have g312 : 0 ≤ m305.1 9 ∧ m305.1 9 ≤ 4000 := Tm305.1 9
                have g313 : 0 ≤ m305.1 10 ∧ m305.1 10 ≤ 8 := Tm305.1 10
                have g314 : (-1) ≤ m305.1 11 ∧ m305.1 11 ≤ 4000 := Tm305.1 11
                have g315 : (-9223372036854775808) ≤ m305.1 12 ∧ m305.1 12 ≤ 9223372036854775807 := Tm305.1 12
                by_cases hf316 : (m305.1 10) = 0
                · skip
                  replace h306 : LxP (m305.1 7) (m305.1 8) (m305.1 9) (m287.1 6) (m305.1 10) := h306
                  rewrite [(show (m287.1 6) = (m.1 6) from ((fr1 Fm287 6 rfl).trans (fr1 Fm281 6 rfl)))] at h306
                  have hLx := h306
                  replace h307 : (m287.1 10) = 0 := h307 hf316
                  replace h308 : (m287.1 8) ≤ (m305.1 8) := h308
                  rewrite [(show (m287.1 8) = (m.1 8) from ((fr1 Fm287 8 rfl).trans (fr1 Fm281 8 rfl)))] at h308
                  replace h309 : (m287.1 8) + (m287.1 9) ≤ (m305.1 8) := h309 hf316
                  rewrite [(show (m287.1 8) = (m.1 8) from ((fr1 Fm287 8 rfl).trans (fr1 Fm281 8 rfl))), (show (m287.1 9) = (m.1 9) from ((fr1 Fm287 9 rfl).trans (fr1 Fm281 9 rfl)))] at h309
                  have u317 : (m.1 8) + 1 ≤ (m305.1 8) := by omega
                  clear g283 g284 hf285 h282 q292_10 q292_11 h300 h307
                  refine T_ld 136 (.ref 189) rfl (fun _ => rfl) ?_
                  refine T_ld 138 (.int (i32 58)) rfl (fun _ => rfl) ?_
                  refine T_call 141 232 [.ref 189, .int (i32 58)] [] rfl (fun _ => rfl) rfl (d_need w (mO m305 [] []) c N D (by omega) Tm305 58 ⟨by decide, by decide⟩ (show 1 ≤ (58 : Int) by omega) (show LxP (m305.1 7) (m305.1 8) (m305.1 9) (m305.1 6) (m305.1 10) by rewrite [(show (m305.1 6) = (m.1 6) from ((fr1 Fm305 6 rfl).trans ((fr1 Fm287 6 rfl).trans (fr1 Fm281 6 rfl))))]; first | exact hLx | (intro h9; exfalso; omega) | (intro h9; have h8 := hLx (by omega); omega))) (fun rr318 k319 => ?_)
                  obtain ⟨m320, Tm320, Fm320, h321, h322, h323, h324, rfl⟩ := k319
                  refine ⟨_, _, rfl, ?_⟩
                  refine T_nb (st' := []) rfl ?_
                  have g325 : 0 ≤ m320.1 7 ∧ m320.1 7 ≤ 330 := Tm320.1 7
                  have g326 : 0 ≤ m320.1 8 ∧ m320.1 8 ≤ 4000 := Tm320.1 8
                  have g327 : 0 ≤ m320.1 9 ∧ m320.1 9 ≤ 4000 := Tm320.1 9
                  have g328 : 0 ≤ m320.1 10 ∧ m320.1 10 ≤ 8 := Tm320.1 10
                  have g329 : (-1) ≤ m320.1 11 ∧ m320.1 11 ≤ 4000 := Tm320.1 11
                  have g330 : (-9223372036854775808) ≤ m320.1 12 ∧ m320.1 12 ≤ 9223372036854775807 := Tm320.1 12
                  by_cases hf331 : (m320.1 10) = 0
                  · skip
                    replace h321 : LxP (m320.1 7) (m320.1 8) (m320.1 9) (m305.1 6) (m320.1 10) := h321
                    rewrite [(show (m305.1 6) = (m.1 6) from ((fr1 Fm305 6 rfl).trans ((fr1 Fm287 6 rfl).trans (fr1 Fm281 6 rfl))))] at h321
                    have hLx := h321
                    replace h322 : (m305.1 10) = 0 ∧ (m305.1 7) = (58 : Int) := h322 hf331
                    replace h323 : (m305.1 8) ≤ (m320.1 8) := h323
                    replace h324 : (m305.1 8) + (m305.1 9) ≤ (m320.1 8) := h324 hf331
                    have u332 : (m.1 8) + 1 ≤ (m320.1 8) := by omega
                    clear g310 g311 g312 g313 g314 g315 h306 h308 h309 u317 h322 h323 h324
                    refine T_gf 145 (.ref 219) rfl rfl rfl rfl rfl rfl ?_
                    refine T_ld 146 (.int (i32 ((4 * a) + ((m.2 46) a)))) rfl (fun _ => rfl) ?_
                    refine T_ld 147 (.ref 189) rfl (fun _ => rfl) ?_
                    refine T_ld 148 (.int (i32 1)) rfl (fun _ => rfl) ?_
                    refine T_ld 150 (.int (i32 64)) rfl (fun _ => rfl) ?_
                    refine T_call 153 234 [.ref 189, .int (i32 1), .int (i32 64)] [.int (i32 ((4 * a) + ((m.2 46) a))), .ref 219] rfl (fun _ => rfl) rfl (d_number w (mO m320 [] []) c N D (by omega) Tm320 1 64 ⟨by decide, by decide⟩ ⟨by decide, by decide⟩ (show LxP (m320.1 7) (m320.1 8) (m320.1 9) (m320.1 6) (m320.1 10) by rewrite [(show (m320.1 6) = (m.1 6) from ((fr1 Fm320 6 rfl).trans ((fr1 Fm305 6 rfl).trans ((fr1 Fm287 6 rfl).trans (fr1 Fm281 6 rfl)))))]; first | exact hLx | (intro h9; exfalso; omega) | (intro h9; have h8 := hLx (by omega); omega)) (show (1 : Int) ≤ (64 : Int) by omega)) (fun rr333 k334 => ?_)
                    obtain ⟨m335, nu, Tm335, Fm335, g336, h337, h338, h339, h340, h341, h342, rfl⟩ := k334
                    refine ⟨_, _, rfl, ?_⟩
                    refine T_nb (st' := [.int (i32 nu), .int (i32 ((4 * a) + ((m.2 46) a))), .ref 219]) rfl ?_
                    obtain ⟨g336a, g336b⟩ := g336
                    have g343 : 0 ≤ m335.1 7 ∧ m335.1 7 ≤ 330 := Tm335.1 7
                    have g344 : 0 ≤ m335.1 8 ∧ m335.1 8 ≤ 4000 := Tm335.1 8
                    have g345 : 0 ≤ m335.1 9 ∧ m335.1 9 ≤ 4000 := Tm335.1 9
                    have g346 : 0 ≤ m335.1 10 ∧ m335.1 10 ≤ 8 := Tm335.1 10
                    have g347 : (-1) ≤ m335.1 11 ∧ m335.1 11 ≤ 4000 := Tm335.1 11
                    have g348 : (-9223372036854775808) ≤ m335.1 12 ∧ m335.1 12 ≤ 9223372036854775807 := Tm335.1 12
                    by_cases hf349 : (m335.1 10) = 0
                    · skip
                      replace h337 : LxP (m335.1 7) (m335.1 8) (m335.1 9) (m320.1 6) (m335.1 10) := h337
                      rewrite [(show (m320.1 6) = (m.1 6) from ((fr1 Fm320 6 rfl).trans ((fr1 Fm305 6 rfl).trans ((fr1 Fm287 6 rfl).trans (fr1 Fm281 6 rfl)))))] at h337
                      have hLx := h337
                      replace h338 : (m320.1 8) ≤ (m335.1 8) := h338
                      replace h339 : (m320.1 10) = 0 ∧ (m320.1 8) + (m320.1 9) ≤ (m335.1 8) := h339 hf349
                      replace h340 : (m320.1 7) = 2 := h340 hf349
                      replace h341 : (1 : Int) ≤ nu ∧ nu ≤ (64 : Int) := h341
                      replace h342 : nu = (m320.1 12) := h342 hf349
                      have u350 : (m.1 8) + 1 ≤ (m335.1 8) := by omega
                      clear g325 g326 g327 g328 g329 g330 h321 u332 h338 h339 h340 h342
                      have G351 : ∀ j, 0 ≤ (upI (m.2 49) ((4 * a) + ((m.2 46) a)) nu) j ∧ (upI (m.2 49) ((4 * a) + ((m.2 46) a)) nu) j ≤ 64 := upI_rg (hT.2.1 49) ⟨by omega, by omega⟩
                      refine T_iast (a' := [(49, upI (m.2 49) ((4 * a) + ((m.2 46) a)) nu)]) 154 49 (m.2 49) rfl rfl rfl (by omega) (show ((4 * a) + ((m.2 46) a)) < (64 : Int) by omega) (show (m335.2 49) = (m.2 49) from ((fr2 Fm335 49 rfl).trans ((fr2 Fm320 49 rfl).trans ((fr2 Fm305 49 rfl).trans ((fr2 Fm287 49 rfl).trans (fr2 Fm281 49 rfl)))))) rfl ?_
                      refine T_gf 158 (.ref 216) rfl rfl rfl rfl rfl rfl ?_
                      refine T_ld 159 (.int (i32 a)) rfl (fun _ => rfl) ?_
                      refine T_dup2 160 rfl (fun _ => rfl) ?_
                      refine T_iald 161 46 (m.2 46) rfl rfl rfl (by omega) (show a < (16 : Int) by omega) (show (m335.2 46) = (m.2 46) from ((fr2 Fm335 46 rfl).trans ((fr2 Fm320 46 rfl).trans ((fr2 Fm305 46 rfl).trans ((fr2 Fm287 46 rfl).trans (fr2 Fm281 46 rfl)))))) ?_
                      have e352 : 0 ≤ (m.2 46) a ∧ (m.2 46) a ≤ 4 := (hT.2.1 46) a
                      refine T_ld 162 (.int (i32 1)) rfl (fun _ => rfl) ?_
                      refine T_iadd 163 rfl rfl ?_
                      have G353 : ∀ j, 0 ≤ (upI (m.2 46) a (((m.2 46) a) + 1)) j ∧ (upI (m.2 46) a (((m.2 46) a) + 1)) j ≤ 4 := upI_rg (hT.2.1 46) ⟨by omega, by omega⟩
                      refine T_iast (a' := [(46, upI (m.2 46) a (((m.2 46) a) + 1)), (49, upI (m.2 49) ((4 * a) + ((m.2 46) a)) nu)]) 164 46 (m.2 46) rfl rfl rfl (by omega) (show a < (16 : Int) by omega) (show (m335.2 46) = (m.2 46) from ((fr2 Fm335 46 rfl).trans ((fr2 Fm320 46 rfl).trans ((fr2 Fm305 46 rfl).trans ((fr2 Fm287 46 rfl).trans (fr2 Fm281 46 rfl)))))) rfl ?_
                      refine T_ret rfl (fun _ => rfl) ?_
                      exact ⟨(mO m335 [] [(46, upI (m.2 46) a (((m.2 46) a) + 1)), (49, upI (m.2 49) ((4 * a) + ((m.2 46) a)) nu)]), (Ty_mO Tm335 rfl rfl trivial ⟨G353, G351, trivial⟩), (fr_m (fr_s Fm335 (fr_m (fr_s Fm320 (fr_m (fr_s Fm305 (fr_m (fr_s Fm287 (fr_m (fr_s Fm281 (fr_m fr_0 rfl rfl) rfl rfl) rfl rfl) rfl rfl) rfl rfl) rfl rfl) rfl rfl) rfl rfl) rfl rfl) rfl rfl) rfl rfl), (show (m335.1 10) = 0 → (m.1 10) = 0 by omega), (show LxP (m335.1 7) (m335.1 8) (m335.1 9) (m.1 6) (m335.1 10) by first | (first | exact hLx | exact (fun _ => hLx (by omega)) | (intro h9; exfalso; omega)) | (exfalso; omega)), (show ∀ k, (m335.2 47) k + (m335.2 48) k ≤ 4000 by rewrite [(show (m335.2 47) = (upI (m.2 47) ((4 * a) + ((m.2 46) a)) (m.1 8)) from ((fr2 Fm335 47 rfl).trans ((fr2 Fm320 47 rfl).trans (fr2 Fm305 47 rfl)))), (show (m335.2 48) = (upI (m.2 48) ((4 * a) + ((m.2 46) a)) (m.1 9)) from ((fr2 Fm335 48 rfl).trans ((fr2 Fm320 48 rfl).trans (fr2 Fm305 48 rfl))))]; first | (first | exact hPA | (intro k; have := hPA0 k; have h7 := hLx0 hf0; unfold upI; split <;> omega)) | (exfalso; omega)), (fun _ => (show (m.1 8) + 1 ≤ (m335.1 8) by omega)), rfl⟩
                    · skip
                      replace h337 : LxP (m335.1 7) (m335.1 8) (m335.1 9) (m320.1 6) (m335.1 10) := h337
                      rewrite [(show (m320.1 6) = (m.1 6) from ((fr1 Fm320 6 rfl).trans ((fr1 Fm305 6 rfl).trans ((fr1 Fm287 6 rfl).trans (fr1 Fm281 6 rfl)))))] at h337
                      have hLx := h337
                      replace h338 : (m320.1 8) ≤ (m335.1 8) := h338
                      clear h339
                      clear h340
                      replace h341 : (1 : Int) ≤ nu ∧ nu ≤ (64 : Int) := h341
                      clear h342
                      have hf354 : 1 ≤ (m335.1 10) := by omega
                      clear g325 g326 g327 g328 g329 g330 h321 u332 h338
                      refine Tm_lv (a := [(0, .ref 189), (1, .int (i32 a))]) rfl rfl ⟨rfl, rfl, trivial⟩ ?_
                      exact J153_11 nu (mO m335 [] []) (r32 (by omega) (by omega)) Tm335 (fr_m (fr_s Fm335 (fr_m (fr_s Fm320 (fr_m (fr_s Fm305 (fr_m (fr_s Fm287 (fr_m (fr_s Fm281 (fr_m fr_0 rfl rfl) rfl rfl) rfl rfl) rfl rfl) rfl rfl) rfl rfl) rfl rfl) rfl rfl) rfl rfl) rfl rfl) rfl rfl) (show 1 ≤ nu by omega) (show nu ≤ 64 by omega) (show ∀ k, (m335.2 47) k + (m335.2 48) k ≤ 4000 by rewrite [(show (m335.2 47) = (upI (m.2 47) ((4 * a) + ((m.2 46) a)) (m.1 8)) from ((fr2 Fm335 47 rfl).trans ((fr2 Fm320 47 rfl).trans (fr2 Fm305 47 rfl)))), (show (m335.2 48) = (upI (m.2 48) ((4 * a) + ((m.2 46) a)) (m.1 9)) from ((fr2 Fm335 48 rfl).trans ((fr2 Fm320 48 rfl).trans (fr2 Fm305 48 rfl))))]; first | exact hPA | (intro k; have := hPA0 k; have h7 := hLx0 hf0; unfold upI; split <;> omega)) (show (m.2 46) a ≤ 3 by omega) (show 0 ≤ (4 * a) + ((m.2 46) a) ∧ (4 * a) + ((m.2 46) a) ≤ 64 by omega) (show 1 ≤ (m335.1 10) by omega)
                  · skip
                    replace h321 : LxP (m320.1 7) (m320.1 8) (m320.1 9) (m305.1 6) (m320.1 10) := h321
                    rewrite [(show (m305.1 6) = (m.1 6) from ((fr1 Fm305 6 rfl).trans ((fr1 Fm287 6 rfl).trans (fr1 Fm281 6 rfl))))] at h321
                    have hLx := h321
                    clear h322
                    replace h323 : (m305.1 8) ≤ (m320.1 8) := h323
                    clear h324
                    have hf355 : 1 ≤ (m320.1 10) := by omega
                    clear g310 g311 g312 g313 g314 g315 h306 h308 h309 u317 h323
                    refine Tm_lv (a := [(0, .ref 189), (1, .int (i32 a)), (2, .int (i32 ((4 * a) + ((m.2 46) a))))]) rfl rfl ⟨rfl, rfl, rfl, trivial⟩ ?_
                    exact J141_26 (mO m320 [] []) Tm320 (fr_m (fr_s Fm320 (fr_m (fr_s Fm305 (fr_m (fr_s Fm287 (fr_m (fr_s Fm281 (fr_m fr_0 rfl rfl) rfl rfl) rfl rfl) rfl rfl) rfl rfl) rfl rfl) rfl rfl) rfl rfl) rfl rfl) (show ∀ k, (m320.2 47) k + (m320.2 48) k ≤ 4000 by rewrite [(show (m320.2 47) = (upI (m.2 47) ((4 * a) + ((m.2 46) a)) (m.1 8)) from ((fr2 Fm320 47 rfl).trans (fr2 Fm305 47 rfl))), (show (m320.2 48) = (upI (m.2 48) ((4 * a) + ((m.2 46) a)) (m.1 9)) from ((fr2 Fm320 48 rfl).trans (fr2 Fm305 48 rfl)))]; first | exact hPA | (intro k; have := hPA0 k; have h7 := hLx0 hf0; unfold upI; split <;> omega)) (show (m.2 46) a ≤ 3 by omega) (show 0 ≤ ((4 * a) + ((m.2 46) a)) ∧ ((4 * a) + ((m.2 46) a)) ≤ 64 by omega) (show 1 ≤ (m320.1 10) by omega)
                · skip
                  replace h306 : LxP (m305.1 7) (m305.1 8) (m305.1 9) (m287.1 6) (m305.1 10) := h306
                  rewrite [(show (m287.1 6) = (m.1 6) from ((fr1 Fm287 6 rfl).trans (fr1 Fm281 6 rfl)))] at h306
                  have hLx := h306
                  clear h307
                  replace h308 : (m287.1 8) ≤ (m305.1 8) := h308
                  rewrite [(show (m287.1 8) = (m.1 8) from ((fr1 Fm287 8 rfl).trans (fr1 Fm281 8 rfl)))] at h308
                  clear h309
                  have hf356 : 1 ≤ (m305.1 10) := by omega
                  clear g283 g284 hf285 h282 q292_10 q292_11 h300
                  refine Tm_lv (a := [(0, .ref 189), (1, .int (i32 a)), (2, .int (i32 ((4 * a) + ((m.2 46) a))))]) rfl rfl ⟨rfl, rfl, rfl, trivial⟩ ?_
                  exact J135_52 (mO m305 [] []) Tm305 (fr_m (fr_s Fm305 (fr_m (fr_s Fm287 (fr_m (fr_s Fm281 (fr_m fr_0 rfl rfl) rfl rfl) rfl rfl) rfl rfl) rfl rfl) rfl rfl) rfl rfl) (show ∀ k, (m305.2 47) k + (m305.2 48) k ≤ 4000 by rewrite [(show (m305.2 47) = (upI (m.2 47) ((4 * a) + ((m.2 46) a)) (m.1 8)) from (fr2 Fm305 47 rfl)), (show (m305.2 48) = (upI (m.2 48) ((4 * a) + ((m.2 46) a)) (m.1 9)) from (fr2 Fm305 48 rfl))]; first | exact hPA | (intro k; have := hPA0 k; have h7 := hLx0 hf0; unfold upI; split <;> omega)) (show (m.2 46) a ≤ 3 by omega) (show 0 ≤ ((4 * a) + ((m.2 46) a)) ∧ ((4 * a) + ((m.2 46) a)) ≤ 64 by omega) (show 1 ≤ (m305.1 10) by omega)
              · skip
                refine T_gf 66 (.int (i32 (m287.1 10))) rfl rfl rfl rfl rfl rfl ?_
                refine T_if 103 69 rfl rfl rfl (r32 (by omega) (by omega)) (fun (h357 : (m287.1 10) ≠ 0) => by exfalso; omega) (fun (h357 : ¬ ((m287.1 10) ≠ 0)) => ?_)
                have hp3 := hPA v286
                refine T_ld 70 (.ref 189) rfl (fun _ => rfl) ?_
                refine T_gf 74 (.ref 217) rfl rfl rfl rfl rfl rfl ?_
                refine T_ld 75 (.int (i32 v286)) rfl (fun _ => rfl) ?_
                refine T_iald 76 47 (m.2 47) rfl rfl rfl (by omega) (show v286 < (64 : Int) by omega) (show (m287.2 47) = (m.2 47) from ((fr2 Fm287 47 rfl).trans (fr2 Fm281 47 rfl))) ?_
                have e358 : 0 ≤ (m.2 47) v286 ∧ (m.2 47) v286 ≤ 4000 := (hT.2.1 47) v286
                refine T_gf 80 (.ref 218) rfl rfl rfl rfl rfl rfl ?_
                refine T_ld 81 (.int (i32 v286)) rfl (fun _ => rfl) ?_
                refine T_iald 82 48 (m.2 48) rfl rfl rfl (by omega) (show v286 < (64 : Int) by omega) (show (m287.2 48) = (m.2 48) from ((fr2 Fm287 48 rfl).trans (fr2 Fm281 48 rfl))) ?_
                have e359 : 0 ≤ (m.2 48) v286 ∧ (m.2 48) v286 ≤ 4000 := (hT.2.1 48) v286
                refine T_call 85 230 [.ref 189, .int (i32 ((m.2 47) v286)), .int (i32 ((m.2 48) v286))] [] rfl (fun _ => rfl) rfl (d_isHere w (mO m287 [] []) c N D (by omega) Tm287 ((m.2 47) v286) ((m.2 48) v286) (r32 (by omega) (by omega)) (r32 (by omega) (by omega)) (show 0 ≤ ((m.2 47) v286) by omega) (show 0 ≤ ((m.2 48) v286) by omega) (show ((m.2 47) v286) + ((m.2 48) v286) ≤ 4000 by omega) (show 1 ≤ (m287.1 9) ∧ (m287.1 8) + (m287.1 9) ≤ (m287.1 6) by rewrite [(show (m287.1 9) = (m.1 9) from ((fr1 Fm287 9 rfl).trans (fr1 Fm281 9 rfl))), (show (m287.1 8) = (m.1 8) from ((fr1 Fm287 8 rfl).trans (fr1 Fm281 8 rfl))), (show (m287.1 6) = (m.1 6) from ((fr1 Fm287 6 rfl).trans (fr1 Fm281 6 rfl)))]; first | omega | (have h8 := hLx (by omega); omega))) (fun rr360 k361 => ?_)
                obtain ⟨x362, g363, h364, rfl⟩ := k361
                refine ⟨_, _, rfl, ?_⟩
                refine T_ns (st' := [.int (i32 x362)]) rfl ?_
                obtain ⟨g363a, g363b⟩ := g363
                replace h364 : (x362 = 1 ∧ sameN (m287.2 4) (m287.1 8) (m287.1 9) ((m.2 47) v286) ((m.2 48) v286)) ∨ (x362 = 0 ∧ ¬ sameN (m287.2 4) (m287.1 8) (m287.1 9) ((m.2 47) v286) ((m.2 48) v286)) := h364
                rewrite [(show (m287.2 4) = (m.2 4) from ((fr2 Fm287 4 rfl).trans (fr2 Fm281 4 rfl))), (show (m287.1 8) = (m.1 8) from ((fr1 Fm287 8 rfl).trans (fr1 Fm281 8 rfl))), (show (m287.1 9) = (m.1 9) from ((fr1 Fm287 9 rfl).trans (fr1 Fm281 9 rfl)))] at h364
                have hh := h364
                have u365 : (m.1 8) ≤ (m.1 8) := by omega
                clear g283 g284 hf285 h282
                refine T_if 97 88 rfl rfl rfl (r32 (by omega) (by omega)) (fun (h366 : x362 = 0) => ?_) (fun (h366 : ¬ (x362 = 0)) => ?_)
                · skip
                  refine T_iinc 100 [(3, .int (i32 (v286 + 1))), (0, .ref 189), (1, .int (i32 a)), (2, .int (i32 ((4 * a) + ((m.2 46) a))))] rfl rfl (by decide) rfl rfl ?_
                  refine T_goto 57 rfl (fun _ => rfl) ?_
                  refine Tm_lv (a := [(0, .ref 189), (1, .int (i32 a)), (2, .int (i32 ((4 * a) + ((m.2 46) a)))), (3, .int (i32 (v286 + 1)))]) rfl rfl ⟨rfl, rfl, rfl, rfl, trivial⟩ ?_
                  exact ih295 (v286 + 1) (mO m287 [] []) (r32 (by omega) (by omega)) Tm287 (fr_m (fr_s Fm287 (fr_m fr_0 rfl rfl) rfl rfl) rfl rfl) (show 0 ≤ (v286 + 1) by omega) (show (v286 + 1) ≤ (4 * a) + ((m.2 46) a) by omega) (fun _ => ⟨(show (m.1 7) = 1 by omega), (show (m.2 46) a ≤ 3 by omega)⟩) (show ((4 * a) + ((m.2 46) a)) - (v286 + 1) < (n294 : Int) by omega)
                · skip
                  refine T_ld 89 (.ref 189) rfl (fun _ => rfl) ?_
                  refine T_ld 90 (.int (i32 3)) rfl (fun _ => rfl) ?_
                  refine T_gf 94 (.int (i32 (m.1 8))) rfl rfl rfl rfl (mfv_c (F := fun x => .int (i32 x)) rfl (show (m287.1 8) = (m.1 8) from ((fr1 Fm287 8 rfl).trans (fr1 Fm281 8 rfl)))) rfl ?_
                  refine T_call 97 222 [.ref 189, .int (i32 3), .int (i32 (m.1 8))] [] rfl (fun _ => rfl) rfl (d_wrong w (mO m287 [] []) c N D (by omega) Tm287 3 (m.1 8) ⟨by decide, by decide⟩ (r32 (by omega) (by omega)) (show 1 ≤ (3 : Int) ∧ (3 : Int) ≤ 8 by omega) (show 0 ≤ (m.1 8) ∧ (m.1 8) ≤ 4000 by omega)) (fun rr367 k368 => ?_)
                  obtain ⟨m369, Tm369, Fm369, h370, rfl⟩ := k368
                  refine ⟨_, _, rfl, ?_⟩
                  refine T_nb (st' := []) rfl ?_
                  have g371 : 0 ≤ m369.1 10 ∧ m369.1 10 ≤ 8 := Tm369.1 10
                  have g372 : (-1) ≤ m369.1 11 ∧ m369.1 11 ≤ 4000 := Tm369.1 11
                  replace h370 : (0 < (m287.1 10) → (m369.1 10) = (m287.1 10) ∧ (m369.1 11) = (m287.1 11)) ∧ ((m287.1 10) ≤ 0 → (m369.1 10) = (3 : Int) ∧ (m369.1 11) = (m.1 8)) := h370
                  have hf373 : 1 ≤ (m369.1 10) := by omega
                  clear q292_10 q292_11 h357 g363a g363b h364 h366 h370
                  exact J97_76 v286 (mO m369 [] []) (r32 (by omega) (by omega)) Tm369 (fr_m (fr_s Fm369 (fr_m (fr_s Fm287 (fr_m (fr_s Fm281 (fr_m fr_0 rfl rfl) rfl rfl) rfl rfl) rfl rfl) rfl rfl) rfl rfl) rfl rfl) (show 0 ≤ v286 by omega) (show v286 ≤ 63 by omega) (show ∀ k, (m.2 47) k + (m.2 48) k ≤ 4000 by first | exact hPA | (intro k; have := hPA0 k; have h7 := hLx0 hf0; unfold upI; split <;> omega)) (show v286 < ((4 * a) + ((m.2 46) a)) by omega) (show 1 ≤ ((4 * a) + ((m.2 46) a)) ∧ ((4 * a) + ((m.2 46) a)) ≤ 64 by omega) (show 1 ≤ (m369.1 10) by omega)
            · skip
              clear c293
              have hf374 : 1 ≤ (m287.1 10) := by omega
              refine T_ld 58 (.int (i32 v286)) rfl (fun _ => rfl) ?_
              refine T_ld 59 (.int (i32 ((4 * a) + ((m.2 46) a)))) rfl (fun _ => rfl) ?_
              refine T_icmp 103 62 rfl rfl rfl (r32 (by omega) (by omega)) (r32 (by omega) (by omega)) (fun (h375 : (4 * a) + ((m.2 46) a) ≤ v286) => ?_) (fun (h375 : ¬ ((4 * a) + ((m.2 46) a) ≤ v286)) => ?_)
              · skip
                refine T_gf 107 (.int (i32 (m287.1 10))) rfl rfl rfl rfl rfl rfl ?_
                refine T_if 111 110 rfl rfl rfl (r32 (by omega) (by omega)) (fun (h376 : (m287.1 10) ≤ 0) => by exfalso; omega) (fun (h376 : ¬ ((m287.1 10) ≤ 0)) => ?_)
                refine T_ret rfl (fun _ => rfl) ?_
                exact ⟨(mO m287 [] []), Tm287, (fr_m (fr_s Fm287 (fr_m (fr_s Fm281 (fr_m fr_0 rfl rfl) rfl rfl) rfl rfl) rfl rfl) rfl rfl), (show (m287.1 10) = 0 → (m.1 10) = 0 by omega), (show LxP (m287.1 7) (m287.1 8) (m287.1 9) (m.1 6) (m287.1 10) by rewrite [(show (m287.1 7) = (m.1 7) from ((fr1 Fm287 7 rfl).trans (fr1 Fm281 7 rfl))), (show (m287.1 8) = (m.1 8) from ((fr1 Fm287 8 rfl).trans (fr1 Fm281 8 rfl))), (show (m287.1 9) = (m.1 9) from ((fr1 Fm287 9 rfl).trans (fr1 Fm281 9 rfl)))]; first | (first | exact hLx | exact (fun _ => hLx (by omega)) | (intro h9; exfalso; omega)) | (exfalso; omega)), (show ∀ k, (m287.2 47) k + (m287.2 48) k ≤ 4000 by rewrite [(show (m287.2 47) = (m.2 47) from ((fr2 Fm287 47 rfl).trans (fr2 Fm281 47 rfl))), (show (m287.2 48) = (m.2 48) from ((fr2 Fm287 48 rfl).trans (fr2 Fm281 48 rfl)))]; first | (first | exact hPA | (intro k; have := hPA0 k; have h7 := hLx0 hf0; unfold upI; split <;> omega)) | (exfalso; omega)), (fun (h : (m287.1 10) = 0) => absurd h (by omega)), rfl⟩
              · skip
                refine T_gf 66 (.int (i32 (m287.1 10))) rfl rfl rfl rfl rfl rfl ?_
                refine T_if 103 69 rfl rfl rfl (r32 (by omega) (by omega)) (fun (h377 : (m287.1 10) ≠ 0) => ?_) (fun (h377 : ¬ ((m287.1 10) ≠ 0)) => by exfalso; omega)
                refine T_gf 107 (.int (i32 (m287.1 10))) rfl rfl rfl rfl rfl rfl ?_
                refine T_if 111 110 rfl rfl rfl (r32 (by omega) (by omega)) (fun (h378 : (m287.1 10) ≤ 0) => by exfalso; omega) (fun (h378 : ¬ ((m287.1 10) ≤ 0)) => ?_)
                refine T_ret rfl (fun _ => rfl) ?_
                exact ⟨(mO m287 [] []), Tm287, (fr_m (fr_s Fm287 (fr_m (fr_s Fm281 (fr_m fr_0 rfl rfl) rfl rfl) rfl rfl) rfl rfl) rfl rfl), (show (m287.1 10) = 0 → (m.1 10) = 0 by omega), (show LxP (m287.1 7) (m287.1 8) (m287.1 9) (m.1 6) (m287.1 10) by rewrite [(show (m287.1 7) = (m.1 7) from ((fr1 Fm287 7 rfl).trans (fr1 Fm281 7 rfl))), (show (m287.1 8) = (m.1 8) from ((fr1 Fm287 8 rfl).trans (fr1 Fm281 8 rfl))), (show (m287.1 9) = (m.1 9) from ((fr1 Fm287 9 rfl).trans (fr1 Fm281 9 rfl)))]; first | (first | exact hLx | exact (fun _ => hLx (by omega)) | (intro h9; exfalso; omega)) | (exfalso; omega)), (show ∀ k, (m287.2 47) k + (m287.2 48) k ≤ 4000 by rewrite [(show (m287.2 47) = (m.2 47) from ((fr2 Fm287 47 rfl).trans (fr2 Fm281 47 rfl))), (show (m287.2 48) = (m.2 48) from ((fr2 Fm287 48 rfl).trans (fr2 Fm281 48 rfl)))]; first | (first | exact hPA | (intro k; have := hPA0 k; have h7 := hLx0 hf0; unfold upI; split <;> omega)) | (exfalso; omega)), (fun (h : (m287.1 10) = 0) => absurd h (by omega)), rfl⟩
        refine Tm_lv (a := [(0, .ref 189), (1, .int (i32 a)), (2, .int (i32 ((4 * a) + ((m.2 46) a)))), (3, .int (i32 (4 * a)))]) rfl rfl ⟨rfl, rfl, rfl, rfl, trivial⟩ ?_
        exact L57_288 ((((4 * a) + ((m.2 46) a)) - (4 * a) : Int) + 1).toNat (4 * a) (mO m281 [] []) (r32 (by omega) (by omega)) Tm281 (fr_m fr_0 rfl rfl) (show 0 ≤ (4 * a) by omega) (show (4 * a) ≤ (4 * a) + ((m.2 46) a) by omega) (fun (h : (m281.1 10) = 0) => absurd h (by omega)) (show ((4 * a) + ((m.2 46) a)) - (4 * a) < ((((((4 * a) + ((m.2 46) a)) - (4 * a) : Int) + 1).toNat : Nat) : Int) by omega)
    · skip
      refine T_ld 28 (.ref 189) rfl (fun _ => rfl) ?_
      refine T_call 31 226 [.ref 189] [] rfl (fun _ => rfl) rfl (d_bad w (mO m [] []) c N D (by omega) hT ) (fun rr379 k380 => ?_)
      obtain ⟨m381, Tm381, Fm381, h382, rfl⟩ := k380
      refine ⟨_, _, rfl, ?_⟩
      refine T_nb (st' := []) rfl ?_
      have g383 : 0 ≤ m381.1 10 ∧ m381.1 10 ≤ 8 := Tm381.1 10
      have g384 : (-1) ≤ m381.1 11 ∧ m381.1 11 ≤ 4000 := Tm381.1 11
      replace h382 : (0 < (m.1 10) → (m381.1 10) = (m.1 10) ∧ (m381.1 11) = (m.1 11)) ∧ ((m.1 10) ≤ 0 → (m381.1 10) = 1 ∧ (m381.1 11) = (m.1 8)) := h382
      have hf385 : 1 ≤ (m381.1 10) := by omega
      refine T_goto 53 rfl (fun _ => rfl) ?_
      refine T_ld 54 (.int (i32 4)) rfl (fun _ => rfl) ?_
      refine T_ld 55 (.int (i32 a)) rfl (fun _ => rfl) ?_
      refine T_imul 56 rfl rfl ?_
      refine T_sto 57 [(3, .int (i32 (4 * a))), (2, .int (i32 ((4 * a) + ((m.2 46) a)))), (0, .ref 189), (1, .int (i32 a))] rfl (fun _ => rfl) ?_
      have L57_388 : ∀ (n394 : Nat) (v386 : Int) (m387 : mR), (R32 v386) → Ty m387 → fr [10, 11] [] (mO m381 [] []) m387 → (0 ≤ v386) → (v386 ≤ (4 * a) + ((m.2 46) a)) → ((m387.1 10) = 0 → ((m.1 7) = 1) ∧ ((m.2 46) a ≤ 3)) → ((4 * a) + ((m.2 46) a)) - v386 < (n394 : Int) → TT w D pm_268 (57, [(0, .ref 189), (1, .int (i32 a)), (2, .int (i32 ((4 * a) + ((m.2 46) a)))), (3, .int (i32 v386))], [], (mhp (mO m387 [] []) c, N), 0, 0) (Q_takeParameter m c N a) := by
        intro n394
        induction n394 with
        | zero =>
          intro v386 m387 q391 Tm387 Fm387 ic389 ic390 c393 hmu
          obtain ⟨q391a, q391b⟩ := id q391
          have q392_10 : 0 ≤ m387.1 10 ∧ m387.1 10 ≤ 8 := Tm387.1 10
          have q392_11 : (-1) ≤ m387.1 11 ∧ m387.1 11 ≤ 4000 := Tm387.1 11
          exfalso
          omega
        | succ n394 ih =>
          intro v386 m387 q391 Tm387 Fm387 ic389 ic390 c393 hmu
          obtain ⟨q391a, q391b⟩ := id q391
          have q392_10 : 0 ≤ m387.1 10 ∧ m387.1 10 ≤ 8 := Tm387.1 10
          have q392_11 : (-1) ≤ m387.1 11 ∧ m387.1 11 ≤ 4000 := Tm387.1 11
          have ih395 := ih
          by_cases hf396 : (m387.1 10) = 0
          · skip
            obtain ⟨c397, c398⟩ := c393 hf396
            clear c393
            refine T_ld 58 (.int (i32 v386)) rfl (fun _ => rfl) ?_
            refine T_ld 59 (.int (i32 ((4 * a) + ((m.2 46) a)))) rfl (fun _ => rfl) ?_
            refine T_icmp 103 62 rfl rfl rfl (r32 (by omega) (by omega)) (r32 (by omega) (by omega)) (fun (h399 : (4 * a) + ((m.2 46) a) ≤ v386) => ?_) (fun (h399 : ¬ ((4 * a) + ((m.2 46) a) ≤ v386)) => ?_)
            · skip
              refine T_gf 107 (.int (i32 (m387.1 10))) rfl rfl rfl rfl rfl rfl ?_
              refine T_if 111 110 rfl rfl rfl (r32 (by omega) (by omega)) (fun (h400 : (m387.1 10) ≤ 0) => ?_) (fun (h400 : ¬ ((m387.1 10) ≤ 0)) => by exfalso; omega)
              refine T_gf 115 (.ref 217) rfl rfl rfl rfl rfl rfl ?_
              refine T_ld 116 (.int (i32 ((4 * a) + ((m.2 46) a)))) rfl (fun _ => rfl) ?_
              refine T_gf 120 (.int (i32 (m.1 8))) rfl rfl rfl rfl (mfv_c (F := fun x => .int (i32 x)) rfl (show (m387.1 8) = (m.1 8) from ((fr1 Fm387 8 rfl).trans (fr1 Fm381 8 rfl)))) rfl ?_
              have G401 : ∀ j, 0 ≤ (upI (m.2 47) ((4 * a) + ((m.2 46) a)) (m.1 8)) j ∧ (upI (m.2 47) ((4 * a) + ((m.2 46) a)) (m.1 8)) j ≤ 4000 := upI_rg (hT.2.1 47) ⟨by omega, by omega⟩
              refine T_iast (a' := [(47, upI (m.2 47) ((4 * a) + ((m.2 46) a)) (m.1 8))]) 121 47 (m.2 47) rfl rfl rfl (by omega) (show ((4 * a) + ((m.2 46) a)) < (64 : Int) by omega) (show (m387.2 47) = (m.2 47) from ((fr2 Fm387 47 rfl).trans (fr2 Fm381 47 rfl))) rfl ?_
              refine T_gf 125 (.ref 218) rfl rfl rfl rfl rfl rfl ?_
              refine T_ld 126 (.int (i32 ((4 * a) + ((m.2 46) a)))) rfl (fun _ => rfl) ?_
              refine T_gf 130 (.int (i32 (m.1 9))) rfl rfl rfl rfl (mfv_c (F := fun x => .int (i32 x)) rfl (show (m387.1 9) = (m.1 9) from ((fr1 Fm387 9 rfl).trans (fr1 Fm381 9 rfl)))) rfl ?_
              have G402 : ∀ j, 0 ≤ (upI (m.2 48) ((4 * a) + ((m.2 46) a)) (m.1 9)) j ∧ (upI (m.2 48) ((4 * a) + ((m.2 46) a)) (m.1 9)) j ≤ 4000 := upI_rg (hT.2.1 48) ⟨by omega, by omega⟩
              refine T_iast (a' := [(47, upI (m.2 47) ((4 * a) + ((m.2 46) a)) (m.1 8)), (48, upI (m.2 48) ((4 * a) + ((m.2 46) a)) (m.1 9))]) 131 48 (m.2 48) rfl rfl rfl (by omega) (show ((4 * a) + ((m.2 46) a)) < (64 : Int) by omega) (show (m387.2 48) = (m.2 48) from ((fr2 Fm387 48 rfl).trans (fr2 Fm381 48 rfl))) rfl ?_
              have hLx : LxP (m.1 7) (m.1 8) (m.1 9) (m.1 6) (m387.1 10) := fun _ => hLx0 (by omega)
              refine T_ld 132 (.ref 189) rfl (fun _ => rfl) ?_
              refine T_call 135 212 [.ref 189] [] rfl (fun _ => rfl) rfl (d_next w (mO m387 [] [(47, upI (m.2 47) ((4 * a) + ((m.2 46) a)) (m.1 8)), (48, upI (m.2 48) ((4 * a) + ((m.2 46) a)) (m.1 9))]) c N D (by omega) (Ty_mO Tm387 rfl rfl trivial ⟨G401, G402, trivial⟩) (show (m387.1 10) = 0 → (m387.1 8) + (m387.1 9) ≤ (m387.1 6) by rewrite [(show (m387.1 8) = (m.1 8) from ((fr1 Fm387 8 rfl).trans (fr1 Fm381 8 rfl))), (show (m387.1 9) = (m.1 9) from ((fr1 Fm387 9 rfl).trans (fr1 Fm381 9 rfl))), (show (m387.1 6) = (m.1 6) from ((fr1 Fm387 6 rfl).trans (fr1 Fm381 6 rfl)))]; first | omega | (intro h9; have h8 := hLx h9; omega))) (fun rr403 k404 => ?_)
              obtain ⟨m405, Tm405, Fm405, h406, h407, h408, h409, rfl⟩ := k404
              refine ⟨_, _, rfl, ?_⟩
              refine T_nb (st' := []) rfl ?_
              have g410 : 0 ≤ m405.1 7 ∧ m405.1 7 ≤ 330 := Tm405.1 7
              have g411 : 0 ≤ m405.1 8 ∧ m405.1 8 ≤ 4000 := Tm405.1 8
              have g412 : 0 ≤ m405.1 9 ∧ m405.1 9 ≤ 4000 := Tm405.1 9
              have g413 : 0 ≤ m405.1 10 ∧ m405.1 10 ≤ 8 := Tm405.1 10
              have g414 : (-1) ≤ m405.1 11 ∧ m405.1 11 ≤ 4000 := Tm405.1 11
              have g415 : (-9223372036854775808) ≤ m405.1 12 ∧ m405.1 12 ≤ 9223372036854775807 := Tm405.1 12
              by_cases hf416 : (m405.1 10) = 0
              · skip
                replace h406 : LxP (m405.1 7) (m405.1 8) (m405.1 9) (m387.1 6) (m405.1 10) := h406
                rewrite [(show (m387.1 6) = (m.1 6) from ((fr1 Fm387 6 rfl).trans (fr1 Fm381 6 rfl)))] at h406
                have hLx := h406
                replace h407 : (m387.1 10) = 0 := h407 hf416
                replace h408 : (m387.1 8) ≤ (m405.1 8) := h408
                rewrite [(show (m387.1 8) = (m.1 8) from ((fr1 Fm387 8 rfl).trans (fr1 Fm381 8 rfl)))] at h408
                replace h409 : (m387.1 8) + (m387.1 9) ≤ (m405.1 8) := h409 hf416
                rewrite [(show (m387.1 8) = (m.1 8) from ((fr1 Fm387 8 rfl).trans (fr1 Fm381 8 rfl))), (show (m387.1 9) = (m.1 9) from ((fr1 Fm387 9 rfl).trans (fr1 Fm381 9 rfl)))] at h409
                have u417 : (m.1 8) + 1 ≤ (m405.1 8) := by omega
                clear g383 g384 hf385 h382 q392_10 q392_11 h400 h407
                refine T_ld 136 (.ref 189) rfl (fun _ => rfl) ?_
                refine T_ld 138 (.int (i32 58)) rfl (fun _ => rfl) ?_
                refine T_call 141 232 [.ref 189, .int (i32 58)] [] rfl (fun _ => rfl) rfl (d_need w (mO m405 [] []) c N D (by omega) Tm405 58 ⟨by decide, by decide⟩ (show 1 ≤ (58 : Int) by omega) (show LxP (m405.1 7) (m405.1 8) (m405.1 9) (m405.1 6) (m405.1 10) by rewrite [(show (m405.1 6) = (m.1 6) from ((fr1 Fm405 6 rfl).trans ((fr1 Fm387 6 rfl).trans (fr1 Fm381 6 rfl))))]; first | exact hLx | (intro h9; exfalso; omega) | (intro h9; have h8 := hLx (by omega); omega))) (fun rr418 k419 => ?_)
                obtain ⟨m420, Tm420, Fm420, h421, h422, h423, h424, rfl⟩ := k419
                refine ⟨_, _, rfl, ?_⟩
                refine T_nb (st' := []) rfl ?_
                have g425 : 0 ≤ m420.1 7 ∧ m420.1 7 ≤ 330 := Tm420.1 7
                have g426 : 0 ≤ m420.1 8 ∧ m420.1 8 ≤ 4000 := Tm420.1 8
                have g427 : 0 ≤ m420.1 9 ∧ m420.1 9 ≤ 4000 := Tm420.1 9
                have g428 : 0 ≤ m420.1 10 ∧ m420.1 10 ≤ 8 := Tm420.1 10
                have g429 : (-1) ≤ m420.1 11 ∧ m420.1 11 ≤ 4000 := Tm420.1 11
                have g430 : (-9223372036854775808) ≤ m420.1 12 ∧ m420.1 12 ≤ 9223372036854775807 := Tm420.1 12
                by_cases hf431 : (m420.1 10) = 0
                · skip
                  replace h421 : LxP (m420.1 7) (m420.1 8) (m420.1 9) (m405.1 6) (m420.1 10) := h421
                  rewrite [(show (m405.1 6) = (m.1 6) from ((fr1 Fm405 6 rfl).trans ((fr1 Fm387 6 rfl).trans (fr1 Fm381 6 rfl))))] at h421
                  have hLx := h421
                  replace h422 : (m405.1 10) = 0 ∧ (m405.1 7) = (58 : Int) := h422 hf431
                  replace h423 : (m405.1 8) ≤ (m420.1 8) := h423
                  replace h424 : (m405.1 8) + (m405.1 9) ≤ (m420.1 8) := h424 hf431
                  have u432 : (m.1 8) + 1 ≤ (m420.1 8) := by omega
                  clear g410 g411 g412 g413 g414 g415 h406 h408 h409 u417 h422 h423 h424
                  refine T_gf 145 (.ref 219) rfl rfl rfl rfl rfl rfl ?_
                  refine T_ld 146 (.int (i32 ((4 * a) + ((m.2 46) a)))) rfl (fun _ => rfl) ?_
                  refine T_ld 147 (.ref 189) rfl (fun _ => rfl) ?_
                  refine T_ld 148 (.int (i32 1)) rfl (fun _ => rfl) ?_
                  refine T_ld 150 (.int (i32 64)) rfl (fun _ => rfl) ?_
                  refine T_call 153 234 [.ref 189, .int (i32 1), .int (i32 64)] [.int (i32 ((4 * a) + ((m.2 46) a))), .ref 219] rfl (fun _ => rfl) rfl (d_number w (mO m420 [] []) c N D (by omega) Tm420 1 64 ⟨by decide, by decide⟩ ⟨by decide, by decide⟩ (show LxP (m420.1 7) (m420.1 8) (m420.1 9) (m420.1 6) (m420.1 10) by rewrite [(show (m420.1 6) = (m.1 6) from ((fr1 Fm420 6 rfl).trans ((fr1 Fm405 6 rfl).trans ((fr1 Fm387 6 rfl).trans (fr1 Fm381 6 rfl)))))]; first | exact hLx | (intro h9; exfalso; omega) | (intro h9; have h8 := hLx (by omega); omega)) (show (1 : Int) ≤ (64 : Int) by omega)) (fun rr433 k434 => ?_)
                  obtain ⟨m435, nu, Tm435, Fm435, g436, h437, h438, h439, h440, h441, h442, rfl⟩ := k434
                  refine ⟨_, _, rfl, ?_⟩
                  refine T_nb (st' := [.int (i32 nu), .int (i32 ((4 * a) + ((m.2 46) a))), .ref 219]) rfl ?_
                  obtain ⟨g436a, g436b⟩ := g436
                  have g443 : 0 ≤ m435.1 7 ∧ m435.1 7 ≤ 330 := Tm435.1 7
                  have g444 : 0 ≤ m435.1 8 ∧ m435.1 8 ≤ 4000 := Tm435.1 8
                  have g445 : 0 ≤ m435.1 9 ∧ m435.1 9 ≤ 4000 := Tm435.1 9
                  have g446 : 0 ≤ m435.1 10 ∧ m435.1 10 ≤ 8 := Tm435.1 10
                  have g447 : (-1) ≤ m435.1 11 ∧ m435.1 11 ≤ 4000 := Tm435.1 11
                  have g448 : (-9223372036854775808) ≤ m435.1 12 ∧ m435.1 12 ≤ 9223372036854775807 := Tm435.1 12
                  by_cases hf449 : (m435.1 10) = 0
                  · skip
                    replace h437 : LxP (m435.1 7) (m435.1 8) (m435.1 9) (m420.1 6) (m435.1 10) := h437
                    rewrite [(show (m420.1 6) = (m.1 6) from ((fr1 Fm420 6 rfl).trans ((fr1 Fm405 6 rfl).trans ((fr1 Fm387 6 rfl).trans (fr1 Fm381 6 rfl)))))] at h437
                    have hLx := h437
                    replace h438 : (m420.1 8) ≤ (m435.1 8) := h438
                    replace h439 : (m420.1 10) = 0 ∧ (m420.1 8) + (m420.1 9) ≤ (m435.1 8) := h439 hf449
                    replace h440 : (m420.1 7) = 2 := h440 hf449
                    replace h441 : (1 : Int) ≤ nu ∧ nu ≤ (64 : Int) := h441
                    replace h442 : nu = (m420.1 12) := h442 hf449
                    have u450 : (m.1 8) + 1 ≤ (m435.1 8) := by omega
                    clear g425 g426 g427 g428 g429 g430 h421 u432 h438 h439 h440 h442
                    have G451 : ∀ j, 0 ≤ (upI (m.2 49) ((4 * a) + ((m.2 46) a)) nu) j ∧ (upI (m.2 49) ((4 * a) + ((m.2 46) a)) nu) j ≤ 64 := upI_rg (hT.2.1 49) ⟨by omega, by omega⟩
                    refine T_iast (a' := [(49, upI (m.2 49) ((4 * a) + ((m.2 46) a)) nu)]) 154 49 (m.2 49) rfl rfl rfl (by omega) (show ((4 * a) + ((m.2 46) a)) < (64 : Int) by omega) (show (m435.2 49) = (m.2 49) from ((fr2 Fm435 49 rfl).trans ((fr2 Fm420 49 rfl).trans ((fr2 Fm405 49 rfl).trans ((fr2 Fm387 49 rfl).trans (fr2 Fm381 49 rfl)))))) rfl ?_
                    refine T_gf 158 (.ref 216) rfl rfl rfl rfl rfl rfl ?_
                    refine T_ld 159 (.int (i32 a)) rfl (fun _ => rfl) ?_
                    refine T_dup2 160 rfl (fun _ => rfl) ?_
                    refine T_iald 161 46 (m.2 46) rfl rfl rfl (by omega) (show a < (16 : Int) by omega) (show (m435.2 46) = (m.2 46) from ((fr2 Fm435 46 rfl).trans ((fr2 Fm420 46 rfl).trans ((fr2 Fm405 46 rfl).trans ((fr2 Fm387 46 rfl).trans (fr2 Fm381 46 rfl)))))) ?_
                    have e452 : 0 ≤ (m.2 46) a ∧ (m.2 46) a ≤ 4 := (hT.2.1 46) a
                    refine T_ld 162 (.int (i32 1)) rfl (fun _ => rfl) ?_
                    refine T_iadd 163 rfl rfl ?_
                    have G453 : ∀ j, 0 ≤ (upI (m.2 46) a (((m.2 46) a) + 1)) j ∧ (upI (m.2 46) a (((m.2 46) a) + 1)) j ≤ 4 := upI_rg (hT.2.1 46) ⟨by omega, by omega⟩
                    refine T_iast (a' := [(46, upI (m.2 46) a (((m.2 46) a) + 1)), (49, upI (m.2 49) ((4 * a) + ((m.2 46) a)) nu)]) 164 46 (m.2 46) rfl rfl rfl (by omega) (show a < (16 : Int) by omega) (show (m435.2 46) = (m.2 46) from ((fr2 Fm435 46 rfl).trans ((fr2 Fm420 46 rfl).trans ((fr2 Fm405 46 rfl).trans ((fr2 Fm387 46 rfl).trans (fr2 Fm381 46 rfl)))))) rfl ?_
                    refine T_ret rfl (fun _ => rfl) ?_
                    exact ⟨(mO m435 [] [(46, upI (m.2 46) a (((m.2 46) a) + 1)), (49, upI (m.2 49) ((4 * a) + ((m.2 46) a)) nu)]), (Ty_mO Tm435 rfl rfl trivial ⟨G453, G451, trivial⟩), (fr_m (fr_s Fm435 (fr_m (fr_s Fm420 (fr_m (fr_s Fm405 (fr_m (fr_s Fm387 (fr_m (fr_s Fm381 (fr_m fr_0 rfl rfl) rfl rfl) rfl rfl) rfl rfl) rfl rfl) rfl rfl) rfl rfl) rfl rfl) rfl rfl) rfl rfl) rfl rfl), (show (m435.1 10) = 0 → (m.1 10) = 0 by omega), (show LxP (m435.1 7) (m435.1 8) (m435.1 9) (m.1 6) (m435.1 10) by first | (first | exact hLx | exact (fun _ => hLx (by omega)) | (intro h9; exfalso; omega)) | (exfalso; omega)), (show ∀ k, (m435.2 47) k + (m435.2 48) k ≤ 4000 by rewrite [(show (m435.2 47) = (upI (m.2 47) ((4 * a) + ((m.2 46) a)) (m.1 8)) from ((fr2 Fm435 47 rfl).trans ((fr2 Fm420 47 rfl).trans (fr2 Fm405 47 rfl)))), (show (m435.2 48) = (upI (m.2 48) ((4 * a) + ((m.2 46) a)) (m.1 9)) from ((fr2 Fm435 48 rfl).trans ((fr2 Fm420 48 rfl).trans (fr2 Fm405 48 rfl))))]; first | (first | exact hPA | (intro k; have := hPA0 k; have h7 := hLx0 hf0; unfold upI; split <;> omega)) | (exfalso; omega)), (fun _ => (show (m.1 8) + 1 ≤ (m435.1 8) by omega)), rfl⟩
                  · skip
                    replace h437 : LxP (m435.1 7) (m435.1 8) (m435.1 9) (m420.1 6) (m435.1 10) := h437
                    rewrite [(show (m420.1 6) = (m.1 6) from ((fr1 Fm420 6 rfl).trans ((fr1 Fm405 6 rfl).trans ((fr1 Fm387 6 rfl).trans (fr1 Fm381 6 rfl)))))] at h437
                    have hLx := h437
                    replace h438 : (m420.1 8) ≤ (m435.1 8) := h438
                    clear h439
                    clear h440
                    replace h441 : (1 : Int) ≤ nu ∧ nu ≤ (64 : Int) := h441
                    clear h442
                    have hf454 : 1 ≤ (m435.1 10) := by omega
                    clear g425 g426 g427 g428 g429 g430 h421 u432 h438
                    refine Tm_lv (a := [(0, .ref 189), (1, .int (i32 a))]) rfl rfl ⟨rfl, rfl, trivial⟩ ?_
                    exact J153_11 nu (mO m435 [] []) (r32 (by omega) (by omega)) Tm435 (fr_m (fr_s Fm435 (fr_m (fr_s Fm420 (fr_m (fr_s Fm405 (fr_m (fr_s Fm387 (fr_m (fr_s Fm381 (fr_m fr_0 rfl rfl) rfl rfl) rfl rfl) rfl rfl) rfl rfl) rfl rfl) rfl rfl) rfl rfl) rfl rfl) rfl rfl) rfl rfl) (show 1 ≤ nu by omega) (show nu ≤ 64 by omega) (show ∀ k, (m435.2 47) k + (m435.2 48) k ≤ 4000 by rewrite [(show (m435.2 47) = (upI (m.2 47) ((4 * a) + ((m.2 46) a)) (m.1 8)) from ((fr2 Fm435 47 rfl).trans ((fr2 Fm420 47 rfl).trans (fr2 Fm405 47 rfl)))), (show (m435.2 48) = (upI (m.2 48) ((4 * a) + ((m.2 46) a)) (m.1 9)) from ((fr2 Fm435 48 rfl).trans ((fr2 Fm420 48 rfl).trans (fr2 Fm405 48 rfl))))]; first | exact hPA | (intro k; have := hPA0 k; have h7 := hLx0 hf0; unfold upI; split <;> omega)) (show (m.2 46) a ≤ 3 by omega) (show 0 ≤ (4 * a) + ((m.2 46) a) ∧ (4 * a) + ((m.2 46) a) ≤ 64 by omega) (show 1 ≤ (m435.1 10) by omega)
                · skip
                  replace h421 : LxP (m420.1 7) (m420.1 8) (m420.1 9) (m405.1 6) (m420.1 10) := h421
                  rewrite [(show (m405.1 6) = (m.1 6) from ((fr1 Fm405 6 rfl).trans ((fr1 Fm387 6 rfl).trans (fr1 Fm381 6 rfl))))] at h421
                  have hLx := h421
                  clear h422
                  replace h423 : (m405.1 8) ≤ (m420.1 8) := h423
                  clear h424
                  have hf455 : 1 ≤ (m420.1 10) := by omega
                  clear g410 g411 g412 g413 g414 g415 h406 h408 h409 u417 h423
                  refine Tm_lv (a := [(0, .ref 189), (1, .int (i32 a)), (2, .int (i32 ((4 * a) + ((m.2 46) a))))]) rfl rfl ⟨rfl, rfl, rfl, trivial⟩ ?_
                  exact J141_26 (mO m420 [] []) Tm420 (fr_m (fr_s Fm420 (fr_m (fr_s Fm405 (fr_m (fr_s Fm387 (fr_m (fr_s Fm381 (fr_m fr_0 rfl rfl) rfl rfl) rfl rfl) rfl rfl) rfl rfl) rfl rfl) rfl rfl) rfl rfl) rfl rfl) (show ∀ k, (m420.2 47) k + (m420.2 48) k ≤ 4000 by rewrite [(show (m420.2 47) = (upI (m.2 47) ((4 * a) + ((m.2 46) a)) (m.1 8)) from ((fr2 Fm420 47 rfl).trans (fr2 Fm405 47 rfl))), (show (m420.2 48) = (upI (m.2 48) ((4 * a) + ((m.2 46) a)) (m.1 9)) from ((fr2 Fm420 48 rfl).trans (fr2 Fm405 48 rfl)))]; first | exact hPA | (intro k; have := hPA0 k; have h7 := hLx0 hf0; unfold upI; split <;> omega)) (show (m.2 46) a ≤ 3 by omega) (show 0 ≤ ((4 * a) + ((m.2 46) a)) ∧ ((4 * a) + ((m.2 46) a)) ≤ 64 by omega) (show 1 ≤ (m420.1 10) by omega)
              · skip
                replace h406 : LxP (m405.1 7) (m405.1 8) (m405.1 9) (m387.1 6) (m405.1 10) := h406
                rewrite [(show (m387.1 6) = (m.1 6) from ((fr1 Fm387 6 rfl).trans (fr1 Fm381 6 rfl)))] at h406
                have hLx := h406
                clear h407
                replace h408 : (m387.1 8) ≤ (m405.1 8) := h408
                rewrite [(show (m387.1 8) = (m.1 8) from ((fr1 Fm387 8 rfl).trans (fr1 Fm381 8 rfl)))] at h408
                clear h409
                have hf456 : 1 ≤ (m405.1 10) := by omega
                clear g383 g384 hf385 h382 q392_10 q392_11 h400
                refine Tm_lv (a := [(0, .ref 189), (1, .int (i32 a)), (2, .int (i32 ((4 * a) + ((m.2 46) a))))]) rfl rfl ⟨rfl, rfl, rfl, trivial⟩ ?_
                exact J135_52 (mO m405 [] []) Tm405 (fr_m (fr_s Fm405 (fr_m (fr_s Fm387 (fr_m (fr_s Fm381 (fr_m fr_0 rfl rfl) rfl rfl) rfl rfl) rfl rfl) rfl rfl) rfl rfl) rfl rfl) (show ∀ k, (m405.2 47) k + (m405.2 48) k ≤ 4000 by rewrite [(show (m405.2 47) = (upI (m.2 47) ((4 * a) + ((m.2 46) a)) (m.1 8)) from (fr2 Fm405 47 rfl)), (show (m405.2 48) = (upI (m.2 48) ((4 * a) + ((m.2 46) a)) (m.1 9)) from (fr2 Fm405 48 rfl))]; first | exact hPA | (intro k; have := hPA0 k; have h7 := hLx0 hf0; unfold upI; split <;> omega)) (show (m.2 46) a ≤ 3 by omega) (show 0 ≤ ((4 * a) + ((m.2 46) a)) ∧ ((4 * a) + ((m.2 46) a)) ≤ 64 by omega) (show 1 ≤ (m405.1 10) by omega)
            · skip
              refine T_gf 66 (.int (i32 (m387.1 10))) rfl rfl rfl rfl rfl rfl ?_
              refine T_if 103 69 rfl rfl rfl (r32 (by omega) (by omega)) (fun (h457 : (m387.1 10) ≠ 0) => by exfalso; omega) (fun (h457 : ¬ ((m387.1 10) ≠ 0)) => ?_)
              have hp3 := hPA v386
              refine T_ld 70 (.ref 189) rfl (fun _ => rfl) ?_
              refine T_gf 74 (.ref 217) rfl rfl rfl rfl rfl rfl ?_
              refine T_ld 75 (.int (i32 v386)) rfl (fun _ => rfl) ?_
              refine T_iald 76 47 (m.2 47) rfl rfl rfl (by omega) (show v386 < (64 : Int) by omega) (show (m387.2 47) = (m.2 47) from ((fr2 Fm387 47 rfl).trans (fr2 Fm381 47 rfl))) ?_
              have e458 : 0 ≤ (m.2 47) v386 ∧ (m.2 47) v386 ≤ 4000 := (hT.2.1 47) v386
              refine T_gf 80 (.ref 218) rfl rfl rfl rfl rfl rfl ?_
              refine T_ld 81 (.int (i32 v386)) rfl (fun _ => rfl) ?_
              refine T_iald 82 48 (m.2 48) rfl rfl rfl (by omega) (show v386 < (64 : Int) by omega) (show (m387.2 48) = (m.2 48) from ((fr2 Fm387 48 rfl).trans (fr2 Fm381 48 rfl))) ?_
              have e459 : 0 ≤ (m.2 48) v386 ∧ (m.2 48) v386 ≤ 4000 := (hT.2.1 48) v386
              refine T_call 85 230 [.ref 189, .int (i32 ((m.2 47) v386)), .int (i32 ((m.2 48) v386))] [] rfl (fun _ => rfl) rfl (d_isHere w (mO m387 [] []) c N D (by omega) Tm387 ((m.2 47) v386) ((m.2 48) v386) (r32 (by omega) (by omega)) (r32 (by omega) (by omega)) (show 0 ≤ ((m.2 47) v386) by omega) (show 0 ≤ ((m.2 48) v386) by omega) (show ((m.2 47) v386) + ((m.2 48) v386) ≤ 4000 by omega) (show 1 ≤ (m387.1 9) ∧ (m387.1 8) + (m387.1 9) ≤ (m387.1 6) by rewrite [(show (m387.1 9) = (m.1 9) from ((fr1 Fm387 9 rfl).trans (fr1 Fm381 9 rfl))), (show (m387.1 8) = (m.1 8) from ((fr1 Fm387 8 rfl).trans (fr1 Fm381 8 rfl))), (show (m387.1 6) = (m.1 6) from ((fr1 Fm387 6 rfl).trans (fr1 Fm381 6 rfl)))]; first | omega | (have h8 := hLx (by omega); omega))) (fun rr460 k461 => ?_)
              obtain ⟨x462, g463, h464, rfl⟩ := k461
              refine ⟨_, _, rfl, ?_⟩
              refine T_ns (st' := [.int (i32 x462)]) rfl ?_
              obtain ⟨g463a, g463b⟩ := g463
              replace h464 : (x462 = 1 ∧ sameN (m387.2 4) (m387.1 8) (m387.1 9) ((m.2 47) v386) ((m.2 48) v386)) ∨ (x462 = 0 ∧ ¬ sameN (m387.2 4) (m387.1 8) (m387.1 9) ((m.2 47) v386) ((m.2 48) v386)) := h464
              rewrite [(show (m387.2 4) = (m.2 4) from ((fr2 Fm387 4 rfl).trans (fr2 Fm381 4 rfl))), (show (m387.1 8) = (m.1 8) from ((fr1 Fm387 8 rfl).trans (fr1 Fm381 8 rfl))), (show (m387.1 9) = (m.1 9) from ((fr1 Fm387 9 rfl).trans (fr1 Fm381 9 rfl)))] at h464
              have hh := h464
              have u465 : (m.1 8) ≤ (m.1 8) := by omega
              clear g383 g384 hf385 h382
              refine T_if 97 88 rfl rfl rfl (r32 (by omega) (by omega)) (fun (h466 : x462 = 0) => ?_) (fun (h466 : ¬ (x462 = 0)) => ?_)
              · skip
                refine T_iinc 100 [(3, .int (i32 (v386 + 1))), (0, .ref 189), (1, .int (i32 a)), (2, .int (i32 ((4 * a) + ((m.2 46) a))))] rfl rfl (by decide) rfl rfl ?_
                refine T_goto 57 rfl (fun _ => rfl) ?_
                refine Tm_lv (a := [(0, .ref 189), (1, .int (i32 a)), (2, .int (i32 ((4 * a) + ((m.2 46) a)))), (3, .int (i32 (v386 + 1)))]) rfl rfl ⟨rfl, rfl, rfl, rfl, trivial⟩ ?_
                exact ih395 (v386 + 1) (mO m387 [] []) (r32 (by omega) (by omega)) Tm387 (fr_m (fr_s Fm387 (fr_m fr_0 rfl rfl) rfl rfl) rfl rfl) (show 0 ≤ (v386 + 1) by omega) (show (v386 + 1) ≤ (4 * a) + ((m.2 46) a) by omega) (fun _ => ⟨(show (m.1 7) = 1 by omega), (show (m.2 46) a ≤ 3 by omega)⟩) (show ((4 * a) + ((m.2 46) a)) - (v386 + 1) < (n394 : Int) by omega)
              · skip
                refine T_ld 89 (.ref 189) rfl (fun _ => rfl) ?_
                refine T_ld 90 (.int (i32 3)) rfl (fun _ => rfl) ?_
                refine T_gf 94 (.int (i32 (m.1 8))) rfl rfl rfl rfl (mfv_c (F := fun x => .int (i32 x)) rfl (show (m387.1 8) = (m.1 8) from ((fr1 Fm387 8 rfl).trans (fr1 Fm381 8 rfl)))) rfl ?_
                refine T_call 97 222 [.ref 189, .int (i32 3), .int (i32 (m.1 8))] [] rfl (fun _ => rfl) rfl (d_wrong w (mO m387 [] []) c N D (by omega) Tm387 3 (m.1 8) ⟨by decide, by decide⟩ (r32 (by omega) (by omega)) (show 1 ≤ (3 : Int) ∧ (3 : Int) ≤ 8 by omega) (show 0 ≤ (m.1 8) ∧ (m.1 8) ≤ 4000 by omega)) (fun rr467 k468 => ?_)
                obtain ⟨m469, Tm469, Fm469, h470, rfl⟩ := k468
                refine ⟨_, _, rfl, ?_⟩
                refine T_nb (st' := []) rfl ?_
                have g471 : 0 ≤ m469.1 10 ∧ m469.1 10 ≤ 8 := Tm469.1 10
                have g472 : (-1) ≤ m469.1 11 ∧ m469.1 11 ≤ 4000 := Tm469.1 11
                replace h470 : (0 < (m387.1 10) → (m469.1 10) = (m387.1 10) ∧ (m469.1 11) = (m387.1 11)) ∧ ((m387.1 10) ≤ 0 → (m469.1 10) = (3 : Int) ∧ (m469.1 11) = (m.1 8)) := h470
                have hf473 : 1 ≤ (m469.1 10) := by omega
                clear q392_10 q392_11 h457 g463a g463b h464 h466 h470
                exact J97_76 v386 (mO m469 [] []) (r32 (by omega) (by omega)) Tm469 (fr_m (fr_s Fm469 (fr_m (fr_s Fm387 (fr_m (fr_s Fm381 (fr_m fr_0 rfl rfl) rfl rfl) rfl rfl) rfl rfl) rfl rfl) rfl rfl) rfl rfl) (show 0 ≤ v386 by omega) (show v386 ≤ 63 by omega) (show ∀ k, (m.2 47) k + (m.2 48) k ≤ 4000 by first | exact hPA | (intro k; have := hPA0 k; have h7 := hLx0 hf0; unfold upI; split <;> omega)) (show v386 < ((4 * a) + ((m.2 46) a)) by omega) (show 1 ≤ ((4 * a) + ((m.2 46) a)) ∧ ((4 * a) + ((m.2 46) a)) ≤ 64 by omega) (show 1 ≤ (m469.1 10) by omega)
          · skip
            clear c393
            have hf474 : 1 ≤ (m387.1 10) := by omega
            refine T_ld 58 (.int (i32 v386)) rfl (fun _ => rfl) ?_
            refine T_ld 59 (.int (i32 ((4 * a) + ((m.2 46) a)))) rfl (fun _ => rfl) ?_
            refine T_icmp 103 62 rfl rfl rfl (r32 (by omega) (by omega)) (r32 (by omega) (by omega)) (fun (h475 : (4 * a) + ((m.2 46) a) ≤ v386) => ?_) (fun (h475 : ¬ ((4 * a) + ((m.2 46) a) ≤ v386)) => ?_)
            · skip
              refine T_gf 107 (.int (i32 (m387.1 10))) rfl rfl rfl rfl rfl rfl ?_
              refine T_if 111 110 rfl rfl rfl (r32 (by omega) (by omega)) (fun (h476 : (m387.1 10) ≤ 0) => by exfalso; omega) (fun (h476 : ¬ ((m387.1 10) ≤ 0)) => ?_)
              refine T_ret rfl (fun _ => rfl) ?_
              exact ⟨(mO m387 [] []), Tm387, (fr_m (fr_s Fm387 (fr_m (fr_s Fm381 (fr_m fr_0 rfl rfl) rfl rfl) rfl rfl) rfl rfl) rfl rfl), (show (m387.1 10) = 0 → (m.1 10) = 0 by omega), (show LxP (m387.1 7) (m387.1 8) (m387.1 9) (m.1 6) (m387.1 10) by rewrite [(show (m387.1 7) = (m.1 7) from ((fr1 Fm387 7 rfl).trans (fr1 Fm381 7 rfl))), (show (m387.1 8) = (m.1 8) from ((fr1 Fm387 8 rfl).trans (fr1 Fm381 8 rfl))), (show (m387.1 9) = (m.1 9) from ((fr1 Fm387 9 rfl).trans (fr1 Fm381 9 rfl)))]; first | (first | exact hLx | exact (fun _ => hLx (by omega)) | (intro h9; exfalso; omega)) | (exfalso; omega)), (show ∀ k, (m387.2 47) k + (m387.2 48) k ≤ 4000 by rewrite [(show (m387.2 47) = (m.2 47) from ((fr2 Fm387 47 rfl).trans (fr2 Fm381 47 rfl))), (show (m387.2 48) = (m.2 48) from ((fr2 Fm387 48 rfl).trans (fr2 Fm381 48 rfl)))]; first | (first | exact hPA | (intro k; have := hPA0 k; have h7 := hLx0 hf0; unfold upI; split <;> omega)) | (exfalso; omega)), (fun (h : (m387.1 10) = 0) => absurd h (by omega)), rfl⟩
            · skip
              refine T_gf 66 (.int (i32 (m387.1 10))) rfl rfl rfl rfl rfl rfl ?_
              refine T_if 103 69 rfl rfl rfl (r32 (by omega) (by omega)) (fun (h477 : (m387.1 10) ≠ 0) => ?_) (fun (h477 : ¬ ((m387.1 10) ≠ 0)) => by exfalso; omega)
              refine T_gf 107 (.int (i32 (m387.1 10))) rfl rfl rfl rfl rfl rfl ?_
              refine T_if 111 110 rfl rfl rfl (r32 (by omega) (by omega)) (fun (h478 : (m387.1 10) ≤ 0) => by exfalso; omega) (fun (h478 : ¬ ((m387.1 10) ≤ 0)) => ?_)
              refine T_ret rfl (fun _ => rfl) ?_
              exact ⟨(mO m387 [] []), Tm387, (fr_m (fr_s Fm387 (fr_m (fr_s Fm381 (fr_m fr_0 rfl rfl) rfl rfl) rfl rfl) rfl rfl) rfl rfl), (show (m387.1 10) = 0 → (m.1 10) = 0 by omega), (show LxP (m387.1 7) (m387.1 8) (m387.1 9) (m.1 6) (m387.1 10) by rewrite [(show (m387.1 7) = (m.1 7) from ((fr1 Fm387 7 rfl).trans (fr1 Fm381 7 rfl))), (show (m387.1 8) = (m.1 8) from ((fr1 Fm387 8 rfl).trans (fr1 Fm381 8 rfl))), (show (m387.1 9) = (m.1 9) from ((fr1 Fm387 9 rfl).trans (fr1 Fm381 9 rfl)))]; first | (first | exact hLx | exact (fun _ => hLx (by omega)) | (intro h9; exfalso; omega)) | (exfalso; omega)), (show ∀ k, (m387.2 47) k + (m387.2 48) k ≤ 4000 by rewrite [(show (m387.2 47) = (m.2 47) from ((fr2 Fm387 47 rfl).trans (fr2 Fm381 47 rfl))), (show (m387.2 48) = (m.2 48) from ((fr2 Fm387 48 rfl).trans (fr2 Fm381 48 rfl)))]; first | (first | exact hPA | (intro k; have := hPA0 k; have h7 := hLx0 hf0; unfold upI; split <;> omega)) | (exfalso; omega)), (fun (h : (m387.1 10) = 0) => absurd h (by omega)), rfl⟩
      refine Tm_lv (a := [(0, .ref 189), (1, .int (i32 a)), (2, .int (i32 ((4 * a) + ((m.2 46) a)))), (3, .int (i32 (4 * a)))]) rfl rfl ⟨rfl, rfl, rfl, rfl, trivial⟩ ?_
      exact L57_388 ((((4 * a) + ((m.2 46) a)) - (4 * a) : Int) + 1).toNat (4 * a) (mO m381 [] []) (r32 (by omega) (by omega)) Tm381 (fr_m fr_0 rfl rfl) (show 0 ≤ (4 * a) by omega) (show (4 * a) ≤ (4 * a) + ((m.2 46) a) by omega) (fun (h : (m381.1 10) = 0) => absurd h (by omega)) (show ((4 * a) + ((m.2 46) a)) - (4 * a) < ((((((4 * a) + ((m.2 46) a)) - (4 * a) : Int) + 1).toNat : Nat) : Int) by omega)
  · skip
    clear hC
    refine T_gf 4 (.int (i32 (m.1 10))) rfl rfl rfl rfl rfl rfl ?_
    refine T_if 8 7 rfl rfl rfl (r32 (by omega) (by omega)) (fun (h479 : (m.1 10) ≤ 0) => by exfalso; omega) (fun (h479 : ¬ ((m.1 10) ≤ 0)) => ?_)
    refine T_ret rfl (fun _ => rfl) ?_
    exact ⟨(mO m [] []), hT, (fr_m fr_0 rfl rfl), (show (m.1 10) = 0 → (m.1 10) = 0 by omega), (show LxP (m.1 7) (m.1 8) (m.1 9) (m.1 6) (m.1 10) by first | (first | exact hLx | exact (fun _ => hLx (by omega)) | (intro h9; exfalso; omega)) | (exfalso; omega)), (show ∀ k, (m.2 47) k + (m.2 48) k ≤ 4000 by first | (first | exact hPA | (intro k; have := hPA0 k; have h7 := hLx0 hf0; unfold upI; split <;> omega)) | (exfalso; omega)), (fun (h : (m.1 10) = 0) => absurd h (by omega)), rfl⟩
def fF_takeAction : List Nat := [7, 8, 9, 10, 11, 12, 13, 25, 28, 64, 69, 70, 71, 72, 73, 74, 75, 99, 100]
def fA_takeAction : List Nat := [14, 15, 16, 17, 46, 47, 48, 49, 50, 65, 66, 67, 68, 76, 77, 78, 79, 80, 81, 82, 83, 84, 85, 86, 87, 88, 89, 90, 91, 92, 101, 102, 103, 104, 105, 106, 107, 108, 109]
def Q_takeAction (m : mR) (c : Nat → Option am_C) (N : Nat) : ag_Re af_T → Prop := fun R => ∃ (M : mR), Ty M ∧ fr fF_takeAction fA_takeAction m M ∧ ((M.1 10) = 0 → (m.1 10) = 0) ∧ (LxP (M.1 7) (M.1 8) (M.1 9) (m.1 6) (M.1 10)) ∧ (∀ k, (M.2 14) k + (M.2 15) k ≤ 4000) ∧ (∀ k, (M.2 47) k + (M.2 48) k ≤ 4000) ∧ (M.1 10 = 0 → ((m.1 8) + 1 ≤ (M.1 8)) ∧ (PN (M.1 13) (m.1 19) (m.1 20) (m.1 21) (m.1 22) (m.1 23) (M.1 25) (m.1 26) (M.2 16) (M.2 17)) ∧ (CN (M.2 65) (M.2 67) (M.1 28)) ∧ ((m.1 28) ≤ (M.1 28)) ∧ (agr (m.2 65) (M.2 65) (m.1 28)) ∧ (TdP (M.2 65) (M.1 28) (m.1 22) (M.1 99) (M.2 101) (M.2 103) (M.2 105) (M.2 106) (M.2 107) (M.2 108)) ∧ (AcP (M.1 25) (M.1 99) (M.2 109) (M.2 50)) ∧ ((M.1 99) ≤ 12 * (M.1 25)) ∧ ((m.1 25) ≤ (M.1 25))) ∧ R = (.inl (none), (mhp M c, N), 0, 0)
set_option maxHeartbeats 3000000 in
theorem c_takeAction (w : wX) (m : mR) (c : Nat → Option am_C) (N D : Nat) (hD : 14 ≤ D) (hT : Ty m) (hLx0 : LxP (m.1 7) (m.1 8) (m.1 9) (m.1 6) (m.1 10)) (hNM0 : ∀ k, (m.2 14) k + (m.2 15) k ≤ 4000) (hFA0 : ∀ k, (m.2 31) k + (m.2 32) k ≤ 4000) (hPA0 : ∀ k, (m.2 47) k + (m.2 48) k ≤ 4000) (hf0 : m.1 10 = 0) (hC : (PN (m.1 13) (m.1 19) (m.1 20) (m.1 21) (m.1 22) (m.1 23) (m.1 25) (m.1 26) (m.2 16) (m.2 17)) ∧ (CN (m.2 65) (m.2 67) (m.1 28)) ∧ (TdP (m.2 65) (m.1 28) (m.1 22) (m.1 99) (m.2 101) (m.2 103) (m.2 105) (m.2 106) (m.2 107) (m.2 108)) ∧ (AcP (m.1 25) (m.1 99) (m.2 109) (m.2 50)) ∧ ((m.1 99) ≤ 12 * (m.1 25)) ∧ ((m.1 7) ≠ 0)) : TC w D 267 [.ref 189] (mhp m c, N) (Q_takeAction m c N) := by
  obtain ⟨D, rfl⟩ : ∃ k, D = k + 1 := ⟨D - 1, by omega⟩
  have hLx := hLx0
  have hNM := hNM0
  have hFA := hFA0
  have hPA := hPA0
  have f7 : 0 ≤ m.1 7 ∧ m.1 7 ≤ 330 := hT.1 7
  have f8 : 0 ≤ m.1 8 ∧ m.1 8 ≤ 4000 := hT.1 8
  have f9 : 0 ≤ m.1 9 ∧ m.1 9 ≤ 4000 := hT.1 9
  have f10 : 0 ≤ m.1 10 ∧ m.1 10 ≤ 8 := hT.1 10
  have f11 : (-1) ≤ m.1 11 ∧ m.1 11 ≤ 4000 := hT.1 11
  have f13 : 0 ≤ m.1 13 ∧ m.1 13 ≤ 120 := hT.1 13
  have f25 : 0 ≤ m.1 25 ∧ m.1 25 ≤ 16 := hT.1 25
  have f28 : 0 ≤ m.1 28 ∧ m.1 28 ≤ 800 := hT.1 28
  have f99 : 0 ≤ m.1 99 ∧ m.1 99 ≤ 240 := hT.1 99
  have f22 : 0 ≤ m.1 22 ∧ m.1 22 ≤ 8 := hT.1 22
  have f19 : 0 ≤ m.1 19 ∧ m.1 19 ≤ 12 := hT.1 19
  have f20 : 0 ≤ m.1 20 ∧ m.1 20 ≤ 12 := hT.1 20
  have f21 : 0 ≤ m.1 21 ∧ m.1 21 ≤ 16 := hT.1 21
  have f6 : 0 ≤ m.1 6 ∧ m.1 6 ≤ 4000 := hT.1 6
  have f23 : 0 ≤ m.1 23 ∧ m.1 23 ≤ 16 := hT.1 23
  have f26 : 0 ≤ m.1 26 ∧ m.1 26 ≤ 8 := hT.1 26
  refine Tc_of rfl ?_
  show TT w D pm_267 (0, [(0, .ref 189)], [], (mhp (mO m [] []) c, N), 0, 0) (Q_takeAction m c N)
  obtain ⟨pPN, hCN, pTd, pAc, c1, c2⟩ := hC
  have h7 := hLx (by omega)
  have hAgC := agr_r (m.2 65) (m.1 28)
  have hNM := hNM0
  have hPA := hPA0
  have hn := pPN.1
  refine T_ld 1 (.ref 189) rfl (fun _ => rfl) ?_
  refine T_call 4 212 [.ref 189] [] rfl (fun _ => rfl) rfl (d_next w (mO m [] []) c N D (by omega) hT (show (m.1 10) = 0 → (m.1 8) + (m.1 9) ≤ (m.1 6) by first | omega | (intro h9; have h8 := hLx h9; omega))) (fun rr3 k4 => ?_)
  obtain ⟨m5, Tm5, Fm5, h6, h7, h8, h9, rfl⟩ := k4
  refine ⟨_, _, rfl, ?_⟩
  refine T_nb (st' := []) rfl ?_
  have g10 : 0 ≤ m5.1 7 ∧ m5.1 7 ≤ 330 := Tm5.1 7
  have g11 : 0 ≤ m5.1 8 ∧ m5.1 8 ≤ 4000 := Tm5.1 8
  have g12 : 0 ≤ m5.1 9 ∧ m5.1 9 ≤ 4000 := Tm5.1 9
  have g13 : 0 ≤ m5.1 10 ∧ m5.1 10 ≤ 8 := Tm5.1 10
  have g14 : (-1) ≤ m5.1 11 ∧ m5.1 11 ≤ 4000 := Tm5.1 11
  by_cases hf15 : (m5.1 10) = 0
  · skip
    replace h6 : LxP (m5.1 7) (m5.1 8) (m5.1 9) (m.1 6) (m5.1 10) := h6
    have hLx := h6
    replace h7 : (m.1 10) = 0 := h7 hf15
    replace h8 : (m.1 8) ≤ (m5.1 8) := h8
    replace h9 : (m.1 8) + (m.1 9) ≤ (m5.1 8) := h9 hf15
    have u16 : (m.1 8) + 1 ≤ (m5.1 8) := by omega
    have hAgC : agr (m.2 65) (m.2 65) (m.1 28) := by first | exact agr_r _ _ | exact hAgC | exact agr_t hAgC hAg (by omega)
    have u17 : (m.1 28) ≤ (m.1 28) := by omega
    refine T_ld 5 (.ref 189) rfl (fun _ => rfl) ?_
    refine T_ld 7 (.int (i32 6)) rfl (fun _ => rfl) ?_
    refine T_gf 11 (.int (i32 (m.1 25))) rfl rfl rfl rfl (mfv_c (F := fun x => .int (i32 x)) rfl (show (m5.1 25) = (m.1 25) from (fr1 Fm5 25 rfl))) rfl ?_
    refine T_ld 13 (.int (i32 16)) rfl (fun _ => rfl) ?_
    refine T_call 16 225 [.ref 189, .int (i32 6), .int (i32 (m.1 25)), .int (i32 16)] [] rfl (fun _ => rfl) rfl (d_newName w (mO m5 [] []) c N D (by omega) Tm5 6 (m.1 25) 16 ⟨by decide, by decide⟩ (r32 (by omega) (by omega)) ⟨by decide, by decide⟩ (show LxP (m5.1 7) (m5.1 8) (m5.1 9) (m5.1 6) (m5.1 10) by rewrite [(show (m5.1 6) = (m.1 6) from (fr1 Fm5 6 rfl))]; first | exact hLx | (intro h9; exfalso; omega) | (intro h9; have h8 := hLx (by omega); omega)) (show ∀ k, (m5.2 14) k + (m5.2 15) k ≤ 4000 by rewrite [(show (m5.2 14) = (m.2 14) from (fr2 Fm5 14 rfl)), (show (m5.2 15) = (m.2 15) from (fr2 Fm5 15 rfl))]; first | exact p1 | exact hNM) (show (m5.1 10) = 0 → (m5.1 13) ≤ 119 by rewrite [(show (m5.1 13) = (m.1 13) from (fr1 Fm5 13 rfl))]; omega) (show 1 ≤ (6 : Int) ∧ (6 : Int) ≤ 7 by omega) (show 0 ≤ (m.1 25) ∧ ((m.1 25) ≠ (16 : Int) → (m.1 25) ≤ 15) by omega)) (fun rr18 k19 => ?_)
    obtain ⟨m20, nn, Tm20, Fm20, g21, h22, h23, h24, h25, h26, h27, h28, rfl⟩ := k19
    refine ⟨_, _, rfl, ?_⟩
    refine T_nb (st' := [.int (i32 nn)]) rfl ?_
    obtain ⟨g21a, g21b⟩ := g21
    have g29 : 0 ≤ m20.1 7 ∧ m20.1 7 ≤ 330 := Tm20.1 7
    have g30 : 0 ≤ m20.1 8 ∧ m20.1 8 ≤ 4000 := Tm20.1 8
    have g31 : 0 ≤ m20.1 9 ∧ m20.1 9 ≤ 4000 := Tm20.1 9
    have g32 : 0 ≤ m20.1 10 ∧ m20.1 10 ≤ 8 := Tm20.1 10
    have g33 : (-1) ≤ m20.1 11 ∧ m20.1 11 ≤ 4000 := Tm20.1 11
    have g34 : 0 ≤ m20.1 13 ∧ m20.1 13 ≤ 120 := Tm20.1 13
    by_cases hf35 : (m20.1 10) = 0
    · skip
      replace h22 : LxP (m20.1 7) (m20.1 8) (m20.1 9) (m5.1 6) (m20.1 10) := h22
      rewrite [(show (m5.1 6) = (m.1 6) from (fr1 Fm5 6 rfl))] at h22
      have hLx := h22
      replace h23 : (m5.1 8) ≤ (m20.1 8) := h23
      replace h24 : (m5.1 10) = 0 ∧ (m5.1 8) + (m5.1 9) ≤ (m20.1 8) := h24 hf35
      replace h25 : nn = 1 ∧ (m5.1 7) = 1 := h25 hf35
      replace h26 : nn = 1 → (m.1 25) ≠ (16 : Int) := h26
      replace h27 : ∀ k, (m20.2 14) k + (m20.2 15) k ≤ 4000 := h27
      have hNM := h27
      replace h28 : (nn = 1 ∧ (m5.1 10) = 0 ∧ (m20.1 13) = (m5.1 13) + 1 ∧ (m20.2 14) = upI (m5.2 14) (m5.1 13) (m5.1 8) ∧ (m20.2 15) = upI (m5.2 15) (m5.1 13) (m5.1 9) ∧ (m20.2 16) = upI (m5.2 16) (m5.1 13) (6 : Int) ∧ (m20.2 17) = upI (m5.2 17) (m5.1 13) (m.1 25)) ∨ (nn = 0 ∧ 0 < (m20.1 10) ∧ (m20.1 13) = (m5.1 13) ∧ (m20.2 14) = (m5.2 14) ∧ (m20.2 15) = (m5.2 15) ∧ (m20.2 16) = (m5.2 16) ∧ (m20.2 17) = (m5.2 17)) := h28
      rewrite [(show (m5.1 13) = (m.1 13) from (fr1 Fm5 13 rfl)), (show (m5.2 14) = (m.2 14) from (fr2 Fm5 14 rfl)), (show (m5.2 15) = (m.2 15) from (fr2 Fm5 15 rfl)), (show (m5.2 16) = (m.2 16) from (fr2 Fm5 16 rfl)), (show (m5.2 17) = (m.2 17) from (fr2 Fm5 17 rfl))] at h28
      have hN := h28
      have u36 : (m.1 8) + 1 ≤ (m20.1 8) := by omega
      have hAgC : agr (m.2 65) (m.2 65) (m.1 28) := by first | exact agr_r _ _ | exact hAgC | exact agr_t hAgC hAg (by omega)
      have u37 : (m.1 28) ≤ (m.1 28) := by omega
      clear g10 g11 g12 g13 g14 h6 h8 h9 u16 h23 h24 h25 h28
      refine T_if 20 19 rfl rfl rfl (r32 (by omega) (by omega)) (fun (h38 : nn ≠ 0) => ?_) (fun (h38 : ¬ (nn ≠ 0)) => by exfalso; omega)
      have hlt : (m.1 25) ≤ 15 := by omega
      have hn7 : (m20.1 13) = (m.1 13) + 1 ∧ (m20.2 16) = upI (m.2 16) (m.1 13) 6 ∧ (m20.2 17) = upI (m.2 17) (m.1 13) (m.1 25) := by
        rcases hN with ⟨e1, e2, e3, e4, e5, e6, e7⟩ | ⟨e1, e2⟩
        · exact ⟨e3, e6, e7⟩
        · omega
      have pPN : PN (m20.1 13) (m.1 19) (m.1 20) (m.1 21) (m.1 22) (m.1 23) ((m.1 25) + 1) (m.1 26) (m20.2 16) (m20.2 17) := by
        rw [hn7.1, hn7.2.1, hn7.2.2]
        exact PN_6 pPN (by omega)
      refine T_gf 24 (.int (i32 (m.1 25))) rfl rfl rfl rfl (mfv_c (F := fun x => .int (i32 x)) rfl (show (m20.1 25) = (m.1 25) from ((fr1 Fm20 25 rfl).trans (fr1 Fm5 25 rfl)))) rfl ?_
      refine T_sto 25 [(1, .int (i32 (m.1 25))), (0, .ref 189)] rfl (fun _ => rfl) ?_
      refine T_ld 26 (.ref 189) rfl (fun _ => rfl) ?_
      refine T_ld 27 (.ref 189) rfl (fun _ => rfl) ?_
      refine T_gf1 30 (.int (i32 (m.1 25))) rfl rfl (mfv_c (F := fun x => .int (i32 x)) rfl (show (m20.1 25) = (m.1 25) from ((fr1 Fm20 25 rfl).trans (fr1 Fm5 25 rfl)))) rfl ?_
      refine T_ld 31 (.int (i32 1)) rfl (fun _ => rfl) ?_
      refine T_iadd 32 rfl rfl ?_
      refine T_pf (l' := [(25, (m.1 25) + 1)]) 35 ((m.1 25) + 1) rfl rfl rfl rfl rfl rfl ?_
      have g39 : 0 ≤ (m.1 25) + 1 ∧ (m.1 25) + 1 ≤ 16 := ⟨by omega, by omega⟩
      refine T_gf 39 (.ref 269) rfl rfl rfl rfl rfl rfl ?_
      refine T_ld 40 (.int (i32 (m.1 25))) rfl (fun _ => rfl) ?_
      refine T_gf 44 (.int (i32 (m.1 99))) rfl rfl rfl rfl (mfv_c (F := fun x => .int (i32 x)) rfl (show (m20.1 99) = (m.1 99) from ((fr1 Fm20 99 rfl).trans (fr1 Fm5 99 rfl)))) rfl ?_
      have G40 : ∀ j, 0 ≤ (upI (m.2 109) (m.1 25) (m.1 99)) j ∧ (upI (m.2 109) (m.1 25) (m.1 99)) j ≤ 192 := upI_rg (hT.2.1 109) ⟨by omega, by omega⟩
      refine T_iast (a' := [(109, upI (m.2 109) (m.1 25) (m.1 99))]) 45 109 (m.2 109) rfl rfl rfl (by omega) (show (m.1 25) < (16 : Int) by omega) (show (m20.2 109) = (m.2 109) from ((fr2 Fm20 109 rfl).trans (fr2 Fm5 109 rfl))) rfl ?_
      refine T_gf 49 (.ref 216) rfl rfl rfl rfl rfl rfl ?_
      refine T_ld 50 (.int (i32 (m.1 25))) rfl (fun _ => rfl) ?_
      refine T_ld 51 (.int (i32 0)) rfl (fun _ => rfl) ?_
      have G41 : ∀ j, 0 ≤ (upI (m.2 46) (m.1 25) 0) j ∧ (upI (m.2 46) (m.1 25) 0) j ≤ 4 := upI_rg (hT.2.1 46) ⟨by omega, by omega⟩
      refine T_iast (a' := [(46, upI (m.2 46) (m.1 25) 0), (109, upI (m.2 109) (m.1 25) (m.1 99))]) 52 46 (m.2 46) rfl rfl rfl (by omega) (show (m.1 25) < (16 : Int) by omega) (show (m20.2 46) = (m.2 46) from ((fr2 Fm20 46 rfl).trans (fr2 Fm5 46 rfl))) rfl ?_
      refine T_gf 56 (.ref 220) rfl rfl rfl rfl rfl rfl ?_
      refine T_ld 57 (.int (i32 (m.1 25))) rfl (fun _ => rfl) ?_
      refine T_ld 58 (.int (i32 0)) rfl (fun _ => rfl) ?_
      have G42 : ∀ j, 0 ≤ (upI (m.2 50) (m.1 25) 0) j ∧ (upI (m.2 50) (m.1 25) 0) j ≤ 13 := upI_rg (hT.2.1 50) ⟨by omega, by omega⟩
      refine T_iast (a' := [(46, upI (m.2 46) (m.1 25) 0), (50, upI (m.2 50) (m.1 25) 0), (109, upI (m.2 109) (m.1 25) (m.1 99))]) 59 50 (m.2 50) rfl rfl rfl (by omega) (show (m.1 25) < (16 : Int) by omega) (show (m20.2 50) = (m.2 50) from ((fr2 Fm20 50 rfl).trans (fr2 Fm5 50 rfl))) rfl ?_
      refine T_ld 60 (.ref 189) rfl (fun _ => rfl) ?_
      refine T_ld 62 (.int (i32 40)) rfl (fun _ => rfl) ?_
      refine T_call 65 232 [.ref 189, .int (i32 40)] [] rfl (fun _ => rfl) rfl (d_need w (mO m20 [(25, (m.1 25) + 1)] [(46, upI (m.2 46) (m.1 25) 0), (50, upI (m.2 50) (m.1 25) 0), (109, upI (m.2 109) (m.1 25) (m.1 99))]) c N D (by omega) (Ty_mO Tm20 rfl rfl ⟨g39, trivial⟩ ⟨G41, G42, G40, trivial⟩) 40 ⟨by decide, by decide⟩ (show 1 ≤ (40 : Int) by omega) (show LxP (m20.1 7) (m20.1 8) (m20.1 9) (m20.1 6) (m20.1 10) by rewrite [(show (m20.1 6) = (m.1 6) from ((fr1 Fm20 6 rfl).trans (fr1 Fm5 6 rfl)))]; first | exact hLx | (intro h9; exfalso; omega) | (intro h9; have h8 := hLx (by omega); omega))) (fun rr43 k44 => ?_)
      obtain ⟨m45, Tm45, Fm45, h46, h47, h48, h49, rfl⟩ := k44
      refine ⟨_, _, rfl, ?_⟩
      refine T_nb (st' := []) rfl ?_
      have g50 : 0 ≤ m45.1 7 ∧ m45.1 7 ≤ 330 := Tm45.1 7
      have g51 : 0 ≤ m45.1 8 ∧ m45.1 8 ≤ 4000 := Tm45.1 8
      have g52 : 0 ≤ m45.1 9 ∧ m45.1 9 ≤ 4000 := Tm45.1 9
      have g53 : 0 ≤ m45.1 10 ∧ m45.1 10 ≤ 8 := Tm45.1 10
      have g54 : (-1) ≤ m45.1 11 ∧ m45.1 11 ≤ 4000 := Tm45.1 11
      by_cases hf55 : (m45.1 10) = 0
      · skip
        replace h46 : LxP (m45.1 7) (m45.1 8) (m45.1 9) (m20.1 6) (m45.1 10) := h46
        rewrite [(show (m20.1 6) = (m.1 6) from ((fr1 Fm20 6 rfl).trans (fr1 Fm5 6 rfl)))] at h46
        have hLx := h46
        replace h47 : (m20.1 10) = 0 ∧ (m20.1 7) = (40 : Int) := h47 hf55
        replace h48 : (m20.1 8) ≤ (m45.1 8) := h48
        replace h49 : (m20.1 8) + (m20.1 9) ≤ (m45.1 8) := h49 hf55
        have u56 : (m.1 8) + 1 ≤ (m45.1 8) := by omega
        have hAgC : agr (m.2 65) (m.2 65) (m.1 28) := by first | exact agr_r _ _ | exact hAgC | exact agr_t hAgC hAg (by omega)
        have u57 : (m.1 28) ≤ (m.1 28) := by omega
        clear g29 g30 g31 g32 g33 g21a g21b h22 h26 u36 h38 h47 h48 h49
        refine T_gf 69 (.int (i32 (m45.1 10))) rfl rfl rfl rfl rfl rfl ?_
        refine T_if 85 72 rfl rfl rfl (r32 (by omega) (by omega)) (fun (h58 : (m45.1 10) ≠ 0) => by exfalso; omega) (fun (h58 : ¬ ((m45.1 10) ≠ 0)) => ?_)
        refine T_gf 76 (.int (i32 (m45.1 7))) rfl rfl rfl rfl rfl rfl ?_
        refine T_ld 78 (.int (i32 41)) rfl (fun _ => rfl) ?_
        refine T_icmp 85 81 rfl rfl rfl (r32 (by omega) (by omega)) ⟨by decide, by decide⟩ (fun (h59 : (m45.1 7) = 41) => ?_) (fun (h59 : ¬ ((m45.1 7) = 41)) => ?_)
        · skip
          refine T_ld 86 (.int (i32 0)) rfl (fun _ => rfl) ?_
          refine T_sto 87 [(2, .int (i32 0)), (1, .int (i32 (m.1 25))), (0, .ref 189)] rfl (fun _ => rfl) ?_
          have L87_62 : ∀ (n71 : Nat) (v60 : Int) (m61 : mR), (R32 v60) → Ty m61 → fr [7, 8, 9, 10, 11, 12] [46, 47, 48, 49] (mO m45 [] []) m61 → (0 ≤ v60) → (v60 ≤ 0) → (LxP (m61.1 7) (m61.1 8) (m61.1 9) (m.1 6) (m61.1 10)) → (∀ k, (m61.2 47) k + (m61.2 48) k ≤ 4000) → (v60 = 0 ∨ v60 = 1) → ((m61.1 10) = 0 → ((m.1 8) + 1 ≤ (m61.1 8))) → 1000000 * (8 - (m61.1 10)) + 2 * (4000 - (m61.1 8)) + v60 < (n71 : Int) → TT w D pm_267 (87, [(0, .ref 189), (1, .int (i32 (m.1 25))), (2, .int (i32 v60))], [], (mhp (mO m61 [] []) c, N), 0, 0) (Q_takeAction m c N) := by
            intro n71
            induction n71 with
            | zero =>
              intro v60 m61 q68 Tm61 Fm61 ic63 ic64 ic65 ic66 ic67 c70 hmu
              obtain ⟨q68a, q68b⟩ := id q68
              have q69_7 : 0 ≤ m61.1 7 ∧ m61.1 7 ≤ 330 := Tm61.1 7
              have q69_8 : 0 ≤ m61.1 8 ∧ m61.1 8 ≤ 4000 := Tm61.1 8
              have q69_9 : 0 ≤ m61.1 9 ∧ m61.1 9 ≤ 4000 := Tm61.1 9
              have q69_10 : 0 ≤ m61.1 10 ∧ m61.1 10 ≤ 8 := Tm61.1 10
              have q69_11 : (-1) ≤ m61.1 11 ∧ m61.1 11 ≤ 4000 := Tm61.1 11
              have hLx := ic65
              have hPA := ic66
              exfalso
              omega
            | succ n71 ih =>
              intro v60 m61 q68 Tm61 Fm61 ic63 ic64 ic65 ic66 ic67 c70 hmu
              obtain ⟨q68a, q68b⟩ := id q68
              have q69_7 : 0 ≤ m61.1 7 ∧ m61.1 7 ≤ 330 := Tm61.1 7
              have q69_8 : 0 ≤ m61.1 8 ∧ m61.1 8 ≤ 4000 := Tm61.1 8
              have q69_9 : 0 ≤ m61.1 9 ∧ m61.1 9 ≤ 4000 := Tm61.1 9
              have q69_10 : 0 ≤ m61.1 10 ∧ m61.1 10 ≤ 8 := Tm61.1 10
              have q69_11 : (-1) ≤ m61.1 11 ∧ m61.1 11 ≤ 4000 := Tm61.1 11
              have hLx := ic65
              have hPA := ic66
              have ih72 := ih
              by_cases hf73 : (m61.1 10) = 0
              · skip
                have c74 := c70 hf73
                clear c70
                refine T_ld 88 (.int (i32 v60)) rfl (fun _ => rfl) ?_
                refine T_if 136 91 rfl rfl rfl (r32 (by omega) (by omega)) (fun (h75 : v60 = 0) => ?_) (fun (h75 : ¬ (v60 = 0)) => by exfalso; omega)
                refine T_ld 137 (.ref 189) rfl (fun _ => rfl) ?_
                refine T_ld 139 (.int (i32 41)) rfl (fun _ => rfl) ?_
                refine T_call 142 232 [.ref 189, .int (i32 41)] [] rfl (fun _ => rfl) rfl (d_need w (mO m61 [] []) c N D (by omega) Tm61 41 ⟨by decide, by decide⟩ (show 1 ≤ (41 : Int) by omega) (show LxP (m61.1 7) (m61.1 8) (m61.1 9) (m61.1 6) (m61.1 10) by rewrite [(show (m61.1 6) = (m.1 6) from ((fr1 Fm61 6 rfl).trans ((fr1 Fm45 6 rfl).trans ((fr1 Fm20 6 rfl).trans (fr1 Fm5 6 rfl)))))]; first | exact hLx | (intro h9; exfalso; omega) | (intro h9; have h8 := hLx (by omega); omega))) (fun rr76 k77 => ?_)
                obtain ⟨m78, Tm78, Fm78, h79, h80, h81, h82, rfl⟩ := k77
                refine ⟨_, _, rfl, ?_⟩
                refine T_nb (st' := []) rfl ?_
                have g83 : 0 ≤ m78.1 7 ∧ m78.1 7 ≤ 330 := Tm78.1 7
                have g84 : 0 ≤ m78.1 8 ∧ m78.1 8 ≤ 4000 := Tm78.1 8
                have g85 : 0 ≤ m78.1 9 ∧ m78.1 9 ≤ 4000 := Tm78.1 9
                have g86 : 0 ≤ m78.1 10 ∧ m78.1 10 ≤ 8 := Tm78.1 10
                have g87 : (-1) ≤ m78.1 11 ∧ m78.1 11 ≤ 4000 := Tm78.1 11
                by_cases hf88 : (m78.1 10) = 0
                · skip
                  replace h79 : LxP (m78.1 7) (m78.1 8) (m78.1 9) (m61.1 6) (m78.1 10) := h79
                  rewrite [(show (m61.1 6) = (m.1 6) from ((fr1 Fm61 6 rfl).trans ((fr1 Fm45 6 rfl).trans ((fr1 Fm20 6 rfl).trans (fr1 Fm5 6 rfl)))))] at h79
                  have hLx := h79
                  replace h80 : (m61.1 10) = 0 ∧ (m61.1 7) = (41 : Int) := h80 hf88
                  replace h81 : (m61.1 8) ≤ (m78.1 8) := h81
                  replace h82 : (m61.1 8) + (m61.1 9) ≤ (m78.1 8) := h82 hf88
                  have u89 : (m61.1 8) ≤ (m78.1 8) := by omega
                  have u90 : (m.1 8) + 1 ≤ (m78.1 8) := by omega
                  have hAgC : agr (m.2 65) (m.2 65) (m.1 28) := by first | exact agr_r _ _ | exact hAgC | exact agr_t hAgC hAg (by omega)
                  have u91 : (m.1 28) ≤ (m.1 28) := by omega
                  clear g50 g51 g52 g53 g54 h46 u56 h58 h59 q69_7 q69_9 q69_11 ic65 h80 h82
                  refine T_ld 143 (.ref 189) rfl (fun _ => rfl) ?_
                  refine T_ld 145 (.int (i32 123)) rfl (fun _ => rfl) ?_
                  refine T_call 148 232 [.ref 189, .int (i32 123)] [] rfl (fun _ => rfl) rfl (d_need w (mO m78 [] []) c N D (by omega) Tm78 123 ⟨by decide, by decide⟩ (show 1 ≤ (123 : Int) by omega) (show LxP (m78.1 7) (m78.1 8) (m78.1 9) (m78.1 6) (m78.1 10) by rewrite [(show (m78.1 6) = (m.1 6) from ((fr1 Fm78 6 rfl).trans ((fr1 Fm61 6 rfl).trans ((fr1 Fm45 6 rfl).trans ((fr1 Fm20 6 rfl).trans (fr1 Fm5 6 rfl))))))]; first | exact hLx | (intro h9; exfalso; omega) | (intro h9; have h8 := hLx (by omega); omega))) (fun rr92 k93 => ?_)
                  obtain ⟨m94, Tm94, Fm94, h95, h96, h97, h98, rfl⟩ := k93
                  refine ⟨_, _, rfl, ?_⟩
                  refine T_nb (st' := []) rfl ?_
                  have g99 : 0 ≤ m94.1 7 ∧ m94.1 7 ≤ 330 := Tm94.1 7
                  have g100 : 0 ≤ m94.1 8 ∧ m94.1 8 ≤ 4000 := Tm94.1 8
                  have g101 : 0 ≤ m94.1 9 ∧ m94.1 9 ≤ 4000 := Tm94.1 9
                  have g102 : 0 ≤ m94.1 10 ∧ m94.1 10 ≤ 8 := Tm94.1 10
                  have g103 : (-1) ≤ m94.1 11 ∧ m94.1 11 ≤ 4000 := Tm94.1 11
                  by_cases hf104 : (m94.1 10) = 0
                  · skip
                    replace h95 : LxP (m94.1 7) (m94.1 8) (m94.1 9) (m78.1 6) (m94.1 10) := h95
                    rewrite [(show (m78.1 6) = (m.1 6) from ((fr1 Fm78 6 rfl).trans ((fr1 Fm61 6 rfl).trans ((fr1 Fm45 6 rfl).trans ((fr1 Fm20 6 rfl).trans (fr1 Fm5 6 rfl))))))] at h95
                    have hLx := h95
                    replace h96 : (m78.1 10) = 0 ∧ (m78.1 7) = (123 : Int) := h96 hf104
                    replace h97 : (m78.1 8) ≤ (m94.1 8) := h97
                    replace h98 : (m78.1 8) + (m78.1 9) ≤ (m94.1 8) := h98 hf104
                    have u105 : (m61.1 8) ≤ (m94.1 8) := by omega
                    have u106 : (m.1 8) + 1 ≤ (m94.1 8) := by omega
                    have hAgC : agr (m.2 65) (m.2 65) (m.1 28) := by first | exact agr_r _ _ | exact hAgC | exact agr_t hAgC hAg (by omega)
                    have u107 : (m.1 28) ≤ (m.1 28) := by omega
                    clear g83 g84 g85 g86 g87 h79 h81 u90 u89 h96 h97 h98
                    refine T_ld 149 (.ref 189) rfl (fun _ => rfl) ?_
                    refine T_ld 150 (.int (i32 (m.1 25))) rfl (fun _ => rfl) ?_
                    refine T_pf (l' := [(64, (m.1 25))]) 153 (m.1 25) rfl rfl rfl rfl rfl rfl ?_
                    have g108 : (-1) ≤ (m.1 25) ∧ (m.1 25) ≤ 15 := ⟨by omega, by omega⟩
                    refine T_fl (Ty_mO Tm94 rfl rfl ⟨g108, trivial⟩ trivial) (fun m109 Tm109 Fm109 => ?_)
                    have L153_111 : ∀ (n116 : Nat) (m110 : mR), Ty m110 → fr [7, 8, 9, 10, 11, 12, 28, 69, 70, 71, 72, 73, 74, 75, 99, 100] [50, 65, 66, 67, 68, 76, 77, 78, 79, 80, 81, 82, 83, 84, 85, 86, 87, 88, 89, 90, 91, 92, 101, 102, 103, 104, 105, 106, 107, 108] (mO m109 [] []) m110 → (LxP (m110.1 7) (m110.1 8) (m110.1 9) (m.1 6) (m110.1 10)) → (0 ≤ (m110.2 50) (m.1 25) ∧ (m110.2 50) (m.1 25) ≤ 13) → ((m110.1 10) = 0 → ((m.1 8) + 1 ≤ (m110.1 8)) ∧ (CN (m110.2 65) (m110.2 67) (m110.1 28)) ∧ ((m.1 28) ≤ (m110.1 28)) ∧ (agr (m.2 65) (m110.2 65) (m.1 28)) ∧ (TdP (m110.2 65) (m110.1 28) (m.1 22) (m110.1 99) (m110.2 101) (m110.2 103) (m110.2 105) (m110.2 106) (m110.2 107) (m110.2 108)) ∧ ((m110.1 99) = (m.1 99) + (m110.2 50) (m.1 25)) ∧ ((m110.2 50) (m.1 25) ≤ 12) ∧ (agr (m.2 50) (m110.2 50) (m.1 25))) → 1000000 * (8 - (m110.1 10)) + (4000 - (m110.1 8)) < (n116 : Int) → TT w D pm_267 (153, [(0, .ref 189), (1, .int (i32 (m.1 25))), (2, .int (i32 v60))], [], (mhp (mO m110 [] []) c, N), 0, 0) (Q_takeAction m c N) := by
                      intro n116
                      induction n116 with
                      | zero =>
                        intro m110 Tm110 Fm110 ic112 ic113 c115 hmu
                        have q114_7 : 0 ≤ m110.1 7 ∧ m110.1 7 ≤ 330 := Tm110.1 7
                        have q114_8 : 0 ≤ m110.1 8 ∧ m110.1 8 ≤ 4000 := Tm110.1 8
                        have q114_9 : 0 ≤ m110.1 9 ∧ m110.1 9 ≤ 4000 := Tm110.1 9
                        have q114_10 : 0 ≤ m110.1 10 ∧ m110.1 10 ≤ 8 := Tm110.1 10
                        have q114_11 : (-1) ≤ m110.1 11 ∧ m110.1 11 ≤ 4000 := Tm110.1 11
                        have q114_28 : 0 ≤ m110.1 28 ∧ m110.1 28 ≤ 800 := Tm110.1 28
                        have q114_99 : 0 ≤ m110.1 99 ∧ m110.1 99 ≤ 240 := Tm110.1 99
                        have hLx := ic112
                        exfalso
                        omega
                      | succ n116 ih =>
                        intro m110 Tm110 Fm110 ic112 ic113 c115 hmu
                        have q114_7 : 0 ≤ m110.1 7 ∧ m110.1 7 ≤ 330 := Tm110.1 7
                        have q114_8 : 0 ≤ m110.1 8 ∧ m110.1 8 ≤ 4000 := Tm110.1 8
                        have q114_9 : 0 ≤ m110.1 9 ∧ m110.1 9 ≤ 4000 := Tm110.1 9
                        have q114_10 : 0 ≤ m110.1 10 ∧ m110.1 10 ≤ 8 := Tm110.1 10
                        have q114_11 : (-1) ≤ m110.1 11 ∧ m110.1 11 ≤ 4000 := Tm110.1 11
                        have q114_28 : 0 ≤ m110.1 28 ∧ m110.1 28 ≤ 800 := Tm110.1 28
                        have q114_99 : 0 ≤ m110.1 99 ∧ m110.1 99 ≤ 240 := Tm110.1 99
                        have hLx := ic112
                        have ih117 := ih
                        by_cases hf118 : (m110.1 10) = 0
                        · skip
                          obtain ⟨c119, c120, c121, c122, c123, c124, c125, c126⟩ := c115 hf118
                          clear c115
                          have hCN := c120
                          have hAgC := c122
                          have pTd := c123
                          have hTl := c124
                          have hS1 := c126
                          refine T_gf 157 (.int (i32 (m110.1 10))) rfl rfl rfl rfl rfl rfl ?_
                          refine T_if 211 160 rfl rfl rfl (r32 (by omega) (by omega)) (fun (h127 : (m110.1 10) ≠ 0) => by exfalso; omega) (fun (h127 : ¬ ((m110.1 10) ≠ 0)) => ?_)
                          refine T_ld 161 (.ref 189) rfl (fun _ => rfl) ?_
                          refine T_call 164 269 [.ref 189] [] rfl (fun _ => rfl) rfl (c_isStatement w (mO m110 [] []) c N D (by omega) Tm110 ) (fun rr128 k129 => ?_)
                          obtain ⟨x130, g131, h132, rfl⟩ := k129
                          refine ⟨_, _, rfl, ?_⟩
                          refine T_ns (st' := [.int (i32 x130)]) rfl ?_
                          obtain ⟨g131a, g131b⟩ := g131
                          replace h132 : x130 = 1 → (m110.1 7) ≠ 0 := h132
                          have u133 : (m110.1 8) ≤ (m110.1 8) := by omega
                          have u134 : (m.1 8) + 1 ≤ (m110.1 8) := by omega
                          have hAgC : agr (m.2 65) (m110.2 65) (m.1 28) := by first | exact agr_r _ _ | exact hAgC | exact agr_t hAgC hAg (by omega)
                          have u135 : (m.1 28) ≤ (m110.1 28) := by omega
                          clear g99 g100 g101 g102 g103 h95 u106 u105
                          refine T_if 211 167 rfl rfl rfl (r32 (by omega) (by omega)) (fun (h136 : x130 = 0) => ?_) (fun (h136 : ¬ (x130 = 0)) => ?_)
                          · skip
                            refine T_ld 212 (.ref 189) rfl (fun _ => rfl) ?_
                            refine T_ld 213 (.int (i32 (-1))) rfl (fun _ => rfl) ?_
                            refine T_pf (l' := [(64, (-1))]) 216 (-1) rfl rfl rfl rfl rfl rfl ?_
                            have hAc2 : AcP ((m.1 25) + 1) (m110.1 99) (upI (m.2 109) (m.1 25) (m.1 99)) (m110.2 50) := AcP_add (AcP_k pAc (by omega)) (agr_u (Int.le_refl _)) hS1 (by rw [upI_s]; omega)
                            refine T_ld 217 (.ref 189) rfl (fun _ => rfl) ?_
                            refine T_ld 219 (.int (i32 125)) rfl (fun _ => rfl) ?_
                            refine T_call 222 232 [.ref 189, .int (i32 125)] [] rfl (fun _ => rfl) rfl (d_need w (mO m110 [(64, (-1))] []) c N D (by omega) (Ty_mO Tm110 rfl rfl ⟨⟨(by omega : ((-1) : Int) ≤ (-1)), (by omega : ((-1) : Int) ≤ 15)⟩, trivial⟩ trivial) 125 ⟨by decide, by decide⟩ (show 1 ≤ (125 : Int) by omega) (show LxP (m110.1 7) (m110.1 8) (m110.1 9) (m110.1 6) (m110.1 10) by rewrite [(show (m110.1 6) = (m.1 6) from ((fr1 Fm110 6 rfl).trans ((fr1 Fm109 6 rfl).trans ((fr1 Fm94 6 rfl).trans ((fr1 Fm78 6 rfl).trans ((fr1 Fm61 6 rfl).trans ((fr1 Fm45 6 rfl).trans ((fr1 Fm20 6 rfl).trans (fr1 Fm5 6 rfl)))))))))]; first | exact hLx | (intro h9; exfalso; omega) | (intro h9; have h8 := hLx (by omega); omega))) (fun rr137 k138 => ?_)
                            obtain ⟨m139, Tm139, Fm139, h140, h141, h142, h143, rfl⟩ := k138
                            refine ⟨_, _, rfl, ?_⟩
                            refine T_nb (st' := []) rfl ?_
                            have g144 : 0 ≤ m139.1 7 ∧ m139.1 7 ≤ 330 := Tm139.1 7
                            have g145 : 0 ≤ m139.1 8 ∧ m139.1 8 ≤ 4000 := Tm139.1 8
                            have g146 : 0 ≤ m139.1 9 ∧ m139.1 9 ≤ 4000 := Tm139.1 9
                            have g147 : 0 ≤ m139.1 10 ∧ m139.1 10 ≤ 8 := Tm139.1 10
                            have g148 : (-1) ≤ m139.1 11 ∧ m139.1 11 ≤ 4000 := Tm139.1 11
                            by_cases hf149 : (m139.1 10) = 0
                            · skip
                              replace h140 : LxP (m139.1 7) (m139.1 8) (m139.1 9) (m110.1 6) (m139.1 10) := h140
                              rewrite [(show (m110.1 6) = (m.1 6) from ((fr1 Fm110 6 rfl).trans ((fr1 Fm109 6 rfl).trans ((fr1 Fm94 6 rfl).trans ((fr1 Fm78 6 rfl).trans ((fr1 Fm61 6 rfl).trans ((fr1 Fm45 6 rfl).trans ((fr1 Fm20 6 rfl).trans (fr1 Fm5 6 rfl)))))))))] at h140
                              have hLx := h140
                              replace h141 : (m110.1 10) = 0 ∧ (m110.1 7) = (125 : Int) := h141 hf149
                              replace h142 : (m110.1 8) ≤ (m139.1 8) := h142
                              replace h143 : (m110.1 8) + (m110.1 9) ≤ (m139.1 8) := h143 hf149
                              have u150 : (m110.1 8) ≤ (m139.1 8) := by omega
                              have u151 : (m.1 8) + 1 ≤ (m139.1 8) := by omega
                              have hAgC : agr (m.2 65) (m110.2 65) (m.1 28) := by first | exact agr_r _ _ | exact hAgC | exact agr_t hAgC hAg (by omega)
                              have u152 : (m.1 28) ≤ (m110.1 28) := by omega
                              clear q114_7 q114_9 q114_11 ic112 g131a g131b h132 h136 h141 h143
                              refine T_ret rfl (fun _ => rfl) ?_
                              exact ⟨(mO m139 [] []), Tm139, (fr_m (fr_s Fm139 (fr_m (fr_s Fm110 (fr_m (fr_s Fm109 (fr_m (fr_s Fm94 (fr_m (fr_s Fm78 (fr_m (fr_s Fm61 (fr_m (fr_s Fm45 (fr_m (fr_s Fm20 (fr_m (fr_s Fm5 (fr_m fr_0 rfl rfl) rfl rfl) rfl rfl) rfl rfl) rfl rfl) rfl rfl) rfl rfl) rfl rfl) rfl rfl) rfl rfl) rfl rfl) rfl rfl) rfl rfl) rfl rfl) rfl rfl) rfl rfl) rfl rfl) rfl rfl) rfl rfl), (show (m139.1 10) = 0 → (m.1 10) = 0 by omega), (show LxP (m139.1 7) (m139.1 8) (m139.1 9) (m.1 6) (m139.1 10) by first | (first | exact hLx | exact (fun _ => hLx (by omega)) | (intro h9; exfalso; omega)) | (exfalso; omega)), (show ∀ k, (m139.2 14) k + (m139.2 15) k ≤ 4000 by rewrite [(show (m139.2 14) = (m20.2 14) from ((fr2 Fm139 14 rfl).trans ((fr2 Fm110 14 rfl).trans ((fr2 Fm109 14 rfl).trans ((fr2 Fm94 14 rfl).trans ((fr2 Fm78 14 rfl).trans ((fr2 Fm61 14 rfl).trans (fr2 Fm45 14 rfl)))))))), (show (m139.2 15) = (m20.2 15) from ((fr2 Fm139 15 rfl).trans ((fr2 Fm110 15 rfl).trans ((fr2 Fm109 15 rfl).trans ((fr2 Fm94 15 rfl).trans ((fr2 Fm78 15 rfl).trans ((fr2 Fm61 15 rfl).trans (fr2 Fm45 15 rfl))))))))]; first | (exact hNM) | (exfalso; omega)), (show ∀ k, (m139.2 47) k + (m139.2 48) k ≤ 4000 by rewrite [(show (m139.2 47) = (m61.2 47) from ((fr2 Fm139 47 rfl).trans ((fr2 Fm110 47 rfl).trans ((fr2 Fm109 47 rfl).trans ((fr2 Fm94 47 rfl).trans (fr2 Fm78 47 rfl)))))), (show (m139.2 48) = (m61.2 48) from ((fr2 Fm139 48 rfl).trans ((fr2 Fm110 48 rfl).trans ((fr2 Fm109 48 rfl).trans ((fr2 Fm94 48 rfl).trans (fr2 Fm78 48 rfl))))))]; first | (exact hPA) | (exfalso; omega)), (fun _ => ⟨(show (m.1 8) + 1 ≤ (m139.1 8) by omega), (show PN (m139.1 13) (m.1 19) (m.1 20) (m.1 21) (m.1 22) (m.1 23) (m139.1 25) (m.1 26) (m139.2 16) (m139.2 17) by rewrite [(show (m139.1 13) = (m20.1 13) from ((fr1 Fm139 13 rfl).trans ((fr1 Fm110 13 rfl).trans ((fr1 Fm109 13 rfl).trans ((fr1 Fm94 13 rfl).trans ((fr1 Fm78 13 rfl).trans ((fr1 Fm61 13 rfl).trans (fr1 Fm45 13 rfl)))))))), (show (m139.1 25) = ((m.1 25) + 1) from ((fr1 Fm139 25 rfl).trans ((fr1 Fm110 25 rfl).trans ((fr1 Fm109 25 rfl).trans ((fr1 Fm94 25 rfl).trans ((fr1 Fm78 25 rfl).trans ((fr1 Fm61 25 rfl).trans (fr1 Fm45 25 rfl)))))))), (show (m139.2 16) = (m20.2 16) from ((fr2 Fm139 16 rfl).trans ((fr2 Fm110 16 rfl).trans ((fr2 Fm109 16 rfl).trans ((fr2 Fm94 16 rfl).trans ((fr2 Fm78 16 rfl).trans ((fr2 Fm61 16 rfl).trans (fr2 Fm45 16 rfl)))))))), (show (m139.2 17) = (m20.2 17) from ((fr2 Fm139 17 rfl).trans ((fr2 Fm110 17 rfl).trans ((fr2 Fm109 17 rfl).trans ((fr2 Fm94 17 rfl).trans ((fr2 Fm78 17 rfl).trans ((fr2 Fm61 17 rfl).trans (fr2 Fm45 17 rfl))))))))]; first | (exact pPN) | (exfalso; omega)), (show CN (m139.2 65) (m139.2 67) (m139.1 28) by rewrite [(show (m139.2 65) = (m110.2 65) from (fr2 Fm139 65 rfl)), (show (m139.2 67) = (m110.2 67) from (fr2 Fm139 67 rfl)), (show (m139.1 28) = (m110.1 28) from (fr1 Fm139 28 rfl))]; first | (exact hCN) | (exfalso; omega)), (show (m.1 28) ≤ (m139.1 28) by rewrite [(show (m139.1 28) = (m110.1 28) from (fr1 Fm139 28 rfl))]; omega), (show agr (m.2 65) (m139.2 65) (m.1 28) by rewrite [(show (m139.2 65) = (m110.2 65) from (fr2 Fm139 65 rfl))]; first | (exact hAgC) | (exfalso; omega)), (show TdP (m139.2 65) (m139.1 28) (m.1 22) (m139.1 99) (m139.2 101) (m139.2 103) (m139.2 105) (m139.2 106) (m139.2 107) (m139.2 108) by rewrite [(show (m139.2 65) = (m110.2 65) from (fr2 Fm139 65 rfl)), (show (m139.1 28) = (m110.1 28) from (fr1 Fm139 28 rfl)), (show (m139.1 99) = (m110.1 99) from (fr1 Fm139 99 rfl)), (show (m139.2 101) = (m110.2 101) from (fr2 Fm139 101 rfl)), (show (m139.2 103) = (m110.2 103) from (fr2 Fm139 103 rfl)), (show (m139.2 105) = (m110.2 105) from (fr2 Fm139 105 rfl)), (show (m139.2 106) = (m110.2 106) from (fr2 Fm139 106 rfl)), (show (m139.2 107) = (m110.2 107) from (fr2 Fm139 107 rfl)), (show (m139.2 108) = (m110.2 108) from (fr2 Fm139 108 rfl))]; first | (exact pTd) | (exfalso; omega)), (show AcP (m139.1 25) (m139.1 99) (m139.2 109) (m139.2 50) by rewrite [(show (m139.1 25) = ((m.1 25) + 1) from ((fr1 Fm139 25 rfl).trans ((fr1 Fm110 25 rfl).trans ((fr1 Fm109 25 rfl).trans ((fr1 Fm94 25 rfl).trans ((fr1 Fm78 25 rfl).trans ((fr1 Fm61 25 rfl).trans (fr1 Fm45 25 rfl)))))))), (show (m139.1 99) = (m110.1 99) from (fr1 Fm139 99 rfl)), (show (m139.2 109) = (upI (m.2 109) (m.1 25) (m.1 99)) from ((fr2 Fm139 109 rfl).trans ((fr2 Fm110 109 rfl).trans ((fr2 Fm109 109 rfl).trans ((fr2 Fm94 109 rfl).trans ((fr2 Fm78 109 rfl).trans ((fr2 Fm61 109 rfl).trans (fr2 Fm45 109 rfl)))))))), (show (m139.2 50) = (m110.2 50) from (fr2 Fm139 50 rfl))]; first | (exact hAc2) | (exfalso; omega)), (show (m139.1 99) ≤ 12 * (m139.1 25) by rewrite [(show (m139.1 99) = (m110.1 99) from (fr1 Fm139 99 rfl)), (show (m139.1 25) = ((m.1 25) + 1) from ((fr1 Fm139 25 rfl).trans ((fr1 Fm110 25 rfl).trans ((fr1 Fm109 25 rfl).trans ((fr1 Fm94 25 rfl).trans ((fr1 Fm78 25 rfl).trans ((fr1 Fm61 25 rfl).trans (fr1 Fm45 25 rfl))))))))]; omega), (show (m.1 25) ≤ (m139.1 25) by rewrite [(show (m139.1 25) = ((m.1 25) + 1) from ((fr1 Fm139 25 rfl).trans ((fr1 Fm110 25 rfl).trans ((fr1 Fm109 25 rfl).trans ((fr1 Fm94 25 rfl).trans ((fr1 Fm78 25 rfl).trans ((fr1 Fm61 25 rfl).trans (fr1 Fm45 25 rfl))))))))]; omega)⟩), rfl⟩
                            · skip
                              replace h140 : LxP (m139.1 7) (m139.1 8) (m139.1 9) (m110.1 6) (m139.1 10) := h140
                              rewrite [(show (m110.1 6) = (m.1 6) from ((fr1 Fm110 6 rfl).trans ((fr1 Fm109 6 rfl).trans ((fr1 Fm94 6 rfl).trans ((fr1 Fm78 6 rfl).trans ((fr1 Fm61 6 rfl).trans ((fr1 Fm45 6 rfl).trans ((fr1 Fm20 6 rfl).trans (fr1 Fm5 6 rfl)))))))))] at h140
                              have hLx := h140
                              clear h141
                              replace h142 : (m110.1 8) ≤ (m139.1 8) := h142
                              clear h143
                              have hf153 : 1 ≤ (m139.1 10) := by omega
                              clear q114_7 q114_9 q114_11 ic112 g131a g131b h132 h136
                              refine T_ret rfl (fun _ => rfl) ?_
                              exact ⟨(mO m139 [] []), Tm139, (fr_m (fr_s Fm139 (fr_m (fr_s Fm110 (fr_m (fr_s Fm109 (fr_m (fr_s Fm94 (fr_m (fr_s Fm78 (fr_m (fr_s Fm61 (fr_m (fr_s Fm45 (fr_m (fr_s Fm20 (fr_m (fr_s Fm5 (fr_m fr_0 rfl rfl) rfl rfl) rfl rfl) rfl rfl) rfl rfl) rfl rfl) rfl rfl) rfl rfl) rfl rfl) rfl rfl) rfl rfl) rfl rfl) rfl rfl) rfl rfl) rfl rfl) rfl rfl) rfl rfl) rfl rfl) rfl rfl), (show (m139.1 10) = 0 → (m.1 10) = 0 by omega), (show LxP (m139.1 7) (m139.1 8) (m139.1 9) (m.1 6) (m139.1 10) by first | (first | exact hLx | exact (fun _ => hLx (by omega)) | (intro h9; exfalso; omega)) | (exfalso; omega)), (show ∀ k, (m139.2 14) k + (m139.2 15) k ≤ 4000 by rewrite [(show (m139.2 14) = (m20.2 14) from ((fr2 Fm139 14 rfl).trans ((fr2 Fm110 14 rfl).trans ((fr2 Fm109 14 rfl).trans ((fr2 Fm94 14 rfl).trans ((fr2 Fm78 14 rfl).trans ((fr2 Fm61 14 rfl).trans (fr2 Fm45 14 rfl)))))))), (show (m139.2 15) = (m20.2 15) from ((fr2 Fm139 15 rfl).trans ((fr2 Fm110 15 rfl).trans ((fr2 Fm109 15 rfl).trans ((fr2 Fm94 15 rfl).trans ((fr2 Fm78 15 rfl).trans ((fr2 Fm61 15 rfl).trans (fr2 Fm45 15 rfl))))))))]; first | (exact hNM) | (exfalso; omega)), (show ∀ k, (m139.2 47) k + (m139.2 48) k ≤ 4000 by rewrite [(show (m139.2 47) = (m61.2 47) from ((fr2 Fm139 47 rfl).trans ((fr2 Fm110 47 rfl).trans ((fr2 Fm109 47 rfl).trans ((fr2 Fm94 47 rfl).trans (fr2 Fm78 47 rfl)))))), (show (m139.2 48) = (m61.2 48) from ((fr2 Fm139 48 rfl).trans ((fr2 Fm110 48 rfl).trans ((fr2 Fm109 48 rfl).trans ((fr2 Fm94 48 rfl).trans (fr2 Fm78 48 rfl))))))]; first | (exact hPA) | (exfalso; omega)), (fun (h : (m139.1 10) = 0) => absurd h (by omega)), rfl⟩
                          · skip
                            refine T_gf 171 (.ref 220) rfl rfl rfl rfl rfl rfl ?_
                            refine T_ld 172 (.int (i32 (m.1 25))) rfl (fun _ => rfl) ?_
                            refine T_iald 173 50 (m110.2 50) rfl rfl rfl (by omega) (show (m.1 25) < (16 : Int) by omega) rfl ?_
                            have e154 : 0 ≤ (m110.2 50) (m.1 25) ∧ (m110.2 50) (m.1 25) ≤ 13 := (Tm110.2.1 50) (m.1 25)
                            refine T_ld 175 (.int (i32 12)) rfl (fun _ => rfl) ?_
                            refine T_icmp 187 178 rfl rfl rfl (r32 (by omega) (by omega)) ⟨by decide, by decide⟩ (fun (h155 : (m110.2 50) (m.1 25) ≠ 12) => ?_) (fun (h155 : ¬ ((m110.2 50) (m.1 25) ≠ 12)) => ?_)
                            · skip
                              refine T_gf 191 (.int (i32 (m110.1 10))) rfl rfl rfl rfl rfl rfl ?_
                              refine T_if 198 194 rfl rfl rfl (r32 (by omega) (by omega)) (fun (h156 : (m110.1 10) ≠ 0) => by exfalso; omega) (fun (h156 : ¬ ((m110.1 10) ≠ 0)) => ?_)
                              refine T_ld 195 (.ref 189) rfl (fun _ => rfl) ?_
                              refine T_call 198 270 [.ref 189] [] rfl (fun _ => rfl) rfl (c_takeStatement w (mO m110 [] []) c N D (by omega) Tm110 (show LxP (m110.1 7) (m110.1 8) (m110.1 9) (m110.1 6) (m110.1 10) by rewrite [(show (m110.1 6) = (m.1 6) from ((fr1 Fm110 6 rfl).trans ((fr1 Fm109 6 rfl).trans ((fr1 Fm94 6 rfl).trans ((fr1 Fm78 6 rfl).trans ((fr1 Fm61 6 rfl).trans ((fr1 Fm45 6 rfl).trans ((fr1 Fm20 6 rfl).trans (fr1 Fm5 6 rfl)))))))))]; first | exact hLx | exact (fun _ => hLx (by omega)) | (intro h9; exfalso; omega)) (show ∀ k, (m110.2 14) k + (m110.2 15) k ≤ 4000 by rewrite [(show (m110.2 14) = (m20.2 14) from ((fr2 Fm110 14 rfl).trans ((fr2 Fm109 14 rfl).trans ((fr2 Fm94 14 rfl).trans ((fr2 Fm78 14 rfl).trans ((fr2 Fm61 14 rfl).trans (fr2 Fm45 14 rfl))))))), (show (m110.2 15) = (m20.2 15) from ((fr2 Fm110 15 rfl).trans ((fr2 Fm109 15 rfl).trans ((fr2 Fm94 15 rfl).trans ((fr2 Fm78 15 rfl).trans ((fr2 Fm61 15 rfl).trans (fr2 Fm45 15 rfl)))))))]; assumption) (show ∀ k, (m110.2 31) k + (m110.2 32) k ≤ 4000 by rewrite [(show (m110.2 31) = (m.2 31) from ((fr2 Fm110 31 rfl).trans ((fr2 Fm109 31 rfl).trans ((fr2 Fm94 31 rfl).trans ((fr2 Fm78 31 rfl).trans ((fr2 Fm61 31 rfl).trans ((fr2 Fm45 31 rfl).trans ((fr2 Fm20 31 rfl).trans (fr2 Fm5 31 rfl))))))))), (show (m110.2 32) = (m.2 32) from ((fr2 Fm110 32 rfl).trans ((fr2 Fm109 32 rfl).trans ((fr2 Fm94 32 rfl).trans ((fr2 Fm78 32 rfl).trans ((fr2 Fm61 32 rfl).trans ((fr2 Fm45 32 rfl).trans ((fr2 Fm20 32 rfl).trans (fr2 Fm5 32 rfl)))))))))]; assumption) (show ∀ k, (m110.2 47) k + (m110.2 48) k ≤ 4000 by rewrite [(show (m110.2 47) = (m61.2 47) from ((fr2 Fm110 47 rfl).trans ((fr2 Fm109 47 rfl).trans ((fr2 Fm94 47 rfl).trans (fr2 Fm78 47 rfl))))), (show (m110.2 48) = (m61.2 48) from ((fr2 Fm110 48 rfl).trans ((fr2 Fm109 48 rfl).trans ((fr2 Fm94 48 rfl).trans (fr2 Fm78 48 rfl)))))]; assumption) (show (m110.1 99) ≤ 239 by omega) (show (m110.1 10) = 0 by omega) ⟨(show PN (m110.1 13) (m110.1 19) (m110.1 20) (m110.1 21) (m110.1 22) (m110.1 23) (m110.1 25) (m110.1 26) (m110.2 16) (m110.2 17) by rewrite [(show (m110.1 13) = (m20.1 13) from ((fr1 Fm110 13 rfl).trans ((fr1 Fm109 13 rfl).trans ((fr1 Fm94 13 rfl).trans ((fr1 Fm78 13 rfl).trans ((fr1 Fm61 13 rfl).trans (fr1 Fm45 13 rfl))))))), (show (m110.1 19) = (m.1 19) from ((fr1 Fm110 19 rfl).trans ((fr1 Fm109 19 rfl).trans ((fr1 Fm94 19 rfl).trans ((fr1 Fm78 19 rfl).trans ((fr1 Fm61 19 rfl).trans ((fr1 Fm45 19 rfl).trans ((fr1 Fm20 19 rfl).trans (fr1 Fm5 19 rfl))))))))), (show (m110.1 20) = (m.1 20) from ((fr1 Fm110 20 rfl).trans ((fr1 Fm109 20 rfl).trans ((fr1 Fm94 20 rfl).trans ((fr1 Fm78 20 rfl).trans ((fr1 Fm61 20 rfl).trans ((fr1 Fm45 20 rfl).trans ((fr1 Fm20 20 rfl).trans (fr1 Fm5 20 rfl))))))))), (show (m110.1 21) = (m.1 21) from ((fr1 Fm110 21 rfl).trans ((fr1 Fm109 21 rfl).trans ((fr1 Fm94 21 rfl).trans ((fr1 Fm78 21 rfl).trans ((fr1 Fm61 21 rfl).trans ((fr1 Fm45 21 rfl).trans ((fr1 Fm20 21 rfl).trans (fr1 Fm5 21 rfl))))))))), (show (m110.1 22) = (m.1 22) from ((fr1 Fm110 22 rfl).trans ((fr1 Fm109 22 rfl).trans ((fr1 Fm94 22 rfl).trans ((fr1 Fm78 22 rfl).trans ((fr1 Fm61 22 rfl).trans ((fr1 Fm45 22 rfl).trans ((fr1 Fm20 22 rfl).trans (fr1 Fm5 22 rfl))))))))), (show (m110.1 23) = (m.1 23) from ((fr1 Fm110 23 rfl).trans ((fr1 Fm109 23 rfl).trans ((fr1 Fm94 23 rfl).trans ((fr1 Fm78 23 rfl).trans ((fr1 Fm61 23 rfl).trans ((fr1 Fm45 23 rfl).trans ((fr1 Fm20 23 rfl).trans (fr1 Fm5 23 rfl))))))))), (show (m110.1 25) = ((m.1 25) + 1) from ((fr1 Fm110 25 rfl).trans ((fr1 Fm109 25 rfl).trans ((fr1 Fm94 25 rfl).trans ((fr1 Fm78 25 rfl).trans ((fr1 Fm61 25 rfl).trans (fr1 Fm45 25 rfl))))))), (show (m110.1 26) = (m.1 26) from ((fr1 Fm110 26 rfl).trans ((fr1 Fm109 26 rfl).trans ((fr1 Fm94 26 rfl).trans ((fr1 Fm78 26 rfl).trans ((fr1 Fm61 26 rfl).trans ((fr1 Fm45 26 rfl).trans ((fr1 Fm20 26 rfl).trans (fr1 Fm5 26 rfl))))))))), (show (m110.2 16) = (m20.2 16) from ((fr2 Fm110 16 rfl).trans ((fr2 Fm109 16 rfl).trans ((fr2 Fm94 16 rfl).trans ((fr2 Fm78 16 rfl).trans ((fr2 Fm61 16 rfl).trans (fr2 Fm45 16 rfl))))))), (show (m110.2 17) = (m20.2 17) from ((fr2 Fm110 17 rfl).trans ((fr2 Fm109 17 rfl).trans ((fr2 Fm94 17 rfl).trans ((fr2 Fm78 17 rfl).trans ((fr2 Fm61 17 rfl).trans (fr2 Fm45 17 rfl)))))))]; assumption), (show CN (m110.2 65) (m110.2 67) (m110.1 28) by assumption), (show (m110.1 7) ≠ 0 by omega), (show TdP (m110.2 65) (m110.1 28) (m110.1 22) (m110.1 99) (m110.2 101) (m110.2 103) (m110.2 105) (m110.2 106) (m110.2 107) (m110.2 108) by rewrite [(show (m110.1 22) = (m.1 22) from ((fr1 Fm110 22 rfl).trans ((fr1 Fm109 22 rfl).trans ((fr1 Fm94 22 rfl).trans ((fr1 Fm78 22 rfl).trans ((fr1 Fm61 22 rfl).trans ((fr1 Fm45 22 rfl).trans ((fr1 Fm20 22 rfl).trans (fr1 Fm5 22 rfl)))))))))]; assumption)⟩) (fun rr157 k158 => ?_)
                              obtain ⟨m159, Tm159, Fm159, h160, h161, h162, c163, rfl⟩ := k158
                              refine ⟨_, _, rfl, ?_⟩
                              refine T_nb (st' := []) rfl ?_
                              have g164 : 0 ≤ m159.1 7 ∧ m159.1 7 ≤ 330 := Tm159.1 7
                              have g165 : 0 ≤ m159.1 8 ∧ m159.1 8 ≤ 4000 := Tm159.1 8
                              have g166 : 0 ≤ m159.1 9 ∧ m159.1 9 ≤ 4000 := Tm159.1 9
                              have g167 : 0 ≤ m159.1 10 ∧ m159.1 10 ≤ 8 := Tm159.1 10
                              have g168 : (-1) ≤ m159.1 11 ∧ m159.1 11 ≤ 4000 := Tm159.1 11
                              have g169 : 0 ≤ m159.1 28 ∧ m159.1 28 ≤ 800 := Tm159.1 28
                              have g170 : 0 ≤ m159.1 99 ∧ m159.1 99 ≤ 240 := Tm159.1 99
                              by_cases hf171 : (m159.1 10) = 0
                              · skip
                                replace h160 : (m110.1 10) = 0 := h160 hf171
                                replace h161 : LxP (m159.1 7) (m159.1 8) (m159.1 9) (m110.1 6) (m159.1 10) := h161
                                rewrite [(show (m110.1 6) = (m.1 6) from ((fr1 Fm110 6 rfl).trans ((fr1 Fm109 6 rfl).trans ((fr1 Fm94 6 rfl).trans ((fr1 Fm78 6 rfl).trans ((fr1 Fm61 6 rfl).trans ((fr1 Fm45 6 rfl).trans ((fr1 Fm20 6 rfl).trans (fr1 Fm5 6 rfl)))))))))] at h161
                                have hLx := h161
                                replace h162 : (m159.1 99) = (m110.1 99) + 1 := h162
                                have hTS := h162
                                obtain ⟨c172, c173, c174, c175, c176⟩ := c163 hf171
                                replace c172 : (m110.1 8) + 1 ≤ (m159.1 8) := c172
                                replace c173 : (m110.1 28) ≤ (m159.1 28) := c173
                                replace c174 : CN (m159.2 65) (m159.2 67) (m159.1 28) := c174
                                have hCN := c174
                                replace c175 : agr (m110.2 65) (m159.2 65) (m110.1 28) := c175
                                have hAg := c175
                                replace c176 : TdP (m159.2 65) (m159.1 28) (m110.1 22) (m159.1 99) (m159.2 101) (m159.2 103) (m159.2 105) (m159.2 106) (m159.2 107) (m159.2 108) := c176
                                rewrite [(show (m110.1 22) = (m.1 22) from ((fr1 Fm110 22 rfl).trans ((fr1 Fm109 22 rfl).trans ((fr1 Fm94 22 rfl).trans ((fr1 Fm78 22 rfl).trans ((fr1 Fm61 22 rfl).trans ((fr1 Fm45 22 rfl).trans ((fr1 Fm20 22 rfl).trans (fr1 Fm5 22 rfl)))))))))] at c176
                                have pTd := c176
                                clear c163
                                have u177 : (m110.1 8) + 1 ≤ (m159.1 8) := by omega
                                have u178 : (m.1 8) + 1 ≤ (m159.1 8) := by omega
                                have hAgC : agr (m.2 65) (m159.2 65) (m.1 28) := by first | exact agr_r _ _ | exact hAgC | exact agr_t hAgC hAg (by omega)
                                have u179 : (m.1 28) ≤ (m159.1 28) := by omega
                                clear q114_7 q114_9 q114_11 q114_28 q114_99 ic112 c120 c121 c122 c123 c124 g131a g131b h132 u135 h136 h162 c173 c175
                                refine T_gf 202 (.ref 220) rfl rfl rfl rfl rfl rfl ?_
                                refine T_ld 203 (.int (i32 (m.1 25))) rfl (fun _ => rfl) ?_
                                refine T_dup2 204 rfl (fun _ => rfl) ?_
                                refine T_iald 205 50 (m110.2 50) rfl rfl rfl (by omega) (show (m.1 25) < (16 : Int) by omega) (show (m159.2 50) = (m110.2 50) from (fr2 Fm159 50 rfl)) ?_
                                have e180 : 0 ≤ (m110.2 50) (m.1 25) ∧ (m110.2 50) (m.1 25) ≤ 13 := (Tm110.2.1 50) (m.1 25)
                                refine T_ld 206 (.int (i32 1)) rfl (fun _ => rfl) ?_
                                refine T_iadd 207 rfl rfl ?_
                                have G181 : ∀ j, 0 ≤ (upI (m110.2 50) (m.1 25) (((m110.2 50) (m.1 25)) + 1)) j ∧ (upI (m110.2 50) (m.1 25) (((m110.2 50) (m.1 25)) + 1)) j ≤ 13 := upI_rg (Tm110.2.1 50) ⟨by omega, by omega⟩
                                refine T_iast (a' := [(50, upI (m110.2 50) (m.1 25) (((m110.2 50) (m.1 25)) + 1))]) 208 50 (m110.2 50) rfl rfl rfl (by omega) (show (m.1 25) < (16 : Int) by omega) (show (m159.2 50) = (m110.2 50) from (fr2 Fm159 50 rfl)) rfl ?_
                                refine T_goto 153 rfl (fun _ => rfl) ?_
                                exact ih117 (mO m159 [] [(50, upI (m110.2 50) (m.1 25) (((m110.2 50) (m.1 25)) + 1))]) (Ty_mO Tm159 rfl rfl trivial ⟨G181, trivial⟩) (fr_m (fr_s Fm159 (fr_m (fr_s Fm110 (fr_m fr_0 rfl rfl) rfl rfl) rfl rfl) rfl rfl) rfl rfl) (show LxP (m159.1 7) (m159.1 8) (m159.1 9) (m.1 6) (m159.1 10) by first | exact hLx | exact (fun _ => hLx (by omega)) | (intro h9; exfalso; omega)) (show 0 ≤ (upI (m110.2 50) (m.1 25) (((m110.2 50) (m.1 25)) + 1)) (m.1 25) ∧ (upI (m110.2 50) (m.1 25) (((m110.2 50) (m.1 25)) + 1)) (m.1 25) ≤ 13 by first | omega | (rw [upI_s]; omega)) (fun _ => ⟨(show (m.1 8) + 1 ≤ (m159.1 8) by omega), (show CN (m159.2 65) (m159.2 67) (m159.1 28) by exact hCN), (show (m.1 28) ≤ (m159.1 28) by omega), (show agr (m.2 65) (m159.2 65) (m.1 28) by exact hAgC), (show TdP (m159.2 65) (m159.1 28) (m.1 22) (m159.1 99) (m159.2 101) (m159.2 103) (m159.2 105) (m159.2 106) (m159.2 107) (m159.2 108) by exact pTd), (show (m159.1 99) = (m.1 99) + (upI (m110.2 50) (m.1 25) (((m110.2 50) (m.1 25)) + 1)) (m.1 25) by first | omega | (rw [upI_s]; omega)), (show (upI (m110.2 50) (m.1 25) (((m110.2 50) (m.1 25)) + 1)) (m.1 25) ≤ 12 by first | omega | (rw [upI_s]; omega)), (show agr (m.2 50) (upI (m110.2 50) (m.1 25) (((m110.2 50) (m.1 25)) + 1)) (m.1 25) by first | exact agr_u (Int.le_refl _) | exact agr_t hS1 (agr_u (Int.le_refl _)) (Int.le_refl _))⟩) (show 1000000 * (8 - (m159.1 10)) + (4000 - (m159.1 8)) < (n116 : Int) by omega)
                              · skip
                                clear c163
                                clear h160
                                replace h161 : LxP (m159.1 7) (m159.1 8) (m159.1 9) (m110.1 6) (m159.1 10) := h161
                                rewrite [(show (m110.1 6) = (m.1 6) from ((fr1 Fm110 6 rfl).trans ((fr1 Fm109 6 rfl).trans ((fr1 Fm94 6 rfl).trans ((fr1 Fm78 6 rfl).trans ((fr1 Fm61 6 rfl).trans ((fr1 Fm45 6 rfl).trans ((fr1 Fm20 6 rfl).trans (fr1 Fm5 6 rfl)))))))))] at h161
                                have hLx := h161
                                replace h162 : (m159.1 99) = (m110.1 99) + 1 := h162
                                have hTS := h162
                                have hf182 : 1 ≤ (m159.1 10) := by omega
                                clear q114_7 q114_9 q114_11 q114_28 q114_99 ic112 c120 c121 c122 c123 c124 g131a g131b h132 u135 h136 h162
                                refine T_gf 202 (.ref 220) rfl rfl rfl rfl rfl rfl ?_
                                refine T_ld 203 (.int (i32 (m.1 25))) rfl (fun _ => rfl) ?_
                                refine T_dup2 204 rfl (fun _ => rfl) ?_
                                refine T_iald 205 50 (m110.2 50) rfl rfl rfl (by omega) (show (m.1 25) < (16 : Int) by omega) (show (m159.2 50) = (m110.2 50) from (fr2 Fm159 50 rfl)) ?_
                                have e183 : 0 ≤ (m110.2 50) (m.1 25) ∧ (m110.2 50) (m.1 25) ≤ 13 := (Tm110.2.1 50) (m.1 25)
                                refine T_ld 206 (.int (i32 1)) rfl (fun _ => rfl) ?_
                                refine T_iadd 207 rfl rfl ?_
                                have G184 : ∀ j, 0 ≤ (upI (m110.2 50) (m.1 25) (((m110.2 50) (m.1 25)) + 1)) j ∧ (upI (m110.2 50) (m.1 25) (((m110.2 50) (m.1 25)) + 1)) j ≤ 13 := upI_rg (Tm110.2.1 50) ⟨by omega, by omega⟩
                                refine T_iast (a' := [(50, upI (m110.2 50) (m.1 25) (((m110.2 50) (m.1 25)) + 1))]) 208 50 (m110.2 50) rfl rfl rfl (by omega) (show (m.1 25) < (16 : Int) by omega) (show (m159.2 50) = (m110.2 50) from (fr2 Fm159 50 rfl)) rfl ?_
                                refine T_goto 153 rfl (fun _ => rfl) ?_
                                exact ih117 (mO m159 [] [(50, upI (m110.2 50) (m.1 25) (((m110.2 50) (m.1 25)) + 1))]) (Ty_mO Tm159 rfl rfl trivial ⟨G184, trivial⟩) (fr_m (fr_s Fm159 (fr_m (fr_s Fm110 (fr_m fr_0 rfl rfl) rfl rfl) rfl rfl) rfl rfl) rfl rfl) (show LxP (m159.1 7) (m159.1 8) (m159.1 9) (m.1 6) (m159.1 10) by first | exact hLx | exact (fun _ => hLx (by omega)) | (intro h9; exfalso; omega)) (show 0 ≤ (upI (m110.2 50) (m.1 25) (((m110.2 50) (m.1 25)) + 1)) (m.1 25) ∧ (upI (m110.2 50) (m.1 25) (((m110.2 50) (m.1 25)) + 1)) (m.1 25) ≤ 13 by first | omega | (rw [upI_s]; omega)) (fun (h : (m159.1 10) = 0) => absurd h (by omega)) (show 1000000 * (8 - (m159.1 10)) + (4000 - (m159.1 8)) < (n116 : Int) by omega)
                            · skip
                              refine T_ld 179 (.ref 189) rfl (fun _ => rfl) ?_
                              refine T_ld 180 (.int (i32 4)) rfl (fun _ => rfl) ?_
                              refine T_gf 184 (.int (i32 (m110.1 8))) rfl rfl rfl rfl rfl rfl ?_
                              refine T_call 187 222 [.ref 189, .int (i32 4), .int (i32 (m110.1 8))] [] rfl (fun _ => rfl) rfl (d_wrong w (mO m110 [] []) c N D (by omega) Tm110 4 (m110.1 8) ⟨by decide, by decide⟩ (r32 (by omega) (by omega)) (show 1 ≤ (4 : Int) ∧ (4 : Int) ≤ 8 by omega) (show 0 ≤ (m110.1 8) ∧ (m110.1 8) ≤ 4000 by omega)) (fun rr185 k186 => ?_)
                              obtain ⟨m187, Tm187, Fm187, h188, rfl⟩ := k186
                              refine ⟨_, _, rfl, ?_⟩
                              refine T_nb (st' := []) rfl ?_
                              have g189 : 0 ≤ m187.1 10 ∧ m187.1 10 ≤ 8 := Tm187.1 10
                              have g190 : (-1) ≤ m187.1 11 ∧ m187.1 11 ≤ 4000 := Tm187.1 11
                              replace h188 : (0 < (m110.1 10) → (m187.1 10) = (m110.1 10) ∧ (m187.1 11) = (m110.1 11)) ∧ ((m110.1 10) ≤ 0 → (m187.1 10) = (4 : Int) ∧ (m187.1 11) = (m110.1 8)) := h188
                              have hf191 : 1 ≤ (m187.1 10) := by omega
                              clear q114_11 g131a g131b h132 h136 h188
                              refine T_gf 191 (.int (i32 (m187.1 10))) rfl rfl rfl rfl rfl rfl ?_
                              refine T_if 198 194 rfl rfl rfl (r32 (by omega) (by omega)) (fun (h192 : (m187.1 10) ≠ 0) => ?_) (fun (h192 : ¬ ((m187.1 10) ≠ 0)) => by exfalso; omega)
                              refine T_gf 202 (.ref 220) rfl rfl rfl rfl rfl rfl ?_
                              refine T_ld 203 (.int (i32 (m.1 25))) rfl (fun _ => rfl) ?_
                              refine T_dup2 204 rfl (fun _ => rfl) ?_
                              refine T_iald 205 50 (m110.2 50) rfl rfl rfl (by omega) (show (m.1 25) < (16 : Int) by omega) (show (m187.2 50) = (m110.2 50) from (fr2 Fm187 50 rfl)) ?_
                              have e193 : 0 ≤ (m110.2 50) (m.1 25) ∧ (m110.2 50) (m.1 25) ≤ 13 := (Tm110.2.1 50) (m.1 25)
                              refine T_ld 206 (.int (i32 1)) rfl (fun _ => rfl) ?_
                              refine T_iadd 207 rfl rfl ?_
                              have G194 : ∀ j, 0 ≤ (upI (m110.2 50) (m.1 25) (((m110.2 50) (m.1 25)) + 1)) j ∧ (upI (m110.2 50) (m.1 25) (((m110.2 50) (m.1 25)) + 1)) j ≤ 13 := upI_rg (Tm110.2.1 50) ⟨by omega, by omega⟩
                              refine T_iast (a' := [(50, upI (m110.2 50) (m.1 25) (((m110.2 50) (m.1 25)) + 1))]) 208 50 (m110.2 50) rfl rfl rfl (by omega) (show (m.1 25) < (16 : Int) by omega) (show (m187.2 50) = (m110.2 50) from (fr2 Fm187 50 rfl)) rfl ?_
                              refine T_goto 153 rfl (fun _ => rfl) ?_
                              exact ih117 (mO m187 [] [(50, upI (m110.2 50) (m.1 25) (((m110.2 50) (m.1 25)) + 1))]) (Ty_mO Tm187 rfl rfl trivial ⟨G194, trivial⟩) (fr_m (fr_s Fm187 (fr_m (fr_s Fm110 (fr_m fr_0 rfl rfl) rfl rfl) rfl rfl) rfl rfl) rfl rfl) (show LxP (m187.1 7) (m187.1 8) (m187.1 9) (m.1 6) (m187.1 10) by rewrite [(show (m187.1 7) = (m110.1 7) from (fr1 Fm187 7 rfl)), (show (m187.1 8) = (m110.1 8) from (fr1 Fm187 8 rfl)), (show (m187.1 9) = (m110.1 9) from (fr1 Fm187 9 rfl))]; first | exact hLx | exact (fun _ => hLx (by omega)) | (intro h9; exfalso; omega)) (show 0 ≤ (upI (m110.2 50) (m.1 25) (((m110.2 50) (m.1 25)) + 1)) (m.1 25) ∧ (upI (m110.2 50) (m.1 25) (((m110.2 50) (m.1 25)) + 1)) (m.1 25) ≤ 13 by first | omega | (rw [upI_s]; omega)) (fun (h : (m187.1 10) = 0) => absurd h (by omega)) (show 1000000 * (8 - (m187.1 10)) + (4000 - (m187.1 8)) < (n116 : Int) by rewrite [(show (m187.1 8) = (m110.1 8) from (fr1 Fm187 8 rfl))]; omega)
                        · skip
                          clear c115
                          have hf195 : 1 ≤ (m110.1 10) := by omega
                          refine T_gf 157 (.int (i32 (m110.1 10))) rfl rfl rfl rfl rfl rfl ?_
                          refine T_if 211 160 rfl rfl rfl (r32 (by omega) (by omega)) (fun (h196 : (m110.1 10) ≠ 0) => ?_) (fun (h196 : ¬ ((m110.1 10) ≠ 0)) => by exfalso; omega)
                          refine T_ld 212 (.ref 189) rfl (fun _ => rfl) ?_
                          refine T_ld 213 (.int (i32 (-1))) rfl (fun _ => rfl) ?_
                          refine T_pf (l' := [(64, (-1))]) 216 (-1) rfl rfl rfl rfl rfl rfl ?_
                          refine T_ld 217 (.ref 189) rfl (fun _ => rfl) ?_
                          refine T_ld 219 (.int (i32 125)) rfl (fun _ => rfl) ?_
                          refine T_call 222 232 [.ref 189, .int (i32 125)] [] rfl (fun _ => rfl) rfl (d_need w (mO m110 [(64, (-1))] []) c N D (by omega) (Ty_mO Tm110 rfl rfl ⟨⟨(by omega : ((-1) : Int) ≤ (-1)), (by omega : ((-1) : Int) ≤ 15)⟩, trivial⟩ trivial) 125 ⟨by decide, by decide⟩ (show 1 ≤ (125 : Int) by omega) (show LxP (m110.1 7) (m110.1 8) (m110.1 9) (m110.1 6) (m110.1 10) by rewrite [(show (m110.1 6) = (m.1 6) from ((fr1 Fm110 6 rfl).trans ((fr1 Fm109 6 rfl).trans ((fr1 Fm94 6 rfl).trans ((fr1 Fm78 6 rfl).trans ((fr1 Fm61 6 rfl).trans ((fr1 Fm45 6 rfl).trans ((fr1 Fm20 6 rfl).trans (fr1 Fm5 6 rfl)))))))))]; first | exact hLx | (intro h9; exfalso; omega) | (intro h9; have h8 := hLx (by omega); omega))) (fun rr197 k198 => ?_)
                          obtain ⟨m199, Tm199, Fm199, h200, h201, h202, h203, rfl⟩ := k198
                          refine ⟨_, _, rfl, ?_⟩
                          refine T_nb (st' := []) rfl ?_
                          have g204 : 0 ≤ m199.1 7 ∧ m199.1 7 ≤ 330 := Tm199.1 7
                          have g205 : 0 ≤ m199.1 8 ∧ m199.1 8 ≤ 4000 := Tm199.1 8
                          have g206 : 0 ≤ m199.1 9 ∧ m199.1 9 ≤ 4000 := Tm199.1 9
                          have g207 : 0 ≤ m199.1 10 ∧ m199.1 10 ≤ 8 := Tm199.1 10
                          have g208 : (-1) ≤ m199.1 11 ∧ m199.1 11 ≤ 4000 := Tm199.1 11
                          replace h200 : LxP (m199.1 7) (m199.1 8) (m199.1 9) (m110.1 6) (m199.1 10) := h200
                          rewrite [(show (m110.1 6) = (m.1 6) from ((fr1 Fm110 6 rfl).trans ((fr1 Fm109 6 rfl).trans ((fr1 Fm94 6 rfl).trans ((fr1 Fm78 6 rfl).trans ((fr1 Fm61 6 rfl).trans ((fr1 Fm45 6 rfl).trans ((fr1 Fm20 6 rfl).trans (fr1 Fm5 6 rfl)))))))))] at h200
                          replace h201 : (m199.1 10) = 0 → (m110.1 10) = 0 ∧ (m110.1 7) = (125 : Int) := h201
                          replace h202 : (m110.1 8) ≤ (m199.1 8) := h202
                          replace h203 : (m199.1 10) = 0 → (m110.1 8) + (m110.1 9) ≤ (m199.1 8) := h203
                          have hf209 : 1 ≤ (m199.1 10) := by omega
                          clear h201
                          clear h203
                          have hLx := h200
                          clear g99 g100 g101 g102 g103 h95 u106 u105 q114_7 q114_9 q114_11 ic112
                          refine T_ret rfl (fun _ => rfl) ?_
                          exact ⟨(mO m199 [] []), Tm199, (fr_m (fr_s Fm199 (fr_m (fr_s Fm110 (fr_m (fr_s Fm109 (fr_m (fr_s Fm94 (fr_m (fr_s Fm78 (fr_m (fr_s Fm61 (fr_m (fr_s Fm45 (fr_m (fr_s Fm20 (fr_m (fr_s Fm5 (fr_m fr_0 rfl rfl) rfl rfl) rfl rfl) rfl rfl) rfl rfl) rfl rfl) rfl rfl) rfl rfl) rfl rfl) rfl rfl) rfl rfl) rfl rfl) rfl rfl) rfl rfl) rfl rfl) rfl rfl) rfl rfl) rfl rfl) rfl rfl), (show (m199.1 10) = 0 → (m.1 10) = 0 by omega), (show LxP (m199.1 7) (m199.1 8) (m199.1 9) (m.1 6) (m199.1 10) by first | (first | exact hLx | exact (fun _ => hLx (by omega)) | (intro h9; exfalso; omega)) | (exfalso; omega)), (show ∀ k, (m199.2 14) k + (m199.2 15) k ≤ 4000 by rewrite [(show (m199.2 14) = (m20.2 14) from ((fr2 Fm199 14 rfl).trans ((fr2 Fm110 14 rfl).trans ((fr2 Fm109 14 rfl).trans ((fr2 Fm94 14 rfl).trans ((fr2 Fm78 14 rfl).trans ((fr2 Fm61 14 rfl).trans (fr2 Fm45 14 rfl)))))))), (show (m199.2 15) = (m20.2 15) from ((fr2 Fm199 15 rfl).trans ((fr2 Fm110 15 rfl).trans ((fr2 Fm109 15 rfl).trans ((fr2 Fm94 15 rfl).trans ((fr2 Fm78 15 rfl).trans ((fr2 Fm61 15 rfl).trans (fr2 Fm45 15 rfl))))))))]; first | (exact hNM) | (exfalso; omega)), (show ∀ k, (m199.2 47) k + (m199.2 48) k ≤ 4000 by rewrite [(show (m199.2 47) = (m61.2 47) from ((fr2 Fm199 47 rfl).trans ((fr2 Fm110 47 rfl).trans ((fr2 Fm109 47 rfl).trans ((fr2 Fm94 47 rfl).trans (fr2 Fm78 47 rfl)))))), (show (m199.2 48) = (m61.2 48) from ((fr2 Fm199 48 rfl).trans ((fr2 Fm110 48 rfl).trans ((fr2 Fm109 48 rfl).trans ((fr2 Fm94 48 rfl).trans (fr2 Fm78 48 rfl))))))]; first | (exact hPA) | (exfalso; omega)), (fun (h : (m199.1 10) = 0) => absurd h (by omega)), rfl⟩
                    exact L153_111 ((1000000 * (8 - (m94.1 10)) + (4000 - (m94.1 8)) : Int) + 1).toNat (mO m109 [] []) Tm109 (fr_m fr_0 rfl rfl) (show LxP (m109.1 7) (m109.1 8) (m109.1 9) (m.1 6) (m109.1 10) by rewrite [(show (m109.1 7) = (m94.1 7) from (fr1 Fm109 7 rfl)), (show (m109.1 8) = (m94.1 8) from (fr1 Fm109 8 rfl)), (show (m109.1 9) = (m94.1 9) from (fr1 Fm109 9 rfl)), (show (m109.1 10) = (m94.1 10) from (fr1 Fm109 10 rfl))]; first | exact hLx | exact (fun _ => hLx (by omega)) | (intro h9; exfalso; omega)) (show 0 ≤ (m109.2 50) (m.1 25) ∧ (m109.2 50) (m.1 25) ≤ 13 by rewrite [(show (m109.2 50) = (upI (m.2 50) (m.1 25) 0) from ((fr2 Fm109 50 rfl).trans ((fr2 Fm94 50 rfl).trans ((fr2 Fm78 50 rfl).trans ((fr2 Fm61 50 rfl).trans (fr2 Fm45 50 rfl))))))]; first | omega | (rw [upI_s]; omega)) (fun _ => ⟨(show (m.1 8) + 1 ≤ (m109.1 8) by rewrite [(show (m109.1 8) = (m94.1 8) from (fr1 Fm109 8 rfl))]; omega), (show CN (m109.2 65) (m109.2 67) (m109.1 28) by rewrite [(show (m109.2 65) = (m.2 65) from ((fr2 Fm109 65 rfl).trans ((fr2 Fm94 65 rfl).trans ((fr2 Fm78 65 rfl).trans ((fr2 Fm61 65 rfl).trans ((fr2 Fm45 65 rfl).trans ((fr2 Fm20 65 rfl).trans (fr2 Fm5 65 rfl)))))))), (show (m109.2 67) = (m.2 67) from ((fr2 Fm109 67 rfl).trans ((fr2 Fm94 67 rfl).trans ((fr2 Fm78 67 rfl).trans ((fr2 Fm61 67 rfl).trans ((fr2 Fm45 67 rfl).trans ((fr2 Fm20 67 rfl).trans (fr2 Fm5 67 rfl)))))))), (show (m109.1 28) = (m.1 28) from ((fr1 Fm109 28 rfl).trans ((fr1 Fm94 28 rfl).trans ((fr1 Fm78 28 rfl).trans ((fr1 Fm61 28 rfl).trans ((fr1 Fm45 28 rfl).trans ((fr1 Fm20 28 rfl).trans (fr1 Fm5 28 rfl))))))))]; exact hCN), (show (m.1 28) ≤ (m109.1 28) by rewrite [(show (m109.1 28) = (m.1 28) from ((fr1 Fm109 28 rfl).trans ((fr1 Fm94 28 rfl).trans ((fr1 Fm78 28 rfl).trans ((fr1 Fm61 28 rfl).trans ((fr1 Fm45 28 rfl).trans ((fr1 Fm20 28 rfl).trans (fr1 Fm5 28 rfl))))))))]; omega), (show agr (m.2 65) (m109.2 65) (m.1 28) by rewrite [(show (m109.2 65) = (m.2 65) from ((fr2 Fm109 65 rfl).trans ((fr2 Fm94 65 rfl).trans ((fr2 Fm78 65 rfl).trans ((fr2 Fm61 65 rfl).trans ((fr2 Fm45 65 rfl).trans ((fr2 Fm20 65 rfl).trans (fr2 Fm5 65 rfl))))))))]; exact hAgC), (show TdP (m109.2 65) (m109.1 28) (m.1 22) (m109.1 99) (m109.2 101) (m109.2 103) (m109.2 105) (m109.2 106) (m109.2 107) (m109.2 108) by rewrite [(show (m109.2 65) = (m.2 65) from ((fr2 Fm109 65 rfl).trans ((fr2 Fm94 65 rfl).trans ((fr2 Fm78 65 rfl).trans ((fr2 Fm61 65 rfl).trans ((fr2 Fm45 65 rfl).trans ((fr2 Fm20 65 rfl).trans (fr2 Fm5 65 rfl)))))))), (show (m109.1 28) = (m.1 28) from ((fr1 Fm109 28 rfl).trans ((fr1 Fm94 28 rfl).trans ((fr1 Fm78 28 rfl).trans ((fr1 Fm61 28 rfl).trans ((fr1 Fm45 28 rfl).trans ((fr1 Fm20 28 rfl).trans (fr1 Fm5 28 rfl)))))))), (show (m109.1 99) = (m.1 99) from ((fr1 Fm109 99 rfl).trans ((fr1 Fm94 99 rfl).trans ((fr1 Fm78 99 rfl).trans ((fr1 Fm61 99 rfl).trans ((fr1 Fm45 99 rfl).trans ((fr1 Fm20 99 rfl).trans (fr1 Fm5 99 rfl)))))))), (show (m109.2 101) = (m.2 101) from ((fr2 Fm109 101 rfl).trans ((fr2 Fm94 101 rfl).trans ((fr2 Fm78 101 rfl).trans ((fr2 Fm61 101 rfl).trans ((fr2 Fm45 101 rfl).trans ((fr2 Fm20 101 rfl).trans (fr2 Fm5 101 rfl)))))))), (show (m109.2 103) = (m.2 103) from ((fr2 Fm109 103 rfl).trans ((fr2 Fm94 103 rfl).trans ((fr2 Fm78 103 rfl).trans ((fr2 Fm61 103 rfl).trans ((fr2 Fm45 103 rfl).trans ((fr2 Fm20 103 rfl).trans (fr2 Fm5 103 rfl)))))))), (show (m109.2 105) = (m.2 105) from ((fr2 Fm109 105 rfl).trans ((fr2 Fm94 105 rfl).trans ((fr2 Fm78 105 rfl).trans ((fr2 Fm61 105 rfl).trans ((fr2 Fm45 105 rfl).trans ((fr2 Fm20 105 rfl).trans (fr2 Fm5 105 rfl)))))))), (show (m109.2 106) = (m.2 106) from ((fr2 Fm109 106 rfl).trans ((fr2 Fm94 106 rfl).trans ((fr2 Fm78 106 rfl).trans ((fr2 Fm61 106 rfl).trans ((fr2 Fm45 106 rfl).trans ((fr2 Fm20 106 rfl).trans (fr2 Fm5 106 rfl)))))))), (show (m109.2 107) = (m.2 107) from ((fr2 Fm109 107 rfl).trans ((fr2 Fm94 107 rfl).trans ((fr2 Fm78 107 rfl).trans ((fr2 Fm61 107 rfl).trans ((fr2 Fm45 107 rfl).trans ((fr2 Fm20 107 rfl).trans (fr2 Fm5 107 rfl)))))))), (show (m109.2 108) = (m.2 108) from ((fr2 Fm109 108 rfl).trans ((fr2 Fm94 108 rfl).trans ((fr2 Fm78 108 rfl).trans ((fr2 Fm61 108 rfl).trans ((fr2 Fm45 108 rfl).trans ((fr2 Fm20 108 rfl).trans (fr2 Fm5 108 rfl))))))))]; exact pTd), (show (m109.1 99) = (m.1 99) + (m109.2 50) (m.1 25) by rewrite [(show (m109.1 99) = (m.1 99) from ((fr1 Fm109 99 rfl).trans ((fr1 Fm94 99 rfl).trans ((fr1 Fm78 99 rfl).trans ((fr1 Fm61 99 rfl).trans ((fr1 Fm45 99 rfl).trans ((fr1 Fm20 99 rfl).trans (fr1 Fm5 99 rfl)))))))), (show (m109.2 50) = (upI (m.2 50) (m.1 25) 0) from ((fr2 Fm109 50 rfl).trans ((fr2 Fm94 50 rfl).trans ((fr2 Fm78 50 rfl).trans ((fr2 Fm61 50 rfl).trans (fr2 Fm45 50 rfl))))))]; first | omega | (rw [upI_s]; omega)), (show (m109.2 50) (m.1 25) ≤ 12 by rewrite [(show (m109.2 50) = (upI (m.2 50) (m.1 25) 0) from ((fr2 Fm109 50 rfl).trans ((fr2 Fm94 50 rfl).trans ((fr2 Fm78 50 rfl).trans ((fr2 Fm61 50 rfl).trans (fr2 Fm45 50 rfl))))))]; first | omega | (rw [upI_s]; omega)), (show agr (m.2 50) (m109.2 50) (m.1 25) by rewrite [(show (m109.2 50) = (upI (m.2 50) (m.1 25) 0) from ((fr2 Fm109 50 rfl).trans ((fr2 Fm94 50 rfl).trans ((fr2 Fm78 50 rfl).trans ((fr2 Fm61 50 rfl).trans (fr2 Fm45 50 rfl))))))]; first | exact agr_u (Int.le_refl _) | exact agr_t hS1 (agr_u (Int.le_refl _)) (Int.le_refl _))⟩) (show 1000000 * (8 - (m109.1 10)) + (4000 - (m109.1 8)) < ((((1000000 * (8 - (m94.1 10)) + (4000 - (m94.1 8)) : Int) + 1).toNat : Nat) : Int) by rewrite [(show (m109.1 10) = (m94.1 10) from (fr1 Fm109 10 rfl)), (show (m109.1 8) = (m94.1 8) from (fr1 Fm109 8 rfl))]; omega)
                  · skip
                    replace h95 : LxP (m94.1 7) (m94.1 8) (m94.1 9) (m78.1 6) (m94.1 10) := h95
                    rewrite [(show (m78.1 6) = (m.1 6) from ((fr1 Fm78 6 rfl).trans ((fr1 Fm61 6 rfl).trans ((fr1 Fm45 6 rfl).trans ((fr1 Fm20 6 rfl).trans (fr1 Fm5 6 rfl))))))] at h95
                    have hLx := h95
                    clear h96
                    replace h97 : (m78.1 8) ≤ (m94.1 8) := h97
                    clear h98
                    have hf210 : 1 ≤ (m94.1 10) := by omega
                    clear g83 g84 g85 g86 g87 h79 h81 u90 u89 h97
                    refine T_ld 149 (.ref 189) rfl (fun _ => rfl) ?_
                    refine T_ld 150 (.int (i32 (m.1 25))) rfl (fun _ => rfl) ?_
                    refine T_pf (l' := [(64, (m.1 25))]) 153 (m.1 25) rfl rfl rfl rfl rfl rfl ?_
                    have g211 : (-1) ≤ (m.1 25) ∧ (m.1 25) ≤ 15 := ⟨by omega, by omega⟩
                    refine T_gf 157 (.int (i32 (m94.1 10))) rfl rfl rfl rfl rfl rfl ?_
                    refine T_if 211 160 rfl rfl rfl (r32 (by omega) (by omega)) (fun (h212 : (m94.1 10) ≠ 0) => ?_) (fun (h212 : ¬ ((m94.1 10) ≠ 0)) => by exfalso; omega)
                    refine T_ld 212 (.ref 189) rfl (fun _ => rfl) ?_
                    refine T_ld 213 (.int (i32 (-1))) rfl (fun _ => rfl) ?_
                    refine T_pf (l' := [(64, (-1))]) 216 (-1) rfl rfl rfl rfl rfl rfl ?_
                    refine T_ld 217 (.ref 189) rfl (fun _ => rfl) ?_
                    refine T_ld 219 (.int (i32 125)) rfl (fun _ => rfl) ?_
                    refine T_call 222 232 [.ref 189, .int (i32 125)] [] rfl (fun _ => rfl) rfl (d_need w (mO m94 [(64, (-1))] []) c N D (by omega) (Ty_mO Tm94 rfl rfl ⟨⟨(by omega : ((-1) : Int) ≤ (-1)), (by omega : ((-1) : Int) ≤ 15)⟩, trivial⟩ trivial) 125 ⟨by decide, by decide⟩ (show 1 ≤ (125 : Int) by omega) (show LxP (m94.1 7) (m94.1 8) (m94.1 9) (m94.1 6) (m94.1 10) by rewrite [(show (m94.1 6) = (m.1 6) from ((fr1 Fm94 6 rfl).trans ((fr1 Fm78 6 rfl).trans ((fr1 Fm61 6 rfl).trans ((fr1 Fm45 6 rfl).trans ((fr1 Fm20 6 rfl).trans (fr1 Fm5 6 rfl)))))))]; first | exact hLx | (intro h9; exfalso; omega) | (intro h9; have h8 := hLx (by omega); omega))) (fun rr213 k214 => ?_)
                    obtain ⟨m215, Tm215, Fm215, h216, h217, h218, h219, rfl⟩ := k214
                    refine ⟨_, _, rfl, ?_⟩
                    refine T_nb (st' := []) rfl ?_
                    have g220 : 0 ≤ m215.1 7 ∧ m215.1 7 ≤ 330 := Tm215.1 7
                    have g221 : 0 ≤ m215.1 8 ∧ m215.1 8 ≤ 4000 := Tm215.1 8
                    have g222 : 0 ≤ m215.1 9 ∧ m215.1 9 ≤ 4000 := Tm215.1 9
                    have g223 : 0 ≤ m215.1 10 ∧ m215.1 10 ≤ 8 := Tm215.1 10
                    have g224 : (-1) ≤ m215.1 11 ∧ m215.1 11 ≤ 4000 := Tm215.1 11
                    replace h216 : LxP (m215.1 7) (m215.1 8) (m215.1 9) (m94.1 6) (m215.1 10) := h216
                    rewrite [(show (m94.1 6) = (m.1 6) from ((fr1 Fm94 6 rfl).trans ((fr1 Fm78 6 rfl).trans ((fr1 Fm61 6 rfl).trans ((fr1 Fm45 6 rfl).trans ((fr1 Fm20 6 rfl).trans (fr1 Fm5 6 rfl)))))))] at h216
                    replace h217 : (m215.1 10) = 0 → (m94.1 10) = 0 ∧ (m94.1 7) = (125 : Int) := h217
                    replace h218 : (m94.1 8) ≤ (m215.1 8) := h218
                    replace h219 : (m215.1 10) = 0 → (m94.1 8) + (m94.1 9) ≤ (m215.1 8) := h219
                    have hf225 : 1 ≤ (m215.1 10) := by omega
                    clear h217
                    clear h219
                    have hLx := h216
                    clear g99 g100 g101 g102 g103 h95 hf210 h212 h218
                    refine T_ret rfl (fun _ => rfl) ?_
                    exact ⟨(mO m215 [] []), Tm215, (fr_m (fr_s Fm215 (fr_m (fr_s Fm94 (fr_m (fr_s Fm78 (fr_m (fr_s Fm61 (fr_m (fr_s Fm45 (fr_m (fr_s Fm20 (fr_m (fr_s Fm5 (fr_m fr_0 rfl rfl) rfl rfl) rfl rfl) rfl rfl) rfl rfl) rfl rfl) rfl rfl) rfl rfl) rfl rfl) rfl rfl) rfl rfl) rfl rfl) rfl rfl) rfl rfl) rfl rfl), (show (m215.1 10) = 0 → (m.1 10) = 0 by omega), (show LxP (m215.1 7) (m215.1 8) (m215.1 9) (m.1 6) (m215.1 10) by first | (first | exact hLx | exact (fun _ => hLx (by omega)) | (intro h9; exfalso; omega)) | (exfalso; omega)), (show ∀ k, (m215.2 14) k + (m215.2 15) k ≤ 4000 by rewrite [(show (m215.2 14) = (m20.2 14) from ((fr2 Fm215 14 rfl).trans ((fr2 Fm94 14 rfl).trans ((fr2 Fm78 14 rfl).trans ((fr2 Fm61 14 rfl).trans (fr2 Fm45 14 rfl)))))), (show (m215.2 15) = (m20.2 15) from ((fr2 Fm215 15 rfl).trans ((fr2 Fm94 15 rfl).trans ((fr2 Fm78 15 rfl).trans ((fr2 Fm61 15 rfl).trans (fr2 Fm45 15 rfl))))))]; first | (exact hNM) | (exfalso; omega)), (show ∀ k, (m215.2 47) k + (m215.2 48) k ≤ 4000 by rewrite [(show (m215.2 47) = (m61.2 47) from ((fr2 Fm215 47 rfl).trans ((fr2 Fm94 47 rfl).trans (fr2 Fm78 47 rfl)))), (show (m215.2 48) = (m61.2 48) from ((fr2 Fm215 48 rfl).trans ((fr2 Fm94 48 rfl).trans (fr2 Fm78 48 rfl))))]; first | (exact hPA) | (exfalso; omega)), (fun (h : (m215.1 10) = 0) => absurd h (by omega)), rfl⟩
                · skip
                  replace h79 : LxP (m78.1 7) (m78.1 8) (m78.1 9) (m61.1 6) (m78.1 10) := h79
                  rewrite [(show (m61.1 6) = (m.1 6) from ((fr1 Fm61 6 rfl).trans ((fr1 Fm45 6 rfl).trans ((fr1 Fm20 6 rfl).trans (fr1 Fm5 6 rfl)))))] at h79
                  have hLx := h79
                  clear h80
                  replace h81 : (m61.1 8) ≤ (m78.1 8) := h81
                  clear h82
                  have hf226 : 1 ≤ (m78.1 10) := by omega
                  clear g50 g51 g52 g53 g54 h46 u56 h58 h59 q69_7 q69_9 q69_11 ic65
                  refine T_ld 143 (.ref 189) rfl (fun _ => rfl) ?_
                  refine T_ld 145 (.int (i32 123)) rfl (fun _ => rfl) ?_
                  refine T_call 148 232 [.ref 189, .int (i32 123)] [] rfl (fun _ => rfl) rfl (d_need w (mO m78 [] []) c N D (by omega) Tm78 123 ⟨by decide, by decide⟩ (show 1 ≤ (123 : Int) by omega) (show LxP (m78.1 7) (m78.1 8) (m78.1 9) (m78.1 6) (m78.1 10) by rewrite [(show (m78.1 6) = (m.1 6) from ((fr1 Fm78 6 rfl).trans ((fr1 Fm61 6 rfl).trans ((fr1 Fm45 6 rfl).trans ((fr1 Fm20 6 rfl).trans (fr1 Fm5 6 rfl))))))]; first | exact hLx | (intro h9; exfalso; omega) | (intro h9; have h8 := hLx (by omega); omega))) (fun rr227 k228 => ?_)
                  obtain ⟨m229, Tm229, Fm229, h230, h231, h232, h233, rfl⟩ := k228
                  refine ⟨_, _, rfl, ?_⟩
                  refine T_nb (st' := []) rfl ?_
                  have g234 : 0 ≤ m229.1 7 ∧ m229.1 7 ≤ 330 := Tm229.1 7
                  have g235 : 0 ≤ m229.1 8 ∧ m229.1 8 ≤ 4000 := Tm229.1 8
                  have g236 : 0 ≤ m229.1 9 ∧ m229.1 9 ≤ 4000 := Tm229.1 9
                  have g237 : 0 ≤ m229.1 10 ∧ m229.1 10 ≤ 8 := Tm229.1 10
                  have g238 : (-1) ≤ m229.1 11 ∧ m229.1 11 ≤ 4000 := Tm229.1 11
                  replace h230 : LxP (m229.1 7) (m229.1 8) (m229.1 9) (m78.1 6) (m229.1 10) := h230
                  rewrite [(show (m78.1 6) = (m.1 6) from ((fr1 Fm78 6 rfl).trans ((fr1 Fm61 6 rfl).trans ((fr1 Fm45 6 rfl).trans ((fr1 Fm20 6 rfl).trans (fr1 Fm5 6 rfl))))))] at h230
                  replace h231 : (m229.1 10) = 0 → (m78.1 10) = 0 ∧ (m78.1 7) = (123 : Int) := h231
                  replace h232 : (m78.1 8) ≤ (m229.1 8) := h232
                  replace h233 : (m229.1 10) = 0 → (m78.1 8) + (m78.1 9) ≤ (m229.1 8) := h233
                  have hf239 : 1 ≤ (m229.1 10) := by omega
                  clear h231
                  clear h233
                  have hLx := h230
                  clear g83 g84 g85 g86 g87 h79 h81 hf226 h232
                  refine T_ld 149 (.ref 189) rfl (fun _ => rfl) ?_
                  refine T_ld 150 (.int (i32 (m.1 25))) rfl (fun _ => rfl) ?_
                  refine T_pf (l' := [(64, (m.1 25))]) 153 (m.1 25) rfl rfl rfl rfl rfl rfl ?_
                  have g240 : (-1) ≤ (m.1 25) ∧ (m.1 25) ≤ 15 := ⟨by omega, by omega⟩
                  refine T_gf 157 (.int (i32 (m229.1 10))) rfl rfl rfl rfl rfl rfl ?_
                  refine T_if 211 160 rfl rfl rfl (r32 (by omega) (by omega)) (fun (h241 : (m229.1 10) ≠ 0) => ?_) (fun (h241 : ¬ ((m229.1 10) ≠ 0)) => by exfalso; omega)
                  refine T_ld 212 (.ref 189) rfl (fun _ => rfl) ?_
                  refine T_ld 213 (.int (i32 (-1))) rfl (fun _ => rfl) ?_
                  refine T_pf (l' := [(64, (-1))]) 216 (-1) rfl rfl rfl rfl rfl rfl ?_
                  refine T_ld 217 (.ref 189) rfl (fun _ => rfl) ?_
                  refine T_ld 219 (.int (i32 125)) rfl (fun _ => rfl) ?_
                  refine T_call 222 232 [.ref 189, .int (i32 125)] [] rfl (fun _ => rfl) rfl (d_need w (mO m229 [(64, (-1))] []) c N D (by omega) (Ty_mO Tm229 rfl rfl ⟨⟨(by omega : ((-1) : Int) ≤ (-1)), (by omega : ((-1) : Int) ≤ 15)⟩, trivial⟩ trivial) 125 ⟨by decide, by decide⟩ (show 1 ≤ (125 : Int) by omega) (show LxP (m229.1 7) (m229.1 8) (m229.1 9) (m229.1 6) (m229.1 10) by rewrite [(show (m229.1 6) = (m.1 6) from ((fr1 Fm229 6 rfl).trans ((fr1 Fm78 6 rfl).trans ((fr1 Fm61 6 rfl).trans ((fr1 Fm45 6 rfl).trans ((fr1 Fm20 6 rfl).trans (fr1 Fm5 6 rfl)))))))]; first | exact hLx | (intro h9; exfalso; omega) | (intro h9; have h8 := hLx (by omega); omega))) (fun rr242 k243 => ?_)
                  obtain ⟨m244, Tm244, Fm244, h245, h246, h247, h248, rfl⟩ := k243
                  refine ⟨_, _, rfl, ?_⟩
                  refine T_nb (st' := []) rfl ?_
                  have g249 : 0 ≤ m244.1 7 ∧ m244.1 7 ≤ 330 := Tm244.1 7
                  have g250 : 0 ≤ m244.1 8 ∧ m244.1 8 ≤ 4000 := Tm244.1 8
                  have g251 : 0 ≤ m244.1 9 ∧ m244.1 9 ≤ 4000 := Tm244.1 9
                  have g252 : 0 ≤ m244.1 10 ∧ m244.1 10 ≤ 8 := Tm244.1 10
                  have g253 : (-1) ≤ m244.1 11 ∧ m244.1 11 ≤ 4000 := Tm244.1 11
                  replace h245 : LxP (m244.1 7) (m244.1 8) (m244.1 9) (m229.1 6) (m244.1 10) := h245
                  rewrite [(show (m229.1 6) = (m.1 6) from ((fr1 Fm229 6 rfl).trans ((fr1 Fm78 6 rfl).trans ((fr1 Fm61 6 rfl).trans ((fr1 Fm45 6 rfl).trans ((fr1 Fm20 6 rfl).trans (fr1 Fm5 6 rfl)))))))] at h245
                  replace h246 : (m244.1 10) = 0 → (m229.1 10) = 0 ∧ (m229.1 7) = (125 : Int) := h246
                  replace h247 : (m229.1 8) ≤ (m244.1 8) := h247
                  replace h248 : (m244.1 10) = 0 → (m229.1 8) + (m229.1 9) ≤ (m244.1 8) := h248
                  have hf254 : 1 ≤ (m244.1 10) := by omega
                  clear h246
                  clear h248
                  have hLx := h245
                  clear g234 g235 g236 g237 g238 hf239 h230 h241 h247
                  refine T_ret rfl (fun _ => rfl) ?_
                  exact ⟨(mO m244 [] []), Tm244, (fr_m (fr_s Fm244 (fr_m (fr_s Fm229 (fr_m (fr_s Fm78 (fr_m (fr_s Fm61 (fr_m (fr_s Fm45 (fr_m (fr_s Fm20 (fr_m (fr_s Fm5 (fr_m fr_0 rfl rfl) rfl rfl) rfl rfl) rfl rfl) rfl rfl) rfl rfl) rfl rfl) rfl rfl) rfl rfl) rfl rfl) rfl rfl) rfl rfl) rfl rfl) rfl rfl) rfl rfl), (show (m244.1 10) = 0 → (m.1 10) = 0 by omega), (show LxP (m244.1 7) (m244.1 8) (m244.1 9) (m.1 6) (m244.1 10) by first | (first | exact hLx | exact (fun _ => hLx (by omega)) | (intro h9; exfalso; omega)) | (exfalso; omega)), (show ∀ k, (m244.2 14) k + (m244.2 15) k ≤ 4000 by rewrite [(show (m244.2 14) = (m20.2 14) from ((fr2 Fm244 14 rfl).trans ((fr2 Fm229 14 rfl).trans ((fr2 Fm78 14 rfl).trans ((fr2 Fm61 14 rfl).trans (fr2 Fm45 14 rfl)))))), (show (m244.2 15) = (m20.2 15) from ((fr2 Fm244 15 rfl).trans ((fr2 Fm229 15 rfl).trans ((fr2 Fm78 15 rfl).trans ((fr2 Fm61 15 rfl).trans (fr2 Fm45 15 rfl))))))]; first | (exact hNM) | (exfalso; omega)), (show ∀ k, (m244.2 47) k + (m244.2 48) k ≤ 4000 by rewrite [(show (m244.2 47) = (m61.2 47) from ((fr2 Fm244 47 rfl).trans ((fr2 Fm229 47 rfl).trans (fr2 Fm78 47 rfl)))), (show (m244.2 48) = (m61.2 48) from ((fr2 Fm244 48 rfl).trans ((fr2 Fm229 48 rfl).trans (fr2 Fm78 48 rfl))))]; first | (exact hPA) | (exfalso; omega)), (fun (h : (m244.1 10) = 0) => absurd h (by omega)), rfl⟩
              · skip
                clear c70
                have hf255 : 1 ≤ (m61.1 10) := by omega
                refine T_ld 88 (.int (i32 v60)) rfl (fun _ => rfl) ?_
                refine T_if 136 91 rfl rfl rfl (r32 (by omega) (by omega)) (fun (h256 : v60 = 0) => ?_) (fun (h256 : ¬ (v60 = 0)) => by exfalso; omega)
                refine T_ld 137 (.ref 189) rfl (fun _ => rfl) ?_
                refine T_ld 139 (.int (i32 41)) rfl (fun _ => rfl) ?_
                refine T_call 142 232 [.ref 189, .int (i32 41)] [] rfl (fun _ => rfl) rfl (d_need w (mO m61 [] []) c N D (by omega) Tm61 41 ⟨by decide, by decide⟩ (show 1 ≤ (41 : Int) by omega) (show LxP (m61.1 7) (m61.1 8) (m61.1 9) (m61.1 6) (m61.1 10) by rewrite [(show (m61.1 6) = (m.1 6) from ((fr1 Fm61 6 rfl).trans ((fr1 Fm45 6 rfl).trans ((fr1 Fm20 6 rfl).trans (fr1 Fm5 6 rfl)))))]; first | exact hLx | (intro h9; exfalso; omega) | (intro h9; have h8 := hLx (by omega); omega))) (fun rr257 k258 => ?_)
                obtain ⟨m259, Tm259, Fm259, h260, h261, h262, h263, rfl⟩ := k258
                refine ⟨_, _, rfl, ?_⟩
                refine T_nb (st' := []) rfl ?_
                have g264 : 0 ≤ m259.1 7 ∧ m259.1 7 ≤ 330 := Tm259.1 7
                have g265 : 0 ≤ m259.1 8 ∧ m259.1 8 ≤ 4000 := Tm259.1 8
                have g266 : 0 ≤ m259.1 9 ∧ m259.1 9 ≤ 4000 := Tm259.1 9
                have g267 : 0 ≤ m259.1 10 ∧ m259.1 10 ≤ 8 := Tm259.1 10
                have g268 : (-1) ≤ m259.1 11 ∧ m259.1 11 ≤ 4000 := Tm259.1 11
                replace h260 : LxP (m259.1 7) (m259.1 8) (m259.1 9) (m61.1 6) (m259.1 10) := h260
                rewrite [(show (m61.1 6) = (m.1 6) from ((fr1 Fm61 6 rfl).trans ((fr1 Fm45 6 rfl).trans ((fr1 Fm20 6 rfl).trans (fr1 Fm5 6 rfl)))))] at h260
                replace h261 : (m259.1 10) = 0 → (m61.1 10) = 0 ∧ (m61.1 7) = (41 : Int) := h261
                replace h262 : (m61.1 8) ≤ (m259.1 8) := h262
                replace h263 : (m259.1 10) = 0 → (m61.1 8) + (m61.1 9) ≤ (m259.1 8) := h263
                have hf269 : 1 ≤ (m259.1 10) := by omega
                clear h261
                clear h263
                have hLx := h260
                clear g50 g51 g52 g53 g54 h46 u56 h58 h59 q69_7 q69_9 q69_11 ic65
                refine T_ld 143 (.ref 189) rfl (fun _ => rfl) ?_
                refine T_ld 145 (.int (i32 123)) rfl (fun _ => rfl) ?_
                refine T_call 148 232 [.ref 189, .int (i32 123)] [] rfl (fun _ => rfl) rfl (d_need w (mO m259 [] []) c N D (by omega) Tm259 123 ⟨by decide, by decide⟩ (show 1 ≤ (123 : Int) by omega) (show LxP (m259.1 7) (m259.1 8) (m259.1 9) (m259.1 6) (m259.1 10) by rewrite [(show (m259.1 6) = (m.1 6) from ((fr1 Fm259 6 rfl).trans ((fr1 Fm61 6 rfl).trans ((fr1 Fm45 6 rfl).trans ((fr1 Fm20 6 rfl).trans (fr1 Fm5 6 rfl))))))]; first | exact hLx | (intro h9; exfalso; omega) | (intro h9; have h8 := hLx (by omega); omega))) (fun rr270 k271 => ?_)
                obtain ⟨m272, Tm272, Fm272, h273, h274, h275, h276, rfl⟩ := k271
                refine ⟨_, _, rfl, ?_⟩
                refine T_nb (st' := []) rfl ?_
                have g277 : 0 ≤ m272.1 7 ∧ m272.1 7 ≤ 330 := Tm272.1 7
                have g278 : 0 ≤ m272.1 8 ∧ m272.1 8 ≤ 4000 := Tm272.1 8
                have g279 : 0 ≤ m272.1 9 ∧ m272.1 9 ≤ 4000 := Tm272.1 9
                have g280 : 0 ≤ m272.1 10 ∧ m272.1 10 ≤ 8 := Tm272.1 10
                have g281 : (-1) ≤ m272.1 11 ∧ m272.1 11 ≤ 4000 := Tm272.1 11
                replace h273 : LxP (m272.1 7) (m272.1 8) (m272.1 9) (m259.1 6) (m272.1 10) := h273
                rewrite [(show (m259.1 6) = (m.1 6) from ((fr1 Fm259 6 rfl).trans ((fr1 Fm61 6 rfl).trans ((fr1 Fm45 6 rfl).trans ((fr1 Fm20 6 rfl).trans (fr1 Fm5 6 rfl))))))] at h273
                replace h274 : (m272.1 10) = 0 → (m259.1 10) = 0 ∧ (m259.1 7) = (123 : Int) := h274
                replace h275 : (m259.1 8) ≤ (m272.1 8) := h275
                replace h276 : (m272.1 10) = 0 → (m259.1 8) + (m259.1 9) ≤ (m272.1 8) := h276
                have hf282 : 1 ≤ (m272.1 10) := by omega
                clear h274
                clear h276
                have hLx := h273
                clear g264 g265 g266 g267 g268 hf269 h260 h262 h275
                refine T_ld 149 (.ref 189) rfl (fun _ => rfl) ?_
                refine T_ld 150 (.int (i32 (m.1 25))) rfl (fun _ => rfl) ?_
                refine T_pf (l' := [(64, (m.1 25))]) 153 (m.1 25) rfl rfl rfl rfl rfl rfl ?_
                have g283 : (-1) ≤ (m.1 25) ∧ (m.1 25) ≤ 15 := ⟨by omega, by omega⟩
                refine T_gf 157 (.int (i32 (m272.1 10))) rfl rfl rfl rfl rfl rfl ?_
                refine T_if 211 160 rfl rfl rfl (r32 (by omega) (by omega)) (fun (h284 : (m272.1 10) ≠ 0) => ?_) (fun (h284 : ¬ ((m272.1 10) ≠ 0)) => by exfalso; omega)
                refine T_ld 212 (.ref 189) rfl (fun _ => rfl) ?_
                refine T_ld 213 (.int (i32 (-1))) rfl (fun _ => rfl) ?_
                refine T_pf (l' := [(64, (-1))]) 216 (-1) rfl rfl rfl rfl rfl rfl ?_
                refine T_ld 217 (.ref 189) rfl (fun _ => rfl) ?_
                refine T_ld 219 (.int (i32 125)) rfl (fun _ => rfl) ?_
                refine T_call 222 232 [.ref 189, .int (i32 125)] [] rfl (fun _ => rfl) rfl (d_need w (mO m272 [(64, (-1))] []) c N D (by omega) (Ty_mO Tm272 rfl rfl ⟨⟨(by omega : ((-1) : Int) ≤ (-1)), (by omega : ((-1) : Int) ≤ 15)⟩, trivial⟩ trivial) 125 ⟨by decide, by decide⟩ (show 1 ≤ (125 : Int) by omega) (show LxP (m272.1 7) (m272.1 8) (m272.1 9) (m272.1 6) (m272.1 10) by rewrite [(show (m272.1 6) = (m.1 6) from ((fr1 Fm272 6 rfl).trans ((fr1 Fm259 6 rfl).trans ((fr1 Fm61 6 rfl).trans ((fr1 Fm45 6 rfl).trans ((fr1 Fm20 6 rfl).trans (fr1 Fm5 6 rfl)))))))]; first | exact hLx | (intro h9; exfalso; omega) | (intro h9; have h8 := hLx (by omega); omega))) (fun rr285 k286 => ?_)
                obtain ⟨m287, Tm287, Fm287, h288, h289, h290, h291, rfl⟩ := k286
                refine ⟨_, _, rfl, ?_⟩
                refine T_nb (st' := []) rfl ?_
                have g292 : 0 ≤ m287.1 7 ∧ m287.1 7 ≤ 330 := Tm287.1 7
                have g293 : 0 ≤ m287.1 8 ∧ m287.1 8 ≤ 4000 := Tm287.1 8
                have g294 : 0 ≤ m287.1 9 ∧ m287.1 9 ≤ 4000 := Tm287.1 9
                have g295 : 0 ≤ m287.1 10 ∧ m287.1 10 ≤ 8 := Tm287.1 10
                have g296 : (-1) ≤ m287.1 11 ∧ m287.1 11 ≤ 4000 := Tm287.1 11
                replace h288 : LxP (m287.1 7) (m287.1 8) (m287.1 9) (m272.1 6) (m287.1 10) := h288
                rewrite [(show (m272.1 6) = (m.1 6) from ((fr1 Fm272 6 rfl).trans ((fr1 Fm259 6 rfl).trans ((fr1 Fm61 6 rfl).trans ((fr1 Fm45 6 rfl).trans ((fr1 Fm20 6 rfl).trans (fr1 Fm5 6 rfl)))))))] at h288
                replace h289 : (m287.1 10) = 0 → (m272.1 10) = 0 ∧ (m272.1 7) = (125 : Int) := h289
                replace h290 : (m272.1 8) ≤ (m287.1 8) := h290
                replace h291 : (m287.1 10) = 0 → (m272.1 8) + (m272.1 9) ≤ (m287.1 8) := h291
                have hf297 : 1 ≤ (m287.1 10) := by omega
                clear h289
                clear h291
                have hLx := h288
                clear g277 g278 g279 g280 g281 hf282 h273 h284 h290
                refine T_ret rfl (fun _ => rfl) ?_
                exact ⟨(mO m287 [] []), Tm287, (fr_m (fr_s Fm287 (fr_m (fr_s Fm272 (fr_m (fr_s Fm259 (fr_m (fr_s Fm61 (fr_m (fr_s Fm45 (fr_m (fr_s Fm20 (fr_m (fr_s Fm5 (fr_m fr_0 rfl rfl) rfl rfl) rfl rfl) rfl rfl) rfl rfl) rfl rfl) rfl rfl) rfl rfl) rfl rfl) rfl rfl) rfl rfl) rfl rfl) rfl rfl) rfl rfl) rfl rfl), (show (m287.1 10) = 0 → (m.1 10) = 0 by omega), (show LxP (m287.1 7) (m287.1 8) (m287.1 9) (m.1 6) (m287.1 10) by first | (first | exact hLx | exact (fun _ => hLx (by omega)) | (intro h9; exfalso; omega)) | (exfalso; omega)), (show ∀ k, (m287.2 14) k + (m287.2 15) k ≤ 4000 by rewrite [(show (m287.2 14) = (m20.2 14) from ((fr2 Fm287 14 rfl).trans ((fr2 Fm272 14 rfl).trans ((fr2 Fm259 14 rfl).trans ((fr2 Fm61 14 rfl).trans (fr2 Fm45 14 rfl)))))), (show (m287.2 15) = (m20.2 15) from ((fr2 Fm287 15 rfl).trans ((fr2 Fm272 15 rfl).trans ((fr2 Fm259 15 rfl).trans ((fr2 Fm61 15 rfl).trans (fr2 Fm45 15 rfl))))))]; first | (exact hNM) | (exfalso; omega)), (show ∀ k, (m287.2 47) k + (m287.2 48) k ≤ 4000 by rewrite [(show (m287.2 47) = (m61.2 47) from ((fr2 Fm287 47 rfl).trans ((fr2 Fm272 47 rfl).trans (fr2 Fm259 47 rfl)))), (show (m287.2 48) = (m61.2 48) from ((fr2 Fm287 48 rfl).trans ((fr2 Fm272 48 rfl).trans (fr2 Fm259 48 rfl))))]; first | (exact hPA) | (exfalso; omega)), (fun (h : (m287.1 10) = 0) => absurd h (by omega)), rfl⟩
          refine Tm_lv (a := [(0, .ref 189), (1, .int (i32 (m.1 25))), (2, .int (i32 0))]) rfl rfl ⟨rfl, rfl, rfl, trivial⟩ ?_
          exact L87_62 ((1000000 * (8 - (m45.1 10)) + 2 * (4000 - (m45.1 8)) + (0 : Int) : Int) + 1).toNat 0 (mO m45 [] []) ⟨by decide, by decide⟩ Tm45 (fr_m fr_0 rfl rfl) (show 0 ≤ (0 : Int) by omega) (show (0 : Int) ≤ 0 by omega) (show LxP (m45.1 7) (m45.1 8) (m45.1 9) (m.1 6) (m45.1 10) by first | exact hLx | exact (fun _ => hLx (by omega)) | (intro h9; exfalso; omega)) (show ∀ k, (m45.2 47) k + (m45.2 48) k ≤ 4000 by rewrite [(show (m45.2 47) = (m.2 47) from ((fr2 Fm45 47 rfl).trans ((fr2 Fm20 47 rfl).trans (fr2 Fm5 47 rfl)))), (show (m45.2 48) = (m.2 48) from ((fr2 Fm45 48 rfl).trans ((fr2 Fm20 48 rfl).trans (fr2 Fm5 48 rfl))))]; exact hPA) (show (0 : Int) = 0 ∨ (0 : Int) = 1 by omega) (fun _ => (show (m.1 8) + 1 ≤ (m45.1 8) by omega)) (show 1000000 * (8 - (m45.1 10)) + 2 * (4000 - (m45.1 8)) + (0 : Int) < ((((1000000 * (8 - (m45.1 10)) + 2 * (4000 - (m45.1 8)) + (0 : Int) : Int) + 1).toNat : Nat) : Int) by omega)
        · skip
          refine T_ld 82 (.int (i32 1)) rfl (fun _ => rfl) ?_
          refine T_goto 86 rfl (fun _ => rfl) ?_
          refine T_sto 87 [(2, .int (i32 1)), (1, .int (i32 (m.1 25))), (0, .ref 189)] rfl (fun _ => rfl) ?_
          have L87_300 : ∀ (n309 : Nat) (v298 : Int) (m299 : mR), (R32 v298) → Ty m299 → fr [7, 8, 9, 10, 11, 12] [46, 47, 48, 49] (mO m45 [] []) m299 → (0 ≤ v298) → (v298 ≤ 1) → (LxP (m299.1 7) (m299.1 8) (m299.1 9) (m.1 6) (m299.1 10)) → (∀ k, (m299.2 47) k + (m299.2 48) k ≤ 4000) → (v298 = 0 ∨ v298 = 1) → ((m299.1 10) = 0 → ((m.1 8) + 1 ≤ (m299.1 8))) → 1000000 * (8 - (m299.1 10)) + 2 * (4000 - (m299.1 8)) + v298 < (n309 : Int) → TT w D pm_267 (87, [(0, .ref 189), (1, .int (i32 (m.1 25))), (2, .int (i32 v298))], [], (mhp (mO m299 [] []) c, N), 0, 0) (Q_takeAction m c N) := by
            intro n309
            induction n309 with
            | zero =>
              intro v298 m299 q306 Tm299 Fm299 ic301 ic302 ic303 ic304 ic305 c308 hmu
              obtain ⟨q306a, q306b⟩ := id q306
              have q307_7 : 0 ≤ m299.1 7 ∧ m299.1 7 ≤ 330 := Tm299.1 7
              have q307_8 : 0 ≤ m299.1 8 ∧ m299.1 8 ≤ 4000 := Tm299.1 8
              have q307_9 : 0 ≤ m299.1 9 ∧ m299.1 9 ≤ 4000 := Tm299.1 9
              have q307_10 : 0 ≤ m299.1 10 ∧ m299.1 10 ≤ 8 := Tm299.1 10
              have q307_11 : (-1) ≤ m299.1 11 ∧ m299.1 11 ≤ 4000 := Tm299.1 11
              have hLx := ic303
              have hPA := ic304
              exfalso
              omega
            | succ n309 ih =>
              intro v298 m299 q306 Tm299 Fm299 ic301 ic302 ic303 ic304 ic305 c308 hmu
              obtain ⟨q306a, q306b⟩ := id q306
              have q307_7 : 0 ≤ m299.1 7 ∧ m299.1 7 ≤ 330 := Tm299.1 7
              have q307_8 : 0 ≤ m299.1 8 ∧ m299.1 8 ≤ 4000 := Tm299.1 8
              have q307_9 : 0 ≤ m299.1 9 ∧ m299.1 9 ≤ 4000 := Tm299.1 9
              have q307_10 : 0 ≤ m299.1 10 ∧ m299.1 10 ≤ 8 := Tm299.1 10
              have q307_11 : (-1) ≤ m299.1 11 ∧ m299.1 11 ≤ 4000 := Tm299.1 11
              have hLx := ic303
              have hPA := ic304
              have ih310 := ih
              by_cases hf311 : (m299.1 10) = 0
              · skip
                have c312 := c308 hf311
                clear c308
                refine T_ld 88 (.int (i32 v298)) rfl (fun _ => rfl) ?_
                refine T_if 136 91 rfl rfl rfl (r32 (by omega) (by omega)) (fun (h313 : v298 = 0) => ?_) (fun (h313 : ¬ (v298 = 0)) => ?_)
                · skip
                  refine T_ld 137 (.ref 189) rfl (fun _ => rfl) ?_
                  refine T_ld 139 (.int (i32 41)) rfl (fun _ => rfl) ?_
                  refine T_call 142 232 [.ref 189, .int (i32 41)] [] rfl (fun _ => rfl) rfl (d_need w (mO m299 [] []) c N D (by omega) Tm299 41 ⟨by decide, by decide⟩ (show 1 ≤ (41 : Int) by omega) (show LxP (m299.1 7) (m299.1 8) (m299.1 9) (m299.1 6) (m299.1 10) by rewrite [(show (m299.1 6) = (m.1 6) from ((fr1 Fm299 6 rfl).trans ((fr1 Fm45 6 rfl).trans ((fr1 Fm20 6 rfl).trans (fr1 Fm5 6 rfl)))))]; first | exact hLx | (intro h9; exfalso; omega) | (intro h9; have h8 := hLx (by omega); omega))) (fun rr314 k315 => ?_)
                  obtain ⟨m316, Tm316, Fm316, h317, h318, h319, h320, rfl⟩ := k315
                  refine ⟨_, _, rfl, ?_⟩
                  refine T_nb (st' := []) rfl ?_
                  have g321 : 0 ≤ m316.1 7 ∧ m316.1 7 ≤ 330 := Tm316.1 7
                  have g322 : 0 ≤ m316.1 8 ∧ m316.1 8 ≤ 4000 := Tm316.1 8
                  have g323 : 0 ≤ m316.1 9 ∧ m316.1 9 ≤ 4000 := Tm316.1 9
                  have g324 : 0 ≤ m316.1 10 ∧ m316.1 10 ≤ 8 := Tm316.1 10
                  have g325 : (-1) ≤ m316.1 11 ∧ m316.1 11 ≤ 4000 := Tm316.1 11
                  by_cases hf326 : (m316.1 10) = 0
                  · skip
                    replace h317 : LxP (m316.1 7) (m316.1 8) (m316.1 9) (m299.1 6) (m316.1 10) := h317
                    rewrite [(show (m299.1 6) = (m.1 6) from ((fr1 Fm299 6 rfl).trans ((fr1 Fm45 6 rfl).trans ((fr1 Fm20 6 rfl).trans (fr1 Fm5 6 rfl)))))] at h317
                    have hLx := h317
                    replace h318 : (m299.1 10) = 0 ∧ (m299.1 7) = (41 : Int) := h318 hf326
                    replace h319 : (m299.1 8) ≤ (m316.1 8) := h319
                    replace h320 : (m299.1 8) + (m299.1 9) ≤ (m316.1 8) := h320 hf326
                    have u327 : (m299.1 8) ≤ (m316.1 8) := by omega
                    have u328 : (m.1 8) + 1 ≤ (m316.1 8) := by omega
                    have hAgC : agr (m.2 65) (m.2 65) (m.1 28) := by first | exact agr_r _ _ | exact hAgC | exact agr_t hAgC hAg (by omega)
                    have u329 : (m.1 28) ≤ (m.1 28) := by omega
                    clear g50 g51 g52 g53 g54 h46 u56 h58 h59 q307_7 q307_9 q307_11 ic303 h318 h320
                    refine T_ld 143 (.ref 189) rfl (fun _ => rfl) ?_
                    refine T_ld 145 (.int (i32 123)) rfl (fun _ => rfl) ?_
                    refine T_call 148 232 [.ref 189, .int (i32 123)] [] rfl (fun _ => rfl) rfl (d_need w (mO m316 [] []) c N D (by omega) Tm316 123 ⟨by decide, by decide⟩ (show 1 ≤ (123 : Int) by omega) (show LxP (m316.1 7) (m316.1 8) (m316.1 9) (m316.1 6) (m316.1 10) by rewrite [(show (m316.1 6) = (m.1 6) from ((fr1 Fm316 6 rfl).trans ((fr1 Fm299 6 rfl).trans ((fr1 Fm45 6 rfl).trans ((fr1 Fm20 6 rfl).trans (fr1 Fm5 6 rfl))))))]; first | exact hLx | (intro h9; exfalso; omega) | (intro h9; have h8 := hLx (by omega); omega))) (fun rr330 k331 => ?_)
                    obtain ⟨m332, Tm332, Fm332, h333, h334, h335, h336, rfl⟩ := k331
                    refine ⟨_, _, rfl, ?_⟩
                    refine T_nb (st' := []) rfl ?_
                    have g337 : 0 ≤ m332.1 7 ∧ m332.1 7 ≤ 330 := Tm332.1 7
                    have g338 : 0 ≤ m332.1 8 ∧ m332.1 8 ≤ 4000 := Tm332.1 8
                    have g339 : 0 ≤ m332.1 9 ∧ m332.1 9 ≤ 4000 := Tm332.1 9
                    have g340 : 0 ≤ m332.1 10 ∧ m332.1 10 ≤ 8 := Tm332.1 10
                    have g341 : (-1) ≤ m332.1 11 ∧ m332.1 11 ≤ 4000 := Tm332.1 11
                    by_cases hf342 : (m332.1 10) = 0
                    · skip
                      replace h333 : LxP (m332.1 7) (m332.1 8) (m332.1 9) (m316.1 6) (m332.1 10) := h333
                      rewrite [(show (m316.1 6) = (m.1 6) from ((fr1 Fm316 6 rfl).trans ((fr1 Fm299 6 rfl).trans ((fr1 Fm45 6 rfl).trans ((fr1 Fm20 6 rfl).trans (fr1 Fm5 6 rfl))))))] at h333
                      have hLx := h333
                      replace h334 : (m316.1 10) = 0 ∧ (m316.1 7) = (123 : Int) := h334 hf342
                      replace h335 : (m316.1 8) ≤ (m332.1 8) := h335
                      replace h336 : (m316.1 8) + (m316.1 9) ≤ (m332.1 8) := h336 hf342
                      have u343 : (m299.1 8) ≤ (m332.1 8) := by omega
                      have u344 : (m.1 8) + 1 ≤ (m332.1 8) := by omega
                      have hAgC : agr (m.2 65) (m.2 65) (m.1 28) := by first | exact agr_r _ _ | exact hAgC | exact agr_t hAgC hAg (by omega)
                      have u345 : (m.1 28) ≤ (m.1 28) := by omega
                      clear g321 g322 g323 g324 g325 h317 h319 u328 u327 h334 h335 h336
                      refine T_ld 149 (.ref 189) rfl (fun _ => rfl) ?_
                      refine T_ld 150 (.int (i32 (m.1 25))) rfl (fun _ => rfl) ?_
                      refine T_pf (l' := [(64, (m.1 25))]) 153 (m.1 25) rfl rfl rfl rfl rfl rfl ?_
                      have g346 : (-1) ≤ (m.1 25) ∧ (m.1 25) ≤ 15 := ⟨by omega, by omega⟩
                      refine T_fl (Ty_mO Tm332 rfl rfl ⟨g346, trivial⟩ trivial) (fun m347 Tm347 Fm347 => ?_)
                      have L153_349 : ∀ (n354 : Nat) (m348 : mR), Ty m348 → fr [7, 8, 9, 10, 11, 12, 28, 69, 70, 71, 72, 73, 74, 75, 99, 100] [50, 65, 66, 67, 68, 76, 77, 78, 79, 80, 81, 82, 83, 84, 85, 86, 87, 88, 89, 90, 91, 92, 101, 102, 103, 104, 105, 106, 107, 108] (mO m347 [] []) m348 → (LxP (m348.1 7) (m348.1 8) (m348.1 9) (m.1 6) (m348.1 10)) → (0 ≤ (m348.2 50) (m.1 25) ∧ (m348.2 50) (m.1 25) ≤ 13) → ((m348.1 10) = 0 → ((m.1 8) + 1 ≤ (m348.1 8)) ∧ (CN (m348.2 65) (m348.2 67) (m348.1 28)) ∧ ((m.1 28) ≤ (m348.1 28)) ∧ (agr (m.2 65) (m348.2 65) (m.1 28)) ∧ (TdP (m348.2 65) (m348.1 28) (m.1 22) (m348.1 99) (m348.2 101) (m348.2 103) (m348.2 105) (m348.2 106) (m348.2 107) (m348.2 108)) ∧ ((m348.1 99) = (m.1 99) + (m348.2 50) (m.1 25)) ∧ ((m348.2 50) (m.1 25) ≤ 12) ∧ (agr (m.2 50) (m348.2 50) (m.1 25))) → 1000000 * (8 - (m348.1 10)) + (4000 - (m348.1 8)) < (n354 : Int) → TT w D pm_267 (153, [(0, .ref 189), (1, .int (i32 (m.1 25))), (2, .int (i32 v298))], [], (mhp (mO m348 [] []) c, N), 0, 0) (Q_takeAction m c N) := by
                        intro n354
                        induction n354 with
                        | zero =>
                          intro m348 Tm348 Fm348 ic350 ic351 c353 hmu
                          have q352_7 : 0 ≤ m348.1 7 ∧ m348.1 7 ≤ 330 := Tm348.1 7
                          have q352_8 : 0 ≤ m348.1 8 ∧ m348.1 8 ≤ 4000 := Tm348.1 8
                          have q352_9 : 0 ≤ m348.1 9 ∧ m348.1 9 ≤ 4000 := Tm348.1 9
                          have q352_10 : 0 ≤ m348.1 10 ∧ m348.1 10 ≤ 8 := Tm348.1 10
                          have q352_11 : (-1) ≤ m348.1 11 ∧ m348.1 11 ≤ 4000 := Tm348.1 11
                          have q352_28 : 0 ≤ m348.1 28 ∧ m348.1 28 ≤ 800 := Tm348.1 28
                          have q352_99 : 0 ≤ m348.1 99 ∧ m348.1 99 ≤ 240 := Tm348.1 99
                          have hLx := ic350
                          exfalso
                          omega
                        | succ n354 ih =>
                          intro m348 Tm348 Fm348 ic350 ic351 c353 hmu
                          have q352_7 : 0 ≤ m348.1 7 ∧ m348.1 7 ≤ 330 := Tm348.1 7
                          have q352_8 : 0 ≤ m348.1 8 ∧ m348.1 8 ≤ 4000 := Tm348.1 8
                          have q352_9 : 0 ≤ m348.1 9 ∧ m348.1 9 ≤ 4000 := Tm348.1 9
                          have q352_10 : 0 ≤ m348.1 10 ∧ m348.1 10 ≤ 8 := Tm348.1 10
                          have q352_11 : (-1) ≤ m348.1 11 ∧ m348.1 11 ≤ 4000 := Tm348.1 11
                          have q352_28 : 0 ≤ m348.1 28 ∧ m348.1 28 ≤ 800 := Tm348.1 28
                          have q352_99 : 0 ≤ m348.1 99 ∧ m348.1 99 ≤ 240 := Tm348.1 99
                          have hLx := ic350
                          have ih355 := ih
                          by_cases hf356 : (m348.1 10) = 0
                          · skip
                            obtain ⟨c357, c358, c359, c360, c361, c362, c363, c364⟩ := c353 hf356
                            clear c353
                            have hCN := c358
                            have hAgC := c360
                            have pTd := c361
                            have hTl := c362
                            have hS1 := c364
                            refine T_gf 157 (.int (i32 (m348.1 10))) rfl rfl rfl rfl rfl rfl ?_
                            refine T_if 211 160 rfl rfl rfl (r32 (by omega) (by omega)) (fun (h365 : (m348.1 10) ≠ 0) => by exfalso; omega) (fun (h365 : ¬ ((m348.1 10) ≠ 0)) => ?_)
                            refine T_ld 161 (.ref 189) rfl (fun _ => rfl) ?_
                            refine T_call 164 269 [.ref 189] [] rfl (fun _ => rfl) rfl (c_isStatement w (mO m348 [] []) c N D (by omega) Tm348 ) (fun rr366 k367 => ?_)
                            obtain ⟨x368, g369, h370, rfl⟩ := k367
                            refine ⟨_, _, rfl, ?_⟩
                            refine T_ns (st' := [.int (i32 x368)]) rfl ?_
                            obtain ⟨g369a, g369b⟩ := g369
                            replace h370 : x368 = 1 → (m348.1 7) ≠ 0 := h370
                            have u371 : (m348.1 8) ≤ (m348.1 8) := by omega
                            have u372 : (m.1 8) + 1 ≤ (m348.1 8) := by omega
                            have hAgC : agr (m.2 65) (m348.2 65) (m.1 28) := by first | exact agr_r _ _ | exact hAgC | exact agr_t hAgC hAg (by omega)
                            have u373 : (m.1 28) ≤ (m348.1 28) := by omega
                            clear g337 g338 g339 g340 g341 h333 u344 u343
                            refine T_if 211 167 rfl rfl rfl (r32 (by omega) (by omega)) (fun (h374 : x368 = 0) => ?_) (fun (h374 : ¬ (x368 = 0)) => ?_)
                            · skip
                              refine T_ld 212 (.ref 189) rfl (fun _ => rfl) ?_
                              refine T_ld 213 (.int (i32 (-1))) rfl (fun _ => rfl) ?_
                              refine T_pf (l' := [(64, (-1))]) 216 (-1) rfl rfl rfl rfl rfl rfl ?_
                              have hAc2 : AcP ((m.1 25) + 1) (m348.1 99) (upI (m.2 109) (m.1 25) (m.1 99)) (m348.2 50) := AcP_add (AcP_k pAc (by omega)) (agr_u (Int.le_refl _)) hS1 (by rw [upI_s]; omega)
                              refine T_ld 217 (.ref 189) rfl (fun _ => rfl) ?_
                              refine T_ld 219 (.int (i32 125)) rfl (fun _ => rfl) ?_
                              refine T_call 222 232 [.ref 189, .int (i32 125)] [] rfl (fun _ => rfl) rfl (d_need w (mO m348 [(64, (-1))] []) c N D (by omega) (Ty_mO Tm348 rfl rfl ⟨⟨(by omega : ((-1) : Int) ≤ (-1)), (by omega : ((-1) : Int) ≤ 15)⟩, trivial⟩ trivial) 125 ⟨by decide, by decide⟩ (show 1 ≤ (125 : Int) by omega) (show LxP (m348.1 7) (m348.1 8) (m348.1 9) (m348.1 6) (m348.1 10) by rewrite [(show (m348.1 6) = (m.1 6) from ((fr1 Fm348 6 rfl).trans ((fr1 Fm347 6 rfl).trans ((fr1 Fm332 6 rfl).trans ((fr1 Fm316 6 rfl).trans ((fr1 Fm299 6 rfl).trans ((fr1 Fm45 6 rfl).trans ((fr1 Fm20 6 rfl).trans (fr1 Fm5 6 rfl)))))))))]; first | exact hLx | (intro h9; exfalso; omega) | (intro h9; have h8 := hLx (by omega); omega))) (fun rr375 k376 => ?_)
                              obtain ⟨m377, Tm377, Fm377, h378, h379, h380, h381, rfl⟩ := k376
                              refine ⟨_, _, rfl, ?_⟩
                              refine T_nb (st' := []) rfl ?_
                              have g382 : 0 ≤ m377.1 7 ∧ m377.1 7 ≤ 330 := Tm377.1 7
                              have g383 : 0 ≤ m377.1 8 ∧ m377.1 8 ≤ 4000 := Tm377.1 8
                              have g384 : 0 ≤ m377.1 9 ∧ m377.1 9 ≤ 4000 := Tm377.1 9
                              have g385 : 0 ≤ m377.1 10 ∧ m377.1 10 ≤ 8 := Tm377.1 10
                              have g386 : (-1) ≤ m377.1 11 ∧ m377.1 11 ≤ 4000 := Tm377.1 11
                              by_cases hf387 : (m377.1 10) = 0
                              · skip
                                replace h378 : LxP (m377.1 7) (m377.1 8) (m377.1 9) (m348.1 6) (m377.1 10) := h378
                                rewrite [(show (m348.1 6) = (m.1 6) from ((fr1 Fm348 6 rfl).trans ((fr1 Fm347 6 rfl).trans ((fr1 Fm332 6 rfl).trans ((fr1 Fm316 6 rfl).trans ((fr1 Fm299 6 rfl).trans ((fr1 Fm45 6 rfl).trans ((fr1 Fm20 6 rfl).trans (fr1 Fm5 6 rfl)))))))))] at h378
                                have hLx := h378
                                replace h379 : (m348.1 10) = 0 ∧ (m348.1 7) = (125 : Int) := h379 hf387
                                replace h380 : (m348.1 8) ≤ (m377.1 8) := h380
                                replace h381 : (m348.1 8) + (m348.1 9) ≤ (m377.1 8) := h381 hf387
                                have u388 : (m348.1 8) ≤ (m377.1 8) := by omega
                                have u389 : (m.1 8) + 1 ≤ (m377.1 8) := by omega
                                have hAgC : agr (m.2 65) (m348.2 65) (m.1 28) := by first | exact agr_r _ _ | exact hAgC | exact agr_t hAgC hAg (by omega)
                                have u390 : (m.1 28) ≤ (m348.1 28) := by omega
                                clear q352_7 q352_9 q352_11 ic350 g369a g369b h370 h374 h379 h381
                                refine T_ret rfl (fun _ => rfl) ?_
                                exact ⟨(mO m377 [] []), Tm377, (fr_m (fr_s Fm377 (fr_m (fr_s Fm348 (fr_m (fr_s Fm347 (fr_m (fr_s Fm332 (fr_m (fr_s Fm316 (fr_m (fr_s Fm299 (fr_m (fr_s Fm45 (fr_m (fr_s Fm20 (fr_m (fr_s Fm5 (fr_m fr_0 rfl rfl) rfl rfl) rfl rfl) rfl rfl) rfl rfl) rfl rfl) rfl rfl) rfl rfl) rfl rfl) rfl rfl) rfl rfl) rfl rfl) rfl rfl) rfl rfl) rfl rfl) rfl rfl) rfl rfl) rfl rfl) rfl rfl), (show (m377.1 10) = 0 → (m.1 10) = 0 by omega), (show LxP (m377.1 7) (m377.1 8) (m377.1 9) (m.1 6) (m377.1 10) by first | (first | exact hLx | exact (fun _ => hLx (by omega)) | (intro h9; exfalso; omega)) | (exfalso; omega)), (show ∀ k, (m377.2 14) k + (m377.2 15) k ≤ 4000 by rewrite [(show (m377.2 14) = (m20.2 14) from ((fr2 Fm377 14 rfl).trans ((fr2 Fm348 14 rfl).trans ((fr2 Fm347 14 rfl).trans ((fr2 Fm332 14 rfl).trans ((fr2 Fm316 14 rfl).trans ((fr2 Fm299 14 rfl).trans (fr2 Fm45 14 rfl)))))))), (show (m377.2 15) = (m20.2 15) from ((fr2 Fm377 15 rfl).trans ((fr2 Fm348 15 rfl).trans ((fr2 Fm347 15 rfl).trans ((fr2 Fm332 15 rfl).trans ((fr2 Fm316 15 rfl).trans ((fr2 Fm299 15 rfl).trans (fr2 Fm45 15 rfl))))))))]; first | (exact hNM) | (exfalso; omega)), (show ∀ k, (m377.2 47) k + (m377.2 48) k ≤ 4000 by rewrite [(show (m377.2 47) = (m299.2 47) from ((fr2 Fm377 47 rfl).trans ((fr2 Fm348 47 rfl).trans ((fr2 Fm347 47 rfl).trans ((fr2 Fm332 47 rfl).trans (fr2 Fm316 47 rfl)))))), (show (m377.2 48) = (m299.2 48) from ((fr2 Fm377 48 rfl).trans ((fr2 Fm348 48 rfl).trans ((fr2 Fm347 48 rfl).trans ((fr2 Fm332 48 rfl).trans (fr2 Fm316 48 rfl))))))]; first | (exact hPA) | (exfalso; omega)), (fun _ => ⟨(show (m.1 8) + 1 ≤ (m377.1 8) by omega), (show PN (m377.1 13) (m.1 19) (m.1 20) (m.1 21) (m.1 22) (m.1 23) (m377.1 25) (m.1 26) (m377.2 16) (m377.2 17) by rewrite [(show (m377.1 13) = (m20.1 13) from ((fr1 Fm377 13 rfl).trans ((fr1 Fm348 13 rfl).trans ((fr1 Fm347 13 rfl).trans ((fr1 Fm332 13 rfl).trans ((fr1 Fm316 13 rfl).trans ((fr1 Fm299 13 rfl).trans (fr1 Fm45 13 rfl)))))))), (show (m377.1 25) = ((m.1 25) + 1) from ((fr1 Fm377 25 rfl).trans ((fr1 Fm348 25 rfl).trans ((fr1 Fm347 25 rfl).trans ((fr1 Fm332 25 rfl).trans ((fr1 Fm316 25 rfl).trans ((fr1 Fm299 25 rfl).trans (fr1 Fm45 25 rfl)))))))), (show (m377.2 16) = (m20.2 16) from ((fr2 Fm377 16 rfl).trans ((fr2 Fm348 16 rfl).trans ((fr2 Fm347 16 rfl).trans ((fr2 Fm332 16 rfl).trans ((fr2 Fm316 16 rfl).trans ((fr2 Fm299 16 rfl).trans (fr2 Fm45 16 rfl)))))))), (show (m377.2 17) = (m20.2 17) from ((fr2 Fm377 17 rfl).trans ((fr2 Fm348 17 rfl).trans ((fr2 Fm347 17 rfl).trans ((fr2 Fm332 17 rfl).trans ((fr2 Fm316 17 rfl).trans ((fr2 Fm299 17 rfl).trans (fr2 Fm45 17 rfl))))))))]; first | (exact pPN) | (exfalso; omega)), (show CN (m377.2 65) (m377.2 67) (m377.1 28) by rewrite [(show (m377.2 65) = (m348.2 65) from (fr2 Fm377 65 rfl)), (show (m377.2 67) = (m348.2 67) from (fr2 Fm377 67 rfl)), (show (m377.1 28) = (m348.1 28) from (fr1 Fm377 28 rfl))]; first | (exact hCN) | (exfalso; omega)), (show (m.1 28) ≤ (m377.1 28) by rewrite [(show (m377.1 28) = (m348.1 28) from (fr1 Fm377 28 rfl))]; omega), (show agr (m.2 65) (m377.2 65) (m.1 28) by rewrite [(show (m377.2 65) = (m348.2 65) from (fr2 Fm377 65 rfl))]; first | (exact hAgC) | (exfalso; omega)), (show TdP (m377.2 65) (m377.1 28) (m.1 22) (m377.1 99) (m377.2 101) (m377.2 103) (m377.2 105) (m377.2 106) (m377.2 107) (m377.2 108) by rewrite [(show (m377.2 65) = (m348.2 65) from (fr2 Fm377 65 rfl)), (show (m377.1 28) = (m348.1 28) from (fr1 Fm377 28 rfl)), (show (m377.1 99) = (m348.1 99) from (fr1 Fm377 99 rfl)), (show (m377.2 101) = (m348.2 101) from (fr2 Fm377 101 rfl)), (show (m377.2 103) = (m348.2 103) from (fr2 Fm377 103 rfl)), (show (m377.2 105) = (m348.2 105) from (fr2 Fm377 105 rfl)), (show (m377.2 106) = (m348.2 106) from (fr2 Fm377 106 rfl)), (show (m377.2 107) = (m348.2 107) from (fr2 Fm377 107 rfl)), (show (m377.2 108) = (m348.2 108) from (fr2 Fm377 108 rfl))]; first | (exact pTd) | (exfalso; omega)), (show AcP (m377.1 25) (m377.1 99) (m377.2 109) (m377.2 50) by rewrite [(show (m377.1 25) = ((m.1 25) + 1) from ((fr1 Fm377 25 rfl).trans ((fr1 Fm348 25 rfl).trans ((fr1 Fm347 25 rfl).trans ((fr1 Fm332 25 rfl).trans ((fr1 Fm316 25 rfl).trans ((fr1 Fm299 25 rfl).trans (fr1 Fm45 25 rfl)))))))), (show (m377.1 99) = (m348.1 99) from (fr1 Fm377 99 rfl)), (show (m377.2 109) = (upI (m.2 109) (m.1 25) (m.1 99)) from ((fr2 Fm377 109 rfl).trans ((fr2 Fm348 109 rfl).trans ((fr2 Fm347 109 rfl).trans ((fr2 Fm332 109 rfl).trans ((fr2 Fm316 109 rfl).trans ((fr2 Fm299 109 rfl).trans (fr2 Fm45 109 rfl)))))))), (show (m377.2 50) = (m348.2 50) from (fr2 Fm377 50 rfl))]; first | (exact hAc2) | (exfalso; omega)), (show (m377.1 99) ≤ 12 * (m377.1 25) by rewrite [(show (m377.1 99) = (m348.1 99) from (fr1 Fm377 99 rfl)), (show (m377.1 25) = ((m.1 25) + 1) from ((fr1 Fm377 25 rfl).trans ((fr1 Fm348 25 rfl).trans ((fr1 Fm347 25 rfl).trans ((fr1 Fm332 25 rfl).trans ((fr1 Fm316 25 rfl).trans ((fr1 Fm299 25 rfl).trans (fr1 Fm45 25 rfl))))))))]; omega), (show (m.1 25) ≤ (m377.1 25) by rewrite [(show (m377.1 25) = ((m.1 25) + 1) from ((fr1 Fm377 25 rfl).trans ((fr1 Fm348 25 rfl).trans ((fr1 Fm347 25 rfl).trans ((fr1 Fm332 25 rfl).trans ((fr1 Fm316 25 rfl).trans ((fr1 Fm299 25 rfl).trans (fr1 Fm45 25 rfl))))))))]; omega)⟩), rfl⟩
                              · skip
                                replace h378 : LxP (m377.1 7) (m377.1 8) (m377.1 9) (m348.1 6) (m377.1 10) := h378
                                rewrite [(show (m348.1 6) = (m.1 6) from ((fr1 Fm348 6 rfl).trans ((fr1 Fm347 6 rfl).trans ((fr1 Fm332 6 rfl).trans ((fr1 Fm316 6 rfl).trans ((fr1 Fm299 6 rfl).trans ((fr1 Fm45 6 rfl).trans ((fr1 Fm20 6 rfl).trans (fr1 Fm5 6 rfl)))))))))] at h378
                                have hLx := h378
                                clear h379
                                replace h380 : (m348.1 8) ≤ (m377.1 8) := h380
                                clear h381
                                have hf391 : 1 ≤ (m377.1 10) := by omega
                                clear q352_7 q352_9 q352_11 ic350 g369a g369b h370 h374
                                refine T_ret rfl (fun _ => rfl) ?_
                                exact ⟨(mO m377 [] []), Tm377, (fr_m (fr_s Fm377 (fr_m (fr_s Fm348 (fr_m (fr_s Fm347 (fr_m (fr_s Fm332 (fr_m (fr_s Fm316 (fr_m (fr_s Fm299 (fr_m (fr_s Fm45 (fr_m (fr_s Fm20 (fr_m (fr_s Fm5 (fr_m fr_0 rfl rfl) rfl rfl) rfl rfl) rfl rfl) rfl rfl) rfl rfl) rfl rfl) rfl rfl) rfl rfl) rfl rfl) rfl rfl) rfl rfl) rfl rfl) rfl rfl) rfl rfl) rfl rfl) rfl rfl) rfl rfl) rfl rfl), (show (m377.1 10) = 0 → (m.1 10) = 0 by omega), (show LxP (m377.1 7) (m377.1 8) (m377.1 9) (m.1 6) (m377.1 10) by first | (first | exact hLx | exact (fun _ => hLx (by omega)) | (intro h9; exfalso; omega)) | (exfalso; omega)), (show ∀ k, (m377.2 14) k + (m377.2 15) k ≤ 4000 by rewrite [(show (m377.2 14) = (m20.2 14) from ((fr2 Fm377 14 rfl).trans ((fr2 Fm348 14 rfl).trans ((fr2 Fm347 14 rfl).trans ((fr2 Fm332 14 rfl).trans ((fr2 Fm316 14 rfl).trans ((fr2 Fm299 14 rfl).trans (fr2 Fm45 14 rfl)))))))), (show (m377.2 15) = (m20.2 15) from ((fr2 Fm377 15 rfl).trans ((fr2 Fm348 15 rfl).trans ((fr2 Fm347 15 rfl).trans ((fr2 Fm332 15 rfl).trans ((fr2 Fm316 15 rfl).trans ((fr2 Fm299 15 rfl).trans (fr2 Fm45 15 rfl))))))))]; first | (exact hNM) | (exfalso; omega)), (show ∀ k, (m377.2 47) k + (m377.2 48) k ≤ 4000 by rewrite [(show (m377.2 47) = (m299.2 47) from ((fr2 Fm377 47 rfl).trans ((fr2 Fm348 47 rfl).trans ((fr2 Fm347 47 rfl).trans ((fr2 Fm332 47 rfl).trans (fr2 Fm316 47 rfl)))))), (show (m377.2 48) = (m299.2 48) from ((fr2 Fm377 48 rfl).trans ((fr2 Fm348 48 rfl).trans ((fr2 Fm347 48 rfl).trans ((fr2 Fm332 48 rfl).trans (fr2 Fm316 48 rfl))))))]; first | (exact hPA) | (exfalso; omega)), (fun (h : (m377.1 10) = 0) => absurd h (by omega)), rfl⟩
                            · skip
                              refine T_gf 171 (.ref 220) rfl rfl rfl rfl rfl rfl ?_
                              refine T_ld 172 (.int (i32 (m.1 25))) rfl (fun _ => rfl) ?_
                              refine T_iald 173 50 (m348.2 50) rfl rfl rfl (by omega) (show (m.1 25) < (16 : Int) by omega) rfl ?_
                              have e392 : 0 ≤ (m348.2 50) (m.1 25) ∧ (m348.2 50) (m.1 25) ≤ 13 := (Tm348.2.1 50) (m.1 25)
                              refine T_ld 175 (.int (i32 12)) rfl (fun _ => rfl) ?_
                              refine T_icmp 187 178 rfl rfl rfl (r32 (by omega) (by omega)) ⟨by decide, by decide⟩ (fun (h393 : (m348.2 50) (m.1 25) ≠ 12) => ?_) (fun (h393 : ¬ ((m348.2 50) (m.1 25) ≠ 12)) => ?_)
                              · skip
                                refine T_gf 191 (.int (i32 (m348.1 10))) rfl rfl rfl rfl rfl rfl ?_
                                refine T_if 198 194 rfl rfl rfl (r32 (by omega) (by omega)) (fun (h394 : (m348.1 10) ≠ 0) => by exfalso; omega) (fun (h394 : ¬ ((m348.1 10) ≠ 0)) => ?_)
                                refine T_ld 195 (.ref 189) rfl (fun _ => rfl) ?_
                                refine T_call 198 270 [.ref 189] [] rfl (fun _ => rfl) rfl (c_takeStatement w (mO m348 [] []) c N D (by omega) Tm348 (show LxP (m348.1 7) (m348.1 8) (m348.1 9) (m348.1 6) (m348.1 10) by rewrite [(show (m348.1 6) = (m.1 6) from ((fr1 Fm348 6 rfl).trans ((fr1 Fm347 6 rfl).trans ((fr1 Fm332 6 rfl).trans ((fr1 Fm316 6 rfl).trans ((fr1 Fm299 6 rfl).trans ((fr1 Fm45 6 rfl).trans ((fr1 Fm20 6 rfl).trans (fr1 Fm5 6 rfl)))))))))]; first | exact hLx | exact (fun _ => hLx (by omega)) | (intro h9; exfalso; omega)) (show ∀ k, (m348.2 14) k + (m348.2 15) k ≤ 4000 by rewrite [(show (m348.2 14) = (m20.2 14) from ((fr2 Fm348 14 rfl).trans ((fr2 Fm347 14 rfl).trans ((fr2 Fm332 14 rfl).trans ((fr2 Fm316 14 rfl).trans ((fr2 Fm299 14 rfl).trans (fr2 Fm45 14 rfl))))))), (show (m348.2 15) = (m20.2 15) from ((fr2 Fm348 15 rfl).trans ((fr2 Fm347 15 rfl).trans ((fr2 Fm332 15 rfl).trans ((fr2 Fm316 15 rfl).trans ((fr2 Fm299 15 rfl).trans (fr2 Fm45 15 rfl)))))))]; assumption) (show ∀ k, (m348.2 31) k + (m348.2 32) k ≤ 4000 by rewrite [(show (m348.2 31) = (m.2 31) from ((fr2 Fm348 31 rfl).trans ((fr2 Fm347 31 rfl).trans ((fr2 Fm332 31 rfl).trans ((fr2 Fm316 31 rfl).trans ((fr2 Fm299 31 rfl).trans ((fr2 Fm45 31 rfl).trans ((fr2 Fm20 31 rfl).trans (fr2 Fm5 31 rfl))))))))), (show (m348.2 32) = (m.2 32) from ((fr2 Fm348 32 rfl).trans ((fr2 Fm347 32 rfl).trans ((fr2 Fm332 32 rfl).trans ((fr2 Fm316 32 rfl).trans ((fr2 Fm299 32 rfl).trans ((fr2 Fm45 32 rfl).trans ((fr2 Fm20 32 rfl).trans (fr2 Fm5 32 rfl)))))))))]; assumption) (show ∀ k, (m348.2 47) k + (m348.2 48) k ≤ 4000 by rewrite [(show (m348.2 47) = (m299.2 47) from ((fr2 Fm348 47 rfl).trans ((fr2 Fm347 47 rfl).trans ((fr2 Fm332 47 rfl).trans (fr2 Fm316 47 rfl))))), (show (m348.2 48) = (m299.2 48) from ((fr2 Fm348 48 rfl).trans ((fr2 Fm347 48 rfl).trans ((fr2 Fm332 48 rfl).trans (fr2 Fm316 48 rfl)))))]; assumption) (show (m348.1 99) ≤ 239 by omega) (show (m348.1 10) = 0 by omega) ⟨(show PN (m348.1 13) (m348.1 19) (m348.1 20) (m348.1 21) (m348.1 22) (m348.1 23) (m348.1 25) (m348.1 26) (m348.2 16) (m348.2 17) by rewrite [(show (m348.1 13) = (m20.1 13) from ((fr1 Fm348 13 rfl).trans ((fr1 Fm347 13 rfl).trans ((fr1 Fm332 13 rfl).trans ((fr1 Fm316 13 rfl).trans ((fr1 Fm299 13 rfl).trans (fr1 Fm45 13 rfl))))))), (show (m348.1 19) = (m.1 19) from ((fr1 Fm348 19 rfl).trans ((fr1 Fm347 19 rfl).trans ((fr1 Fm332 19 rfl).trans ((fr1 Fm316 19 rfl).trans ((fr1 Fm299 19 rfl).trans ((fr1 Fm45 19 rfl).trans ((fr1 Fm20 19 rfl).trans (fr1 Fm5 19 rfl))))))))), (show (m348.1 20) = (m.1 20) from ((fr1 Fm348 20 rfl).trans ((fr1 Fm347 20 rfl).trans ((fr1 Fm332 20 rfl).trans ((fr1 Fm316 20 rfl).trans ((fr1 Fm299 20 rfl).trans ((fr1 Fm45 20 rfl).trans ((fr1 Fm20 20 rfl).trans (fr1 Fm5 20 rfl))))))))), (show (m348.1 21) = (m.1 21) from ((fr1 Fm348 21 rfl).trans ((fr1 Fm347 21 rfl).trans ((fr1 Fm332 21 rfl).trans ((fr1 Fm316 21 rfl).trans ((fr1 Fm299 21 rfl).trans ((fr1 Fm45 21 rfl).trans ((fr1 Fm20 21 rfl).trans (fr1 Fm5 21 rfl))))))))), (show (m348.1 22) = (m.1 22) from ((fr1 Fm348 22 rfl).trans ((fr1 Fm347 22 rfl).trans ((fr1 Fm332 22 rfl).trans ((fr1 Fm316 22 rfl).trans ((fr1 Fm299 22 rfl).trans ((fr1 Fm45 22 rfl).trans ((fr1 Fm20 22 rfl).trans (fr1 Fm5 22 rfl))))))))), (show (m348.1 23) = (m.1 23) from ((fr1 Fm348 23 rfl).trans ((fr1 Fm347 23 rfl).trans ((fr1 Fm332 23 rfl).trans ((fr1 Fm316 23 rfl).trans ((fr1 Fm299 23 rfl).trans ((fr1 Fm45 23 rfl).trans ((fr1 Fm20 23 rfl).trans (fr1 Fm5 23 rfl))))))))), (show (m348.1 25) = ((m.1 25) + 1) from ((fr1 Fm348 25 rfl).trans ((fr1 Fm347 25 rfl).trans ((fr1 Fm332 25 rfl).trans ((fr1 Fm316 25 rfl).trans ((fr1 Fm299 25 rfl).trans (fr1 Fm45 25 rfl))))))), (show (m348.1 26) = (m.1 26) from ((fr1 Fm348 26 rfl).trans ((fr1 Fm347 26 rfl).trans ((fr1 Fm332 26 rfl).trans ((fr1 Fm316 26 rfl).trans ((fr1 Fm299 26 rfl).trans ((fr1 Fm45 26 rfl).trans ((fr1 Fm20 26 rfl).trans (fr1 Fm5 26 rfl))))))))), (show (m348.2 16) = (m20.2 16) from ((fr2 Fm348 16 rfl).trans ((fr2 Fm347 16 rfl).trans ((fr2 Fm332 16 rfl).trans ((fr2 Fm316 16 rfl).trans ((fr2 Fm299 16 rfl).trans (fr2 Fm45 16 rfl))))))), (show (m348.2 17) = (m20.2 17) from ((fr2 Fm348 17 rfl).trans ((fr2 Fm347 17 rfl).trans ((fr2 Fm332 17 rfl).trans ((fr2 Fm316 17 rfl).trans ((fr2 Fm299 17 rfl).trans (fr2 Fm45 17 rfl)))))))]; assumption), (show CN (m348.2 65) (m348.2 67) (m348.1 28) by assumption), (show (m348.1 7) ≠ 0 by omega), (show TdP (m348.2 65) (m348.1 28) (m348.1 22) (m348.1 99) (m348.2 101) (m348.2 103) (m348.2 105) (m348.2 106) (m348.2 107) (m348.2 108) by rewrite [(show (m348.1 22) = (m.1 22) from ((fr1 Fm348 22 rfl).trans ((fr1 Fm347 22 rfl).trans ((fr1 Fm332 22 rfl).trans ((fr1 Fm316 22 rfl).trans ((fr1 Fm299 22 rfl).trans ((fr1 Fm45 22 rfl).trans ((fr1 Fm20 22 rfl).trans (fr1 Fm5 22 rfl)))))))))]; assumption)⟩) (fun rr395 k396 => ?_)
                                obtain ⟨m397, Tm397, Fm397, h398, h399, h400, c401, rfl⟩ := k396
                                refine ⟨_, _, rfl, ?_⟩
                                refine T_nb (st' := []) rfl ?_
                                have g402 : 0 ≤ m397.1 7 ∧ m397.1 7 ≤ 330 := Tm397.1 7
                                have g403 : 0 ≤ m397.1 8 ∧ m397.1 8 ≤ 4000 := Tm397.1 8
                                have g404 : 0 ≤ m397.1 9 ∧ m397.1 9 ≤ 4000 := Tm397.1 9
                                have g405 : 0 ≤ m397.1 10 ∧ m397.1 10 ≤ 8 := Tm397.1 10
                                have g406 : (-1) ≤ m397.1 11 ∧ m397.1 11 ≤ 4000 := Tm397.1 11
                                have g407 : 0 ≤ m397.1 28 ∧ m397.1 28 ≤ 800 := Tm397.1 28
                                have g408 : 0 ≤ m397.1 99 ∧ m397.1 99 ≤ 240 := Tm397.1 99
                                by_cases hf409 : (m397.1 10) = 0
                                · skip
                                  replace h398 : (m348.1 10) = 0 := h398 hf409
                                  replace h399 : LxP (m397.1 7) (m397.1 8) (m397.1 9) (m348.1 6) (m397.1 10) := h399
                                  rewrite [(show (m348.1 6) = (m.1 6) from ((fr1 Fm348 6 rfl).trans ((fr1 Fm347 6 rfl).trans ((fr1 Fm332 6 rfl).trans ((fr1 Fm316 6 rfl).trans ((fr1 Fm299 6 rfl).trans ((fr1 Fm45 6 rfl).trans ((fr1 Fm20 6 rfl).trans (fr1 Fm5 6 rfl)))))))))] at h399
                                  have hLx := h399
                                  replace h400 : (m397.1 99) = (m348.1 99) + 1 := h400
                                  have hTS := h400
                                  obtain ⟨c410, c411, c412, c413, c414⟩ := c401 hf409
                                  replace c410 : (m348.1 8) + 1 ≤ (m397.1 8) := c410
                                  replace c411 : (m348.1 28) ≤ (m397.1 28) := c411
                                  replace c412 : CN (m397.2 65) (m397.2 67) (m397.1 28) := c412
                                  have hCN := c412
                                  replace c413 : agr (m348.2 65) (m397.2 65) (m348.1 28) := c413
                                  have hAg := c413
                                  replace c414 : TdP (m397.2 65) (m397.1 28) (m348.1 22) (m397.1 99) (m397.2 101) (m397.2 103) (m397.2 105) (m397.2 106) (m397.2 107) (m397.2 108) := c414
                                  rewrite [(show (m348.1 22) = (m.1 22) from ((fr1 Fm348 22 rfl).trans ((fr1 Fm347 22 rfl).trans ((fr1 Fm332 22 rfl).trans ((fr1 Fm316 22 rfl).trans ((fr1 Fm299 22 rfl).trans ((fr1 Fm45 22 rfl).trans ((fr1 Fm20 22 rfl).trans (fr1 Fm5 22 rfl)))))))))] at c414
                                  have pTd := c414
                                  clear c401
                                  have u415 : (m348.1 8) + 1 ≤ (m397.1 8) := by omega
                                  have u416 : (m.1 8) + 1 ≤ (m397.1 8) := by omega
                                  have hAgC : agr (m.2 65) (m397.2 65) (m.1 28) := by first | exact agr_r _ _ | exact hAgC | exact agr_t hAgC hAg (by omega)
                                  have u417 : (m.1 28) ≤ (m397.1 28) := by omega
                                  clear q352_7 q352_9 q352_11 q352_28 q352_99 ic350 c358 c359 c360 c361 c362 g369a g369b h370 u373 h374 h400 c411 c413
                                  refine T_gf 202 (.ref 220) rfl rfl rfl rfl rfl rfl ?_
                                  refine T_ld 203 (.int (i32 (m.1 25))) rfl (fun _ => rfl) ?_
                                  refine T_dup2 204 rfl (fun _ => rfl) ?_
                                  refine T_iald 205 50 (m348.2 50) rfl rfl rfl (by omega) (show (m.1 25) < (16 : Int) by omega) (show (m397.2 50) = (m348.2 50) from (fr2 Fm397 50 rfl)) ?_
                                  have e418 : 0 ≤ (m348.2 50) (m.1 25) ∧ (m348.2 50) (m.1 25) ≤ 13 := (Tm348.2.1 50) (m.1 25)
                                  refine T_ld 206 (.int (i32 1)) rfl (fun _ => rfl) ?_
                                  refine T_iadd 207 rfl rfl ?_
                                  have G419 : ∀ j, 0 ≤ (upI (m348.2 50) (m.1 25) (((m348.2 50) (m.1 25)) + 1)) j ∧ (upI (m348.2 50) (m.1 25) (((m348.2 50) (m.1 25)) + 1)) j ≤ 13 := upI_rg (Tm348.2.1 50) ⟨by omega, by omega⟩
                                  refine T_iast (a' := [(50, upI (m348.2 50) (m.1 25) (((m348.2 50) (m.1 25)) + 1))]) 208 50 (m348.2 50) rfl rfl rfl (by omega) (show (m.1 25) < (16 : Int) by omega) (show (m397.2 50) = (m348.2 50) from (fr2 Fm397 50 rfl)) rfl ?_
                                  refine T_goto 153 rfl (fun _ => rfl) ?_
                                  exact ih355 (mO m397 [] [(50, upI (m348.2 50) (m.1 25) (((m348.2 50) (m.1 25)) + 1))]) (Ty_mO Tm397 rfl rfl trivial ⟨G419, trivial⟩) (fr_m (fr_s Fm397 (fr_m (fr_s Fm348 (fr_m fr_0 rfl rfl) rfl rfl) rfl rfl) rfl rfl) rfl rfl) (show LxP (m397.1 7) (m397.1 8) (m397.1 9) (m.1 6) (m397.1 10) by first | exact hLx | exact (fun _ => hLx (by omega)) | (intro h9; exfalso; omega)) (show 0 ≤ (upI (m348.2 50) (m.1 25) (((m348.2 50) (m.1 25)) + 1)) (m.1 25) ∧ (upI (m348.2 50) (m.1 25) (((m348.2 50) (m.1 25)) + 1)) (m.1 25) ≤ 13 by first | omega | (rw [upI_s]; omega)) (fun _ => ⟨(show (m.1 8) + 1 ≤ (m397.1 8) by omega), (show CN (m397.2 65) (m397.2 67) (m397.1 28) by exact hCN), (show (m.1 28) ≤ (m397.1 28) by omega), (show agr (m.2 65) (m397.2 65) (m.1 28) by exact hAgC), (show TdP (m397.2 65) (m397.1 28) (m.1 22) (m397.1 99) (m397.2 101) (m397.2 103) (m397.2 105) (m397.2 106) (m397.2 107) (m397.2 108) by exact pTd), (show (m397.1 99) = (m.1 99) + (upI (m348.2 50) (m.1 25) (((m348.2 50) (m.1 25)) + 1)) (m.1 25) by first | omega | (rw [upI_s]; omega)), (show (upI (m348.2 50) (m.1 25) (((m348.2 50) (m.1 25)) + 1)) (m.1 25) ≤ 12 by first | omega | (rw [upI_s]; omega)), (show agr (m.2 50) (upI (m348.2 50) (m.1 25) (((m348.2 50) (m.1 25)) + 1)) (m.1 25) by first | exact agr_u (Int.le_refl _) | exact agr_t hS1 (agr_u (Int.le_refl _)) (Int.le_refl _))⟩) (show 1000000 * (8 - (m397.1 10)) + (4000 - (m397.1 8)) < (n354 : Int) by omega)
                                · skip
                                  clear c401
                                  clear h398
                                  replace h399 : LxP (m397.1 7) (m397.1 8) (m397.1 9) (m348.1 6) (m397.1 10) := h399
                                  rewrite [(show (m348.1 6) = (m.1 6) from ((fr1 Fm348 6 rfl).trans ((fr1 Fm347 6 rfl).trans ((fr1 Fm332 6 rfl).trans ((fr1 Fm316 6 rfl).trans ((fr1 Fm299 6 rfl).trans ((fr1 Fm45 6 rfl).trans ((fr1 Fm20 6 rfl).trans (fr1 Fm5 6 rfl)))))))))] at h399
                                  have hLx := h399
                                  replace h400 : (m397.1 99) = (m348.1 99) + 1 := h400
                                  have hTS := h400
                                  have hf420 : 1 ≤ (m397.1 10) := by omega
                                  clear q352_7 q352_9 q352_11 q352_28 q352_99 ic350 c358 c359 c360 c361 c362 g369a g369b h370 u373 h374 h400
                                  refine T_gf 202 (.ref 220) rfl rfl rfl rfl rfl rfl ?_
                                  refine T_ld 203 (.int (i32 (m.1 25))) rfl (fun _ => rfl) ?_
                                  refine T_dup2 204 rfl (fun _ => rfl) ?_
                                  refine T_iald 205 50 (m348.2 50) rfl rfl rfl (by omega) (show (m.1 25) < (16 : Int) by omega) (show (m397.2 50) = (m348.2 50) from (fr2 Fm397 50 rfl)) ?_
                                  have e421 : 0 ≤ (m348.2 50) (m.1 25) ∧ (m348.2 50) (m.1 25) ≤ 13 := (Tm348.2.1 50) (m.1 25)
                                  refine T_ld 206 (.int (i32 1)) rfl (fun _ => rfl) ?_
                                  refine T_iadd 207 rfl rfl ?_
                                  have G422 : ∀ j, 0 ≤ (upI (m348.2 50) (m.1 25) (((m348.2 50) (m.1 25)) + 1)) j ∧ (upI (m348.2 50) (m.1 25) (((m348.2 50) (m.1 25)) + 1)) j ≤ 13 := upI_rg (Tm348.2.1 50) ⟨by omega, by omega⟩
                                  refine T_iast (a' := [(50, upI (m348.2 50) (m.1 25) (((m348.2 50) (m.1 25)) + 1))]) 208 50 (m348.2 50) rfl rfl rfl (by omega) (show (m.1 25) < (16 : Int) by omega) (show (m397.2 50) = (m348.2 50) from (fr2 Fm397 50 rfl)) rfl ?_
                                  refine T_goto 153 rfl (fun _ => rfl) ?_
                                  exact ih355 (mO m397 [] [(50, upI (m348.2 50) (m.1 25) (((m348.2 50) (m.1 25)) + 1))]) (Ty_mO Tm397 rfl rfl trivial ⟨G422, trivial⟩) (fr_m (fr_s Fm397 (fr_m (fr_s Fm348 (fr_m fr_0 rfl rfl) rfl rfl) rfl rfl) rfl rfl) rfl rfl) (show LxP (m397.1 7) (m397.1 8) (m397.1 9) (m.1 6) (m397.1 10) by first | exact hLx | exact (fun _ => hLx (by omega)) | (intro h9; exfalso; omega)) (show 0 ≤ (upI (m348.2 50) (m.1 25) (((m348.2 50) (m.1 25)) + 1)) (m.1 25) ∧ (upI (m348.2 50) (m.1 25) (((m348.2 50) (m.1 25)) + 1)) (m.1 25) ≤ 13 by first | omega | (rw [upI_s]; omega)) (fun (h : (m397.1 10) = 0) => absurd h (by omega)) (show 1000000 * (8 - (m397.1 10)) + (4000 - (m397.1 8)) < (n354 : Int) by omega)
                              · skip
                                refine T_ld 179 (.ref 189) rfl (fun _ => rfl) ?_
                                refine T_ld 180 (.int (i32 4)) rfl (fun _ => rfl) ?_
                                refine T_gf 184 (.int (i32 (m348.1 8))) rfl rfl rfl rfl rfl rfl ?_
                                refine T_call 187 222 [.ref 189, .int (i32 4), .int (i32 (m348.1 8))] [] rfl (fun _ => rfl) rfl (d_wrong w (mO m348 [] []) c N D (by omega) Tm348 4 (m348.1 8) ⟨by decide, by decide⟩ (r32 (by omega) (by omega)) (show 1 ≤ (4 : Int) ∧ (4 : Int) ≤ 8 by omega) (show 0 ≤ (m348.1 8) ∧ (m348.1 8) ≤ 4000 by omega)) (fun rr423 k424 => ?_)
                                obtain ⟨m425, Tm425, Fm425, h426, rfl⟩ := k424
                                refine ⟨_, _, rfl, ?_⟩
                                refine T_nb (st' := []) rfl ?_
                                have g427 : 0 ≤ m425.1 10 ∧ m425.1 10 ≤ 8 := Tm425.1 10
                                have g428 : (-1) ≤ m425.1 11 ∧ m425.1 11 ≤ 4000 := Tm425.1 11
                                replace h426 : (0 < (m348.1 10) → (m425.1 10) = (m348.1 10) ∧ (m425.1 11) = (m348.1 11)) ∧ ((m348.1 10) ≤ 0 → (m425.1 10) = (4 : Int) ∧ (m425.1 11) = (m348.1 8)) := h426
                                have hf429 : 1 ≤ (m425.1 10) := by omega
                                clear q352_11 g369a g369b h370 h374 h426
                                refine T_gf 191 (.int (i32 (m425.1 10))) rfl rfl rfl rfl rfl rfl ?_
                                refine T_if 198 194 rfl rfl rfl (r32 (by omega) (by omega)) (fun (h430 : (m425.1 10) ≠ 0) => ?_) (fun (h430 : ¬ ((m425.1 10) ≠ 0)) => by exfalso; omega)
                                refine T_gf 202 (.ref 220) rfl rfl rfl rfl rfl rfl ?_
                                refine T_ld 203 (.int (i32 (m.1 25))) rfl (fun _ => rfl) ?_
                                refine T_dup2 204 rfl (fun _ => rfl) ?_
                                refine T_iald 205 50 (m348.2 50) rfl rfl rfl (by omega) (show (m.1 25) < (16 : Int) by omega) (show (m425.2 50) = (m348.2 50) from (fr2 Fm425 50 rfl)) ?_
                                have e431 : 0 ≤ (m348.2 50) (m.1 25) ∧ (m348.2 50) (m.1 25) ≤ 13 := (Tm348.2.1 50) (m.1 25)
                                refine T_ld 206 (.int (i32 1)) rfl (fun _ => rfl) ?_
                                refine T_iadd 207 rfl rfl ?_
                                have G432 : ∀ j, 0 ≤ (upI (m348.2 50) (m.1 25) (((m348.2 50) (m.1 25)) + 1)) j ∧ (upI (m348.2 50) (m.1 25) (((m348.2 50) (m.1 25)) + 1)) j ≤ 13 := upI_rg (Tm348.2.1 50) ⟨by omega, by omega⟩
                                refine T_iast (a' := [(50, upI (m348.2 50) (m.1 25) (((m348.2 50) (m.1 25)) + 1))]) 208 50 (m348.2 50) rfl rfl rfl (by omega) (show (m.1 25) < (16 : Int) by omega) (show (m425.2 50) = (m348.2 50) from (fr2 Fm425 50 rfl)) rfl ?_
                                refine T_goto 153 rfl (fun _ => rfl) ?_
                                exact ih355 (mO m425 [] [(50, upI (m348.2 50) (m.1 25) (((m348.2 50) (m.1 25)) + 1))]) (Ty_mO Tm425 rfl rfl trivial ⟨G432, trivial⟩) (fr_m (fr_s Fm425 (fr_m (fr_s Fm348 (fr_m fr_0 rfl rfl) rfl rfl) rfl rfl) rfl rfl) rfl rfl) (show LxP (m425.1 7) (m425.1 8) (m425.1 9) (m.1 6) (m425.1 10) by rewrite [(show (m425.1 7) = (m348.1 7) from (fr1 Fm425 7 rfl)), (show (m425.1 8) = (m348.1 8) from (fr1 Fm425 8 rfl)), (show (m425.1 9) = (m348.1 9) from (fr1 Fm425 9 rfl))]; first | exact hLx | exact (fun _ => hLx (by omega)) | (intro h9; exfalso; omega)) (show 0 ≤ (upI (m348.2 50) (m.1 25) (((m348.2 50) (m.1 25)) + 1)) (m.1 25) ∧ (upI (m348.2 50) (m.1 25) (((m348.2 50) (m.1 25)) + 1)) (m.1 25) ≤ 13 by first | omega | (rw [upI_s]; omega)) (fun (h : (m425.1 10) = 0) => absurd h (by omega)) (show 1000000 * (8 - (m425.1 10)) + (4000 - (m425.1 8)) < (n354 : Int) by rewrite [(show (m425.1 8) = (m348.1 8) from (fr1 Fm425 8 rfl))]; omega)
                          · skip
                            clear c353
                            have hf433 : 1 ≤ (m348.1 10) := by omega
                            refine T_gf 157 (.int (i32 (m348.1 10))) rfl rfl rfl rfl rfl rfl ?_
                            refine T_if 211 160 rfl rfl rfl (r32 (by omega) (by omega)) (fun (h434 : (m348.1 10) ≠ 0) => ?_) (fun (h434 : ¬ ((m348.1 10) ≠ 0)) => by exfalso; omega)
                            refine T_ld 212 (.ref 189) rfl (fun _ => rfl) ?_
                            refine T_ld 213 (.int (i32 (-1))) rfl (fun _ => rfl) ?_
                            refine T_pf (l' := [(64, (-1))]) 216 (-1) rfl rfl rfl rfl rfl rfl ?_
                            refine T_ld 217 (.ref 189) rfl (fun _ => rfl) ?_
                            refine T_ld 219 (.int (i32 125)) rfl (fun _ => rfl) ?_
                            refine T_call 222 232 [.ref 189, .int (i32 125)] [] rfl (fun _ => rfl) rfl (d_need w (mO m348 [(64, (-1))] []) c N D (by omega) (Ty_mO Tm348 rfl rfl ⟨⟨(by omega : ((-1) : Int) ≤ (-1)), (by omega : ((-1) : Int) ≤ 15)⟩, trivial⟩ trivial) 125 ⟨by decide, by decide⟩ (show 1 ≤ (125 : Int) by omega) (show LxP (m348.1 7) (m348.1 8) (m348.1 9) (m348.1 6) (m348.1 10) by rewrite [(show (m348.1 6) = (m.1 6) from ((fr1 Fm348 6 rfl).trans ((fr1 Fm347 6 rfl).trans ((fr1 Fm332 6 rfl).trans ((fr1 Fm316 6 rfl).trans ((fr1 Fm299 6 rfl).trans ((fr1 Fm45 6 rfl).trans ((fr1 Fm20 6 rfl).trans (fr1 Fm5 6 rfl)))))))))]; first | exact hLx | (intro h9; exfalso; omega) | (intro h9; have h8 := hLx (by omega); omega))) (fun rr435 k436 => ?_)
                            obtain ⟨m437, Tm437, Fm437, h438, h439, h440, h441, rfl⟩ := k436
                            refine ⟨_, _, rfl, ?_⟩
                            refine T_nb (st' := []) rfl ?_
                            have g442 : 0 ≤ m437.1 7 ∧ m437.1 7 ≤ 330 := Tm437.1 7
                            have g443 : 0 ≤ m437.1 8 ∧ m437.1 8 ≤ 4000 := Tm437.1 8
                            have g444 : 0 ≤ m437.1 9 ∧ m437.1 9 ≤ 4000 := Tm437.1 9
                            have g445 : 0 ≤ m437.1 10 ∧ m437.1 10 ≤ 8 := Tm437.1 10
                            have g446 : (-1) ≤ m437.1 11 ∧ m437.1 11 ≤ 4000 := Tm437.1 11
                            replace h438 : LxP (m437.1 7) (m437.1 8) (m437.1 9) (m348.1 6) (m437.1 10) := h438
                            rewrite [(show (m348.1 6) = (m.1 6) from ((fr1 Fm348 6 rfl).trans ((fr1 Fm347 6 rfl).trans ((fr1 Fm332 6 rfl).trans ((fr1 Fm316 6 rfl).trans ((fr1 Fm299 6 rfl).trans ((fr1 Fm45 6 rfl).trans ((fr1 Fm20 6 rfl).trans (fr1 Fm5 6 rfl)))))))))] at h438
                            replace h439 : (m437.1 10) = 0 → (m348.1 10) = 0 ∧ (m348.1 7) = (125 : Int) := h439
                            replace h440 : (m348.1 8) ≤ (m437.1 8) := h440
                            replace h441 : (m437.1 10) = 0 → (m348.1 8) + (m348.1 9) ≤ (m437.1 8) := h441
                            have hf447 : 1 ≤ (m437.1 10) := by omega
                            clear h439
                            clear h441
                            have hLx := h438
                            clear g337 g338 g339 g340 g341 h333 u344 u343 q352_7 q352_9 q352_11 ic350
                            refine T_ret rfl (fun _ => rfl) ?_
                            exact ⟨(mO m437 [] []), Tm437, (fr_m (fr_s Fm437 (fr_m (fr_s Fm348 (fr_m (fr_s Fm347 (fr_m (fr_s Fm332 (fr_m (fr_s Fm316 (fr_m (fr_s Fm299 (fr_m (fr_s Fm45 (fr_m (fr_s Fm20 (fr_m (fr_s Fm5 (fr_m fr_0 rfl rfl) rfl rfl) rfl rfl) rfl rfl) rfl rfl) rfl rfl) rfl rfl) rfl rfl) rfl rfl) rfl rfl) rfl rfl) rfl rfl) rfl rfl) rfl rfl) rfl rfl) rfl rfl) rfl rfl) rfl rfl) rfl rfl), (show (m437.1 10) = 0 → (m.1 10) = 0 by omega), (show LxP (m437.1 7) (m437.1 8) (m437.1 9) (m.1 6) (m437.1 10) by first | (first | exact hLx | exact (fun _ => hLx (by omega)) | (intro h9; exfalso; omega)) | (exfalso; omega)), (show ∀ k, (m437.2 14) k + (m437.2 15) k ≤ 4000 by rewrite [(show (m437.2 14) = (m20.2 14) from ((fr2 Fm437 14 rfl).trans ((fr2 Fm348 14 rfl).trans ((fr2 Fm347 14 rfl).trans ((fr2 Fm332 14 rfl).trans ((fr2 Fm316 14 rfl).trans ((fr2 Fm299 14 rfl).trans (fr2 Fm45 14 rfl)))))))), (show (m437.2 15) = (m20.2 15) from ((fr2 Fm437 15 rfl).trans ((fr2 Fm348 15 rfl).trans ((fr2 Fm347 15 rfl).trans ((fr2 Fm332 15 rfl).trans ((fr2 Fm316 15 rfl).trans ((fr2 Fm299 15 rfl).trans (fr2 Fm45 15 rfl))))))))]; first | (exact hNM) | (exfalso; omega)), (show ∀ k, (m437.2 47) k + (m437.2 48) k ≤ 4000 by rewrite [(show (m437.2 47) = (m299.2 47) from ((fr2 Fm437 47 rfl).trans ((fr2 Fm348 47 rfl).trans ((fr2 Fm347 47 rfl).trans ((fr2 Fm332 47 rfl).trans (fr2 Fm316 47 rfl)))))), (show (m437.2 48) = (m299.2 48) from ((fr2 Fm437 48 rfl).trans ((fr2 Fm348 48 rfl).trans ((fr2 Fm347 48 rfl).trans ((fr2 Fm332 48 rfl).trans (fr2 Fm316 48 rfl))))))]; first | (exact hPA) | (exfalso; omega)), (fun (h : (m437.1 10) = 0) => absurd h (by omega)), rfl⟩
                      exact L153_349 ((1000000 * (8 - (m332.1 10)) + (4000 - (m332.1 8)) : Int) + 1).toNat (mO m347 [] []) Tm347 (fr_m fr_0 rfl rfl) (show LxP (m347.1 7) (m347.1 8) (m347.1 9) (m.1 6) (m347.1 10) by rewrite [(show (m347.1 7) = (m332.1 7) from (fr1 Fm347 7 rfl)), (show (m347.1 8) = (m332.1 8) from (fr1 Fm347 8 rfl)), (show (m347.1 9) = (m332.1 9) from (fr1 Fm347 9 rfl)), (show (m347.1 10) = (m332.1 10) from (fr1 Fm347 10 rfl))]; first | exact hLx | exact (fun _ => hLx (by omega)) | (intro h9; exfalso; omega)) (show 0 ≤ (m347.2 50) (m.1 25) ∧ (m347.2 50) (m.1 25) ≤ 13 by rewrite [(show (m347.2 50) = (upI (m.2 50) (m.1 25) 0) from ((fr2 Fm347 50 rfl).trans ((fr2 Fm332 50 rfl).trans ((fr2 Fm316 50 rfl).trans ((fr2 Fm299 50 rfl).trans (fr2 Fm45 50 rfl))))))]; first | omega | (rw [upI_s]; omega)) (fun _ => ⟨(show (m.1 8) + 1 ≤ (m347.1 8) by rewrite [(show (m347.1 8) = (m332.1 8) from (fr1 Fm347 8 rfl))]; omega), (show CN (m347.2 65) (m347.2 67) (m347.1 28) by rewrite [(show (m347.2 65) = (m.2 65) from ((fr2 Fm347 65 rfl).trans ((fr2 Fm332 65 rfl).trans ((fr2 Fm316 65 rfl).trans ((fr2 Fm299 65 rfl).trans ((fr2 Fm45 65 rfl).trans ((fr2 Fm20 65 rfl).trans (fr2 Fm5 65 rfl)))))))), (show (m347.2 67) = (m.2 67) from ((fr2 Fm347 67 rfl).trans ((fr2 Fm332 67 rfl).trans ((fr2 Fm316 67 rfl).trans ((fr2 Fm299 67 rfl).trans ((fr2 Fm45 67 rfl).trans ((fr2 Fm20 67 rfl).trans (fr2 Fm5 67 rfl)))))))), (show (m347.1 28) = (m.1 28) from ((fr1 Fm347 28 rfl).trans ((fr1 Fm332 28 rfl).trans ((fr1 Fm316 28 rfl).trans ((fr1 Fm299 28 rfl).trans ((fr1 Fm45 28 rfl).trans ((fr1 Fm20 28 rfl).trans (fr1 Fm5 28 rfl))))))))]; exact hCN), (show (m.1 28) ≤ (m347.1 28) by rewrite [(show (m347.1 28) = (m.1 28) from ((fr1 Fm347 28 rfl).trans ((fr1 Fm332 28 rfl).trans ((fr1 Fm316 28 rfl).trans ((fr1 Fm299 28 rfl).trans ((fr1 Fm45 28 rfl).trans ((fr1 Fm20 28 rfl).trans (fr1 Fm5 28 rfl))))))))]; omega), (show agr (m.2 65) (m347.2 65) (m.1 28) by rewrite [(show (m347.2 65) = (m.2 65) from ((fr2 Fm347 65 rfl).trans ((fr2 Fm332 65 rfl).trans ((fr2 Fm316 65 rfl).trans ((fr2 Fm299 65 rfl).trans ((fr2 Fm45 65 rfl).trans ((fr2 Fm20 65 rfl).trans (fr2 Fm5 65 rfl))))))))]; exact hAgC), (show TdP (m347.2 65) (m347.1 28) (m.1 22) (m347.1 99) (m347.2 101) (m347.2 103) (m347.2 105) (m347.2 106) (m347.2 107) (m347.2 108) by rewrite [(show (m347.2 65) = (m.2 65) from ((fr2 Fm347 65 rfl).trans ((fr2 Fm332 65 rfl).trans ((fr2 Fm316 65 rfl).trans ((fr2 Fm299 65 rfl).trans ((fr2 Fm45 65 rfl).trans ((fr2 Fm20 65 rfl).trans (fr2 Fm5 65 rfl)))))))), (show (m347.1 28) = (m.1 28) from ((fr1 Fm347 28 rfl).trans ((fr1 Fm332 28 rfl).trans ((fr1 Fm316 28 rfl).trans ((fr1 Fm299 28 rfl).trans ((fr1 Fm45 28 rfl).trans ((fr1 Fm20 28 rfl).trans (fr1 Fm5 28 rfl)))))))), (show (m347.1 99) = (m.1 99) from ((fr1 Fm347 99 rfl).trans ((fr1 Fm332 99 rfl).trans ((fr1 Fm316 99 rfl).trans ((fr1 Fm299 99 rfl).trans ((fr1 Fm45 99 rfl).trans ((fr1 Fm20 99 rfl).trans (fr1 Fm5 99 rfl)))))))), (show (m347.2 101) = (m.2 101) from ((fr2 Fm347 101 rfl).trans ((fr2 Fm332 101 rfl).trans ((fr2 Fm316 101 rfl).trans ((fr2 Fm299 101 rfl).trans ((fr2 Fm45 101 rfl).trans ((fr2 Fm20 101 rfl).trans (fr2 Fm5 101 rfl)))))))), (show (m347.2 103) = (m.2 103) from ((fr2 Fm347 103 rfl).trans ((fr2 Fm332 103 rfl).trans ((fr2 Fm316 103 rfl).trans ((fr2 Fm299 103 rfl).trans ((fr2 Fm45 103 rfl).trans ((fr2 Fm20 103 rfl).trans (fr2 Fm5 103 rfl)))))))), (show (m347.2 105) = (m.2 105) from ((fr2 Fm347 105 rfl).trans ((fr2 Fm332 105 rfl).trans ((fr2 Fm316 105 rfl).trans ((fr2 Fm299 105 rfl).trans ((fr2 Fm45 105 rfl).trans ((fr2 Fm20 105 rfl).trans (fr2 Fm5 105 rfl)))))))), (show (m347.2 106) = (m.2 106) from ((fr2 Fm347 106 rfl).trans ((fr2 Fm332 106 rfl).trans ((fr2 Fm316 106 rfl).trans ((fr2 Fm299 106 rfl).trans ((fr2 Fm45 106 rfl).trans ((fr2 Fm20 106 rfl).trans (fr2 Fm5 106 rfl)))))))), (show (m347.2 107) = (m.2 107) from ((fr2 Fm347 107 rfl).trans ((fr2 Fm332 107 rfl).trans ((fr2 Fm316 107 rfl).trans ((fr2 Fm299 107 rfl).trans ((fr2 Fm45 107 rfl).trans ((fr2 Fm20 107 rfl).trans (fr2 Fm5 107 rfl)))))))), (show (m347.2 108) = (m.2 108) from ((fr2 Fm347 108 rfl).trans ((fr2 Fm332 108 rfl).trans ((fr2 Fm316 108 rfl).trans ((fr2 Fm299 108 rfl).trans ((fr2 Fm45 108 rfl).trans ((fr2 Fm20 108 rfl).trans (fr2 Fm5 108 rfl))))))))]; exact pTd), (show (m347.1 99) = (m.1 99) + (m347.2 50) (m.1 25) by rewrite [(show (m347.1 99) = (m.1 99) from ((fr1 Fm347 99 rfl).trans ((fr1 Fm332 99 rfl).trans ((fr1 Fm316 99 rfl).trans ((fr1 Fm299 99 rfl).trans ((fr1 Fm45 99 rfl).trans ((fr1 Fm20 99 rfl).trans (fr1 Fm5 99 rfl)))))))), (show (m347.2 50) = (upI (m.2 50) (m.1 25) 0) from ((fr2 Fm347 50 rfl).trans ((fr2 Fm332 50 rfl).trans ((fr2 Fm316 50 rfl).trans ((fr2 Fm299 50 rfl).trans (fr2 Fm45 50 rfl))))))]; first | omega | (rw [upI_s]; omega)), (show (m347.2 50) (m.1 25) ≤ 12 by rewrite [(show (m347.2 50) = (upI (m.2 50) (m.1 25) 0) from ((fr2 Fm347 50 rfl).trans ((fr2 Fm332 50 rfl).trans ((fr2 Fm316 50 rfl).trans ((fr2 Fm299 50 rfl).trans (fr2 Fm45 50 rfl))))))]; first | omega | (rw [upI_s]; omega)), (show agr (m.2 50) (m347.2 50) (m.1 25) by rewrite [(show (m347.2 50) = (upI (m.2 50) (m.1 25) 0) from ((fr2 Fm347 50 rfl).trans ((fr2 Fm332 50 rfl).trans ((fr2 Fm316 50 rfl).trans ((fr2 Fm299 50 rfl).trans (fr2 Fm45 50 rfl))))))]; first | exact agr_u (Int.le_refl _) | exact agr_t hS1 (agr_u (Int.le_refl _)) (Int.le_refl _))⟩) (show 1000000 * (8 - (m347.1 10)) + (4000 - (m347.1 8)) < ((((1000000 * (8 - (m332.1 10)) + (4000 - (m332.1 8)) : Int) + 1).toNat : Nat) : Int) by rewrite [(show (m347.1 10) = (m332.1 10) from (fr1 Fm347 10 rfl)), (show (m347.1 8) = (m332.1 8) from (fr1 Fm347 8 rfl))]; omega)
                    · skip
                      replace h333 : LxP (m332.1 7) (m332.1 8) (m332.1 9) (m316.1 6) (m332.1 10) := h333
                      rewrite [(show (m316.1 6) = (m.1 6) from ((fr1 Fm316 6 rfl).trans ((fr1 Fm299 6 rfl).trans ((fr1 Fm45 6 rfl).trans ((fr1 Fm20 6 rfl).trans (fr1 Fm5 6 rfl))))))] at h333
                      have hLx := h333
                      clear h334
                      replace h335 : (m316.1 8) ≤ (m332.1 8) := h335
                      clear h336
                      have hf448 : 1 ≤ (m332.1 10) := by omega
                      clear g321 g322 g323 g324 g325 h317 h319 u328 u327 h335
                      refine T_ld 149 (.ref 189) rfl (fun _ => rfl) ?_
                      refine T_ld 150 (.int (i32 (m.1 25))) rfl (fun _ => rfl) ?_
                      refine T_pf (l' := [(64, (m.1 25))]) 153 (m.1 25) rfl rfl rfl rfl rfl rfl ?_
                      have g449 : (-1) ≤ (m.1 25) ∧ (m.1 25) ≤ 15 := ⟨by omega, by omega⟩
                      refine T_gf 157 (.int (i32 (m332.1 10))) rfl rfl rfl rfl rfl rfl ?_
                      refine T_if 211 160 rfl rfl rfl (r32 (by omega) (by omega)) (fun (h450 : (m332.1 10) ≠ 0) => ?_) (fun (h450 : ¬ ((m332.1 10) ≠ 0)) => by exfalso; omega)
                      refine T_ld 212 (.ref 189) rfl (fun _ => rfl) ?_
                      refine T_ld 213 (.int (i32 (-1))) rfl (fun _ => rfl) ?_
                      refine T_pf (l' := [(64, (-1))]) 216 (-1) rfl rfl rfl rfl rfl rfl ?_
                      refine T_ld 217 (.ref 189) rfl (fun _ => rfl) ?_
                      refine T_ld 219 (.int (i32 125)) rfl (fun _ => rfl) ?_
                      refine T_call 222 232 [.ref 189, .int (i32 125)] [] rfl (fun _ => rfl) rfl (d_need w (mO m332 [(64, (-1))] []) c N D (by omega) (Ty_mO Tm332 rfl rfl ⟨⟨(by omega : ((-1) : Int) ≤ (-1)), (by omega : ((-1) : Int) ≤ 15)⟩, trivial⟩ trivial) 125 ⟨by decide, by decide⟩ (show 1 ≤ (125 : Int) by omega) (show LxP (m332.1 7) (m332.1 8) (m332.1 9) (m332.1 6) (m332.1 10) by rewrite [(show (m332.1 6) = (m.1 6) from ((fr1 Fm332 6 rfl).trans ((fr1 Fm316 6 rfl).trans ((fr1 Fm299 6 rfl).trans ((fr1 Fm45 6 rfl).trans ((fr1 Fm20 6 rfl).trans (fr1 Fm5 6 rfl)))))))]; first | exact hLx | (intro h9; exfalso; omega) | (intro h9; have h8 := hLx (by omega); omega))) (fun rr451 k452 => ?_)
                      obtain ⟨m453, Tm453, Fm453, h454, h455, h456, h457, rfl⟩ := k452
                      refine ⟨_, _, rfl, ?_⟩
                      refine T_nb (st' := []) rfl ?_
                      have g458 : 0 ≤ m453.1 7 ∧ m453.1 7 ≤ 330 := Tm453.1 7
                      have g459 : 0 ≤ m453.1 8 ∧ m453.1 8 ≤ 4000 := Tm453.1 8
                      have g460 : 0 ≤ m453.1 9 ∧ m453.1 9 ≤ 4000 := Tm453.1 9
                      have g461 : 0 ≤ m453.1 10 ∧ m453.1 10 ≤ 8 := Tm453.1 10
                      have g462 : (-1) ≤ m453.1 11 ∧ m453.1 11 ≤ 4000 := Tm453.1 11
                      replace h454 : LxP (m453.1 7) (m453.1 8) (m453.1 9) (m332.1 6) (m453.1 10) := h454
                      rewrite [(show (m332.1 6) = (m.1 6) from ((fr1 Fm332 6 rfl).trans ((fr1 Fm316 6 rfl).trans ((fr1 Fm299 6 rfl).trans ((fr1 Fm45 6 rfl).trans ((fr1 Fm20 6 rfl).trans (fr1 Fm5 6 rfl)))))))] at h454
                      replace h455 : (m453.1 10) = 0 → (m332.1 10) = 0 ∧ (m332.1 7) = (125 : Int) := h455
                      replace h456 : (m332.1 8) ≤ (m453.1 8) := h456
                      replace h457 : (m453.1 10) = 0 → (m332.1 8) + (m332.1 9) ≤ (m453.1 8) := h457
                      have hf463 : 1 ≤ (m453.1 10) := by omega
                      clear h455
                      clear h457
                      have hLx := h454
                      clear g337 g338 g339 g340 g341 h333 hf448 h450 h456
                      refine T_ret rfl (fun _ => rfl) ?_
                      exact ⟨(mO m453 [] []), Tm453, (fr_m (fr_s Fm453 (fr_m (fr_s Fm332 (fr_m (fr_s Fm316 (fr_m (fr_s Fm299 (fr_m (fr_s Fm45 (fr_m (fr_s Fm20 (fr_m (fr_s Fm5 (fr_m fr_0 rfl rfl) rfl rfl) rfl rfl) rfl rfl) rfl rfl) rfl rfl) rfl rfl) rfl rfl) rfl rfl) rfl rfl) rfl rfl) rfl rfl) rfl rfl) rfl rfl) rfl rfl), (show (m453.1 10) = 0 → (m.1 10) = 0 by omega), (show LxP (m453.1 7) (m453.1 8) (m453.1 9) (m.1 6) (m453.1 10) by first | (first | exact hLx | exact (fun _ => hLx (by omega)) | (intro h9; exfalso; omega)) | (exfalso; omega)), (show ∀ k, (m453.2 14) k + (m453.2 15) k ≤ 4000 by rewrite [(show (m453.2 14) = (m20.2 14) from ((fr2 Fm453 14 rfl).trans ((fr2 Fm332 14 rfl).trans ((fr2 Fm316 14 rfl).trans ((fr2 Fm299 14 rfl).trans (fr2 Fm45 14 rfl)))))), (show (m453.2 15) = (m20.2 15) from ((fr2 Fm453 15 rfl).trans ((fr2 Fm332 15 rfl).trans ((fr2 Fm316 15 rfl).trans ((fr2 Fm299 15 rfl).trans (fr2 Fm45 15 rfl))))))]; first | (exact hNM) | (exfalso; omega)), (show ∀ k, (m453.2 47) k + (m453.2 48) k ≤ 4000 by rewrite [(show (m453.2 47) = (m299.2 47) from ((fr2 Fm453 47 rfl).trans ((fr2 Fm332 47 rfl).trans (fr2 Fm316 47 rfl)))), (show (m453.2 48) = (m299.2 48) from ((fr2 Fm453 48 rfl).trans ((fr2 Fm332 48 rfl).trans (fr2 Fm316 48 rfl))))]; first | (exact hPA) | (exfalso; omega)), (fun (h : (m453.1 10) = 0) => absurd h (by omega)), rfl⟩
                  · skip
                    replace h317 : LxP (m316.1 7) (m316.1 8) (m316.1 9) (m299.1 6) (m316.1 10) := h317
                    rewrite [(show (m299.1 6) = (m.1 6) from ((fr1 Fm299 6 rfl).trans ((fr1 Fm45 6 rfl).trans ((fr1 Fm20 6 rfl).trans (fr1 Fm5 6 rfl)))))] at h317
                    have hLx := h317
                    clear h318
                    replace h319 : (m299.1 8) ≤ (m316.1 8) := h319
                    clear h320
                    have hf464 : 1 ≤ (m316.1 10) := by omega
                    clear g50 g51 g52 g53 g54 h46 u56 h58 h59 q307_7 q307_9 q307_11 ic303
                    refine T_ld 143 (.ref 189) rfl (fun _ => rfl) ?_
                    refine T_ld 145 (.int (i32 123)) rfl (fun _ => rfl) ?_
                    refine T_call 148 232 [.ref 189, .int (i32 123)] [] rfl (fun _ => rfl) rfl (d_need w (mO m316 [] []) c N D (by omega) Tm316 123 ⟨by decide, by decide⟩ (show 1 ≤ (123 : Int) by omega) (show LxP (m316.1 7) (m316.1 8) (m316.1 9) (m316.1 6) (m316.1 10) by rewrite [(show (m316.1 6) = (m.1 6) from ((fr1 Fm316 6 rfl).trans ((fr1 Fm299 6 rfl).trans ((fr1 Fm45 6 rfl).trans ((fr1 Fm20 6 rfl).trans (fr1 Fm5 6 rfl))))))]; first | exact hLx | (intro h9; exfalso; omega) | (intro h9; have h8 := hLx (by omega); omega))) (fun rr465 k466 => ?_)
                    obtain ⟨m467, Tm467, Fm467, h468, h469, h470, h471, rfl⟩ := k466
                    refine ⟨_, _, rfl, ?_⟩
                    refine T_nb (st' := []) rfl ?_
                    have g472 : 0 ≤ m467.1 7 ∧ m467.1 7 ≤ 330 := Tm467.1 7
                    have g473 : 0 ≤ m467.1 8 ∧ m467.1 8 ≤ 4000 := Tm467.1 8
                    have g474 : 0 ≤ m467.1 9 ∧ m467.1 9 ≤ 4000 := Tm467.1 9
                    have g475 : 0 ≤ m467.1 10 ∧ m467.1 10 ≤ 8 := Tm467.1 10
                    have g476 : (-1) ≤ m467.1 11 ∧ m467.1 11 ≤ 4000 := Tm467.1 11
                    replace h468 : LxP (m467.1 7) (m467.1 8) (m467.1 9) (m316.1 6) (m467.1 10) := h468
                    rewrite [(show (m316.1 6) = (m.1 6) from ((fr1 Fm316 6 rfl).trans ((fr1 Fm299 6 rfl).trans ((fr1 Fm45 6 rfl).trans ((fr1 Fm20 6 rfl).trans (fr1 Fm5 6 rfl))))))] at h468
                    replace h469 : (m467.1 10) = 0 → (m316.1 10) = 0 ∧ (m316.1 7) = (123 : Int) := h469
                    replace h470 : (m316.1 8) ≤ (m467.1 8) := h470
                    replace h471 : (m467.1 10) = 0 → (m316.1 8) + (m316.1 9) ≤ (m467.1 8) := h471
                    have hf477 : 1 ≤ (m467.1 10) := by omega
                    clear h469
                    clear h471
                    have hLx := h468
                    clear g321 g322 g323 g324 g325 h317 h319 hf464 h470
                    refine T_ld 149 (.ref 189) rfl (fun _ => rfl) ?_
                    refine T_ld 150 (.int (i32 (m.1 25))) rfl (fun _ => rfl) ?_
                    refine T_pf (l' := [(64, (m.1 25))]) 153 (m.1 25) rfl rfl rfl rfl rfl rfl ?_
                    have g478 : (-1) ≤ (m.1 25) ∧ (m.1 25) ≤ 15 := ⟨by omega, by omega⟩
                    refine T_gf 157 (.int (i32 (m467.1 10))) rfl rfl rfl rfl rfl rfl ?_
                    refine T_if 211 160 rfl rfl rfl (r32 (by omega) (by omega)) (fun (h479 : (m467.1 10) ≠ 0) => ?_) (fun (h479 : ¬ ((m467.1 10) ≠ 0)) => by exfalso; omega)
                    refine T_ld 212 (.ref 189) rfl (fun _ => rfl) ?_
                    refine T_ld 213 (.int (i32 (-1))) rfl (fun _ => rfl) ?_
                    refine T_pf (l' := [(64, (-1))]) 216 (-1) rfl rfl rfl rfl rfl rfl ?_
                    refine T_ld 217 (.ref 189) rfl (fun _ => rfl) ?_
                    refine T_ld 219 (.int (i32 125)) rfl (fun _ => rfl) ?_
                    refine T_call 222 232 [.ref 189, .int (i32 125)] [] rfl (fun _ => rfl) rfl (d_need w (mO m467 [(64, (-1))] []) c N D (by omega) (Ty_mO Tm467 rfl rfl ⟨⟨(by omega : ((-1) : Int) ≤ (-1)), (by omega : ((-1) : Int) ≤ 15)⟩, trivial⟩ trivial) 125 ⟨by decide, by decide⟩ (show 1 ≤ (125 : Int) by omega) (show LxP (m467.1 7) (m467.1 8) (m467.1 9) (m467.1 6) (m467.1 10) by rewrite [(show (m467.1 6) = (m.1 6) from ((fr1 Fm467 6 rfl).trans ((fr1 Fm316 6 rfl).trans ((fr1 Fm299 6 rfl).trans ((fr1 Fm45 6 rfl).trans ((fr1 Fm20 6 rfl).trans (fr1 Fm5 6 rfl)))))))]; first | exact hLx | (intro h9; exfalso; omega) | (intro h9; have h8 := hLx (by omega); omega))) (fun rr480 k481 => ?_)
                    obtain ⟨m482, Tm482, Fm482, h483, h484, h485, h486, rfl⟩ := k481
                    refine ⟨_, _, rfl, ?_⟩
                    refine T_nb (st' := []) rfl ?_
                    have g487 : 0 ≤ m482.1 7 ∧ m482.1 7 ≤ 330 := Tm482.1 7
                    have g488 : 0 ≤ m482.1 8 ∧ m482.1 8 ≤ 4000 := Tm482.1 8
                    have g489 : 0 ≤ m482.1 9 ∧ m482.1 9 ≤ 4000 := Tm482.1 9
                    have g490 : 0 ≤ m482.1 10 ∧ m482.1 10 ≤ 8 := Tm482.1 10
                    have g491 : (-1) ≤ m482.1 11 ∧ m482.1 11 ≤ 4000 := Tm482.1 11
                    replace h483 : LxP (m482.1 7) (m482.1 8) (m482.1 9) (m467.1 6) (m482.1 10) := h483
                    rewrite [(show (m467.1 6) = (m.1 6) from ((fr1 Fm467 6 rfl).trans ((fr1 Fm316 6 rfl).trans ((fr1 Fm299 6 rfl).trans ((fr1 Fm45 6 rfl).trans ((fr1 Fm20 6 rfl).trans (fr1 Fm5 6 rfl)))))))] at h483
                    replace h484 : (m482.1 10) = 0 → (m467.1 10) = 0 ∧ (m467.1 7) = (125 : Int) := h484
                    replace h485 : (m467.1 8) ≤ (m482.1 8) := h485
                    replace h486 : (m482.1 10) = 0 → (m467.1 8) + (m467.1 9) ≤ (m482.1 8) := h486
                    have hf492 : 1 ≤ (m482.1 10) := by omega
                    clear h484
                    clear h486
                    have hLx := h483
                    clear g472 g473 g474 g475 g476 hf477 h468 h479 h485
                    refine T_ret rfl (fun _ => rfl) ?_
                    exact ⟨(mO m482 [] []), Tm482, (fr_m (fr_s Fm482 (fr_m (fr_s Fm467 (fr_m (fr_s Fm316 (fr_m (fr_s Fm299 (fr_m (fr_s Fm45 (fr_m (fr_s Fm20 (fr_m (fr_s Fm5 (fr_m fr_0 rfl rfl) rfl rfl) rfl rfl) rfl rfl) rfl rfl) rfl rfl) rfl rfl) rfl rfl) rfl rfl) rfl rfl) rfl rfl) rfl rfl) rfl rfl) rfl rfl) rfl rfl), (show (m482.1 10) = 0 → (m.1 10) = 0 by omega), (show LxP (m482.1 7) (m482.1 8) (m482.1 9) (m.1 6) (m482.1 10) by first | (first | exact hLx | exact (fun _ => hLx (by omega)) | (intro h9; exfalso; omega)) | (exfalso; omega)), (show ∀ k, (m482.2 14) k + (m482.2 15) k ≤ 4000 by rewrite [(show (m482.2 14) = (m20.2 14) from ((fr2 Fm482 14 rfl).trans ((fr2 Fm467 14 rfl).trans ((fr2 Fm316 14 rfl).trans ((fr2 Fm299 14 rfl).trans (fr2 Fm45 14 rfl)))))), (show (m482.2 15) = (m20.2 15) from ((fr2 Fm482 15 rfl).trans ((fr2 Fm467 15 rfl).trans ((fr2 Fm316 15 rfl).trans ((fr2 Fm299 15 rfl).trans (fr2 Fm45 15 rfl))))))]; first | (exact hNM) | (exfalso; omega)), (show ∀ k, (m482.2 47) k + (m482.2 48) k ≤ 4000 by rewrite [(show (m482.2 47) = (m299.2 47) from ((fr2 Fm482 47 rfl).trans ((fr2 Fm467 47 rfl).trans (fr2 Fm316 47 rfl)))), (show (m482.2 48) = (m299.2 48) from ((fr2 Fm482 48 rfl).trans ((fr2 Fm467 48 rfl).trans (fr2 Fm316 48 rfl))))]; first | (exact hPA) | (exfalso; omega)), (fun (h : (m482.1 10) = 0) => absurd h (by omega)), rfl⟩
                · skip
                  refine T_gf 95 (.int (i32 (m299.1 10))) rfl rfl rfl rfl rfl rfl ?_
                  refine T_if 136 98 rfl rfl rfl (r32 (by omega) (by omega)) (fun (h493 : (m299.1 10) ≠ 0) => by exfalso; omega) (fun (h493 : ¬ ((m299.1 10) ≠ 0)) => ?_)
                  refine T_ld 99 (.ref 189) rfl (fun _ => rfl) ?_
                  refine T_ld 100 (.int (i32 (m.1 25))) rfl (fun _ => rfl) ?_
                  refine T_call 103 268 [.ref 189, .int (i32 (m.1 25))] [] rfl (fun _ => rfl) rfl (c_takeParameter w (mO m299 [] []) c N D (by omega) Tm299 (m.1 25) (r32 (by omega) (by omega)) (show LxP (m299.1 7) (m299.1 8) (m299.1 9) (m299.1 6) (m299.1 10) by rewrite [(show (m299.1 6) = (m.1 6) from ((fr1 Fm299 6 rfl).trans ((fr1 Fm45 6 rfl).trans ((fr1 Fm20 6 rfl).trans (fr1 Fm5 6 rfl)))))]; first | exact hLx | exact (fun _ => hLx (by omega)) | (intro h9; exfalso; omega)) (show ∀ k, (m299.2 47) k + (m299.2 48) k ≤ 4000 by assumption) (show 0 ≤ (m.1 25) ∧ (m.1 25) ≤ 15 by omega) (fun _ => trivial)) (fun rr494 k495 => ?_)
                  obtain ⟨m496, Tm496, Fm496, h497, h498, h499, c500, rfl⟩ := k495
                  refine ⟨_, _, rfl, ?_⟩
                  refine T_nb (st' := []) rfl ?_
                  have g501 : 0 ≤ m496.1 7 ∧ m496.1 7 ≤ 330 := Tm496.1 7
                  have g502 : 0 ≤ m496.1 8 ∧ m496.1 8 ≤ 4000 := Tm496.1 8
                  have g503 : 0 ≤ m496.1 9 ∧ m496.1 9 ≤ 4000 := Tm496.1 9
                  have g504 : 0 ≤ m496.1 10 ∧ m496.1 10 ≤ 8 := Tm496.1 10
                  have g505 : (-1) ≤ m496.1 11 ∧ m496.1 11 ≤ 4000 := Tm496.1 11
                  by_cases hf506 : (m496.1 10) = 0
                  · skip
                    replace h497 : (m299.1 10) = 0 := h497 hf506
                    replace h498 : LxP (m496.1 7) (m496.1 8) (m496.1 9) (m299.1 6) (m496.1 10) := h498
                    rewrite [(show (m299.1 6) = (m.1 6) from ((fr1 Fm299 6 rfl).trans ((fr1 Fm45 6 rfl).trans ((fr1 Fm20 6 rfl).trans (fr1 Fm5 6 rfl)))))] at h498
                    have hLx := h498
                    replace h499 : ∀ k, (m496.2 47) k + (m496.2 48) k ≤ 4000 := h499
                    have hPA := h499
                    have c507 := c500 hf506
                    replace c507 : (m299.1 8) + 1 ≤ (m496.1 8) := c507
                    clear c500
                    have u508 : (m299.1 8) + 1 ≤ (m496.1 8) := by omega
                    have u509 : (m.1 8) + 1 ≤ (m496.1 8) := by omega
                    have hAgC : agr (m.2 65) (m.2 65) (m.1 28) := by first | exact agr_r _ _ | exact hAgC | exact agr_t hAgC hAg (by omega)
                    have u510 : (m.1 28) ≤ (m.1 28) := by omega
                    clear g50 g51 g52 g53 g54 h46 u56 h58 h59 q307_7 q307_9 q307_11 ic303 ic304
                    refine T_gf 107 (.int (i32 (m496.1 10))) rfl rfl rfl rfl rfl rfl ?_
                    refine T_if 123 110 rfl rfl rfl (r32 (by omega) (by omega)) (fun (h511 : (m496.1 10) ≠ 0) => by exfalso; omega) (fun (h511 : ¬ ((m496.1 10) ≠ 0)) => ?_)
                    refine T_gf 114 (.int (i32 (m496.1 7))) rfl rfl rfl rfl rfl rfl ?_
                    refine T_ld 116 (.int (i32 44)) rfl (fun _ => rfl) ?_
                    refine T_icmp 123 119 rfl rfl rfl (r32 (by omega) (by omega)) ⟨by decide, by decide⟩ (fun (h512 : (m496.1 7) ≠ 44) => ?_) (fun (h512 : ¬ ((m496.1 7) ≠ 44)) => ?_)
                    · skip
                      refine T_ld 124 (.int (i32 0)) rfl (fun _ => rfl) ?_
                      refine T_sto 125 [(2, .int (i32 0)), (0, .ref 189), (1, .int (i32 (m.1 25)))] rfl (fun _ => rfl) ?_
                      refine T_ld 126 (.int (i32 0)) rfl (fun _ => rfl) ?_
                      refine T_if 87 129 rfl rfl rfl ⟨by decide, by decide⟩ (fun _ => ?_) (fun h513 => absurd (show (0 : Int) = 0 by decide) h513)
                      refine Tm_lv (a := [(0, .ref 189), (1, .int (i32 (m.1 25))), (2, .int (i32 0))]) rfl rfl ⟨rfl, rfl, rfl, trivial⟩ ?_
                      exact ih310 0 (mO m496 [] []) ⟨by decide, by decide⟩ Tm496 (fr_m (fr_s Fm496 (fr_m (fr_s Fm299 (fr_m fr_0 rfl rfl) rfl rfl) rfl rfl) rfl rfl) rfl rfl) (show 0 ≤ (0 : Int) by omega) (show (0 : Int) ≤ 1 by omega) (show LxP (m496.1 7) (m496.1 8) (m496.1 9) (m.1 6) (m496.1 10) by first | exact hLx | exact (fun _ => hLx (by omega)) | (intro h9; exfalso; omega)) (show ∀ k, (m496.2 47) k + (m496.2 48) k ≤ 4000 by exact hPA) (show (0 : Int) = 0 ∨ (0 : Int) = 1 by omega) (fun _ => (show (m.1 8) + 1 ≤ (m496.1 8) by omega)) (show 1000000 * (8 - (m496.1 10)) + 2 * (4000 - (m496.1 8)) + (0 : Int) < (n309 : Int) by omega)
                    · skip
                      refine T_ld 120 (.int (i32 1)) rfl (fun _ => rfl) ?_
                      refine T_goto 124 rfl (fun _ => rfl) ?_
                      refine T_sto 125 [(2, .int (i32 1)), (0, .ref 189), (1, .int (i32 (m.1 25)))] rfl (fun _ => rfl) ?_
                      refine T_ld 126 (.int (i32 1)) rfl (fun _ => rfl) ?_
                      refine T_if 87 129 rfl rfl rfl ⟨by decide, by decide⟩ (fun h514 => absurd (show (1 : Int) = 0 from h514) (by decide)) (fun _ => ?_)
                      refine T_ld 130 (.ref 189) rfl (fun _ => rfl) ?_
                      have h7 := hLx (by omega)
                      refine T_call 133 212 [.ref 189] [] rfl (fun _ => rfl) rfl (d_next w (mO m496 [] []) c N D (by omega) Tm496 (show (m496.1 10) = 0 → (m496.1 8) + (m496.1 9) ≤ (m496.1 6) by rewrite [(show (m496.1 6) = (m.1 6) from ((fr1 Fm496 6 rfl).trans ((fr1 Fm299 6 rfl).trans ((fr1 Fm45 6 rfl).trans ((fr1 Fm20 6 rfl).trans (fr1 Fm5 6 rfl))))))]; first | omega | (intro h9; have h8 := hLx h9; omega))) (fun rr515 k516 => ?_)
                      obtain ⟨m517, Tm517, Fm517, h518, h519, h520, h521, rfl⟩ := k516
                      refine ⟨_, _, rfl, ?_⟩
                      refine T_nb (st' := []) rfl ?_
                      have g522 : 0 ≤ m517.1 7 ∧ m517.1 7 ≤ 330 := Tm517.1 7
                      have g523 : 0 ≤ m517.1 8 ∧ m517.1 8 ≤ 4000 := Tm517.1 8
                      have g524 : 0 ≤ m517.1 9 ∧ m517.1 9 ≤ 4000 := Tm517.1 9
                      have g525 : 0 ≤ m517.1 10 ∧ m517.1 10 ≤ 8 := Tm517.1 10
                      have g526 : (-1) ≤ m517.1 11 ∧ m517.1 11 ≤ 4000 := Tm517.1 11
                      by_cases hf527 : (m517.1 10) = 0
                      · skip
                        replace h518 : LxP (m517.1 7) (m517.1 8) (m517.1 9) (m496.1 6) (m517.1 10) := h518
                        rewrite [(show (m496.1 6) = (m.1 6) from ((fr1 Fm496 6 rfl).trans ((fr1 Fm299 6 rfl).trans ((fr1 Fm45 6 rfl).trans ((fr1 Fm20 6 rfl).trans (fr1 Fm5 6 rfl))))))] at h518
                        have hLx := h518
                        replace h519 : (m496.1 10) = 0 := h519 hf527
                        replace h520 : (m496.1 8) ≤ (m517.1 8) := h520
                        replace h521 : (m496.1 8) + (m496.1 9) ≤ (m517.1 8) := h521 hf527
                        have u528 : (m299.1 8) + 1 ≤ (m517.1 8) := by omega
                        have u529 : (m.1 8) + 1 ≤ (m517.1 8) := by omega
                        have hAgC : agr (m.2 65) (m.2 65) (m.1 28) := by first | exact agr_r _ _ | exact hAgC | exact agr_t hAgC hAg (by omega)
                        have u530 : (m.1 28) ≤ (m.1 28) := by omega
                        clear g501 g502 g503 g504 g505 h498 c507 u509 u508 h511 h512 h519 h520 h521
                        refine T_goto 87 rfl (fun _ => rfl) ?_
                        refine Tm_lv (a := [(0, .ref 189), (1, .int (i32 (m.1 25))), (2, .int (i32 1))]) rfl rfl ⟨rfl, rfl, rfl, trivial⟩ ?_
                        exact ih310 1 (mO m517 [] []) ⟨by decide, by decide⟩ Tm517 (fr_m (fr_s Fm517 (fr_m (fr_s Fm496 (fr_m (fr_s Fm299 (fr_m fr_0 rfl rfl) rfl rfl) rfl rfl) rfl rfl) rfl rfl) rfl rfl) rfl rfl) (show 0 ≤ (1 : Int) by omega) (show (1 : Int) ≤ 1 by omega) (show LxP (m517.1 7) (m517.1 8) (m517.1 9) (m.1 6) (m517.1 10) by first | exact hLx | exact (fun _ => hLx (by omega)) | (intro h9; exfalso; omega)) (show ∀ k, (m517.2 47) k + (m517.2 48) k ≤ 4000 by rewrite [(show (m517.2 47) = (m496.2 47) from (fr2 Fm517 47 rfl)), (show (m517.2 48) = (m496.2 48) from (fr2 Fm517 48 rfl))]; exact hPA) (show (1 : Int) = 0 ∨ (1 : Int) = 1 by omega) (fun _ => (show (m.1 8) + 1 ≤ (m517.1 8) by omega)) (show 1000000 * (8 - (m517.1 10)) + 2 * (4000 - (m517.1 8)) + (1 : Int) < (n309 : Int) by omega)
                      · skip
                        replace h518 : LxP (m517.1 7) (m517.1 8) (m517.1 9) (m496.1 6) (m517.1 10) := h518
                        rewrite [(show (m496.1 6) = (m.1 6) from ((fr1 Fm496 6 rfl).trans ((fr1 Fm299 6 rfl).trans ((fr1 Fm45 6 rfl).trans ((fr1 Fm20 6 rfl).trans (fr1 Fm5 6 rfl))))))] at h518
                        have hLx := h518
                        clear h519
                        replace h520 : (m496.1 8) ≤ (m517.1 8) := h520
                        clear h521
                        have hf531 : 1 ≤ (m517.1 10) := by omega
                        clear g501 g502 g503 g504 g505 h498 c507 u509 u508 h511 h512 h520
                        refine T_goto 87 rfl (fun _ => rfl) ?_
                        refine Tm_lv (a := [(0, .ref 189), (1, .int (i32 (m.1 25))), (2, .int (i32 1))]) rfl rfl ⟨rfl, rfl, rfl, trivial⟩ ?_
                        exact ih310 1 (mO m517 [] []) ⟨by decide, by decide⟩ Tm517 (fr_m (fr_s Fm517 (fr_m (fr_s Fm496 (fr_m (fr_s Fm299 (fr_m fr_0 rfl rfl) rfl rfl) rfl rfl) rfl rfl) rfl rfl) rfl rfl) rfl rfl) (show 0 ≤ (1 : Int) by omega) (show (1 : Int) ≤ 1 by omega) (show LxP (m517.1 7) (m517.1 8) (m517.1 9) (m.1 6) (m517.1 10) by first | exact hLx | exact (fun _ => hLx (by omega)) | (intro h9; exfalso; omega)) (show ∀ k, (m517.2 47) k + (m517.2 48) k ≤ 4000 by rewrite [(show (m517.2 47) = (m496.2 47) from (fr2 Fm517 47 rfl)), (show (m517.2 48) = (m496.2 48) from (fr2 Fm517 48 rfl))]; exact hPA) (show (1 : Int) = 0 ∨ (1 : Int) = 1 by omega) (fun (h : (m517.1 10) = 0) => absurd h (by omega)) (show 1000000 * (8 - (m517.1 10)) + 2 * (4000 - (m517.1 8)) + (1 : Int) < (n309 : Int) by omega)
                  · skip
                    clear c500
                    clear h497
                    replace h498 : LxP (m496.1 7) (m496.1 8) (m496.1 9) (m299.1 6) (m496.1 10) := h498
                    rewrite [(show (m299.1 6) = (m.1 6) from ((fr1 Fm299 6 rfl).trans ((fr1 Fm45 6 rfl).trans ((fr1 Fm20 6 rfl).trans (fr1 Fm5 6 rfl)))))] at h498
                    have hLx := h498
                    replace h499 : ∀ k, (m496.2 47) k + (m496.2 48) k ≤ 4000 := h499
                    have hPA := h499
                    have hf532 : 1 ≤ (m496.1 10) := by omega
                    clear g50 g51 g52 g53 g54 h46 u56 h58 h59 q307_7 q307_9 q307_11 ic303 ic304
                    refine T_gf 107 (.int (i32 (m496.1 10))) rfl rfl rfl rfl rfl rfl ?_
                    refine T_if 123 110 rfl rfl rfl (r32 (by omega) (by omega)) (fun (h533 : (m496.1 10) ≠ 0) => ?_) (fun (h533 : ¬ ((m496.1 10) ≠ 0)) => by exfalso; omega)
                    refine T_ld 124 (.int (i32 0)) rfl (fun _ => rfl) ?_
                    refine T_sto 125 [(2, .int (i32 0)), (0, .ref 189), (1, .int (i32 (m.1 25)))] rfl (fun _ => rfl) ?_
                    refine T_ld 126 (.int (i32 0)) rfl (fun _ => rfl) ?_
                    refine T_if 87 129 rfl rfl rfl ⟨by decide, by decide⟩ (fun _ => ?_) (fun h534 => absurd (show (0 : Int) = 0 by decide) h534)
                    refine Tm_lv (a := [(0, .ref 189), (1, .int (i32 (m.1 25))), (2, .int (i32 0))]) rfl rfl ⟨rfl, rfl, rfl, trivial⟩ ?_
                    exact ih310 0 (mO m496 [] []) ⟨by decide, by decide⟩ Tm496 (fr_m (fr_s Fm496 (fr_m (fr_s Fm299 (fr_m fr_0 rfl rfl) rfl rfl) rfl rfl) rfl rfl) rfl rfl) (show 0 ≤ (0 : Int) by omega) (show (0 : Int) ≤ 1 by omega) (show LxP (m496.1 7) (m496.1 8) (m496.1 9) (m.1 6) (m496.1 10) by first | exact hLx | exact (fun _ => hLx (by omega)) | (intro h9; exfalso; omega)) (show ∀ k, (m496.2 47) k + (m496.2 48) k ≤ 4000 by exact hPA) (show (0 : Int) = 0 ∨ (0 : Int) = 1 by omega) (fun (h : (m496.1 10) = 0) => absurd h (by omega)) (show 1000000 * (8 - (m496.1 10)) + 2 * (4000 - (m496.1 8)) + (0 : Int) < (n309 : Int) by omega)
              · skip
                clear c308
                have hf535 : 1 ≤ (m299.1 10) := by omega
                refine T_ld 88 (.int (i32 v298)) rfl (fun _ => rfl) ?_
                refine T_if 136 91 rfl rfl rfl (r32 (by omega) (by omega)) (fun (h536 : v298 = 0) => ?_) (fun (h536 : ¬ (v298 = 0)) => ?_)
                · skip
                  refine T_ld 137 (.ref 189) rfl (fun _ => rfl) ?_
                  refine T_ld 139 (.int (i32 41)) rfl (fun _ => rfl) ?_
                  refine T_call 142 232 [.ref 189, .int (i32 41)] [] rfl (fun _ => rfl) rfl (d_need w (mO m299 [] []) c N D (by omega) Tm299 41 ⟨by decide, by decide⟩ (show 1 ≤ (41 : Int) by omega) (show LxP (m299.1 7) (m299.1 8) (m299.1 9) (m299.1 6) (m299.1 10) by rewrite [(show (m299.1 6) = (m.1 6) from ((fr1 Fm299 6 rfl).trans ((fr1 Fm45 6 rfl).trans ((fr1 Fm20 6 rfl).trans (fr1 Fm5 6 rfl)))))]; first | exact hLx | (intro h9; exfalso; omega) | (intro h9; have h8 := hLx (by omega); omega))) (fun rr537 k538 => ?_)
                  obtain ⟨m539, Tm539, Fm539, h540, h541, h542, h543, rfl⟩ := k538
                  refine ⟨_, _, rfl, ?_⟩
                  refine T_nb (st' := []) rfl ?_
                  have g544 : 0 ≤ m539.1 7 ∧ m539.1 7 ≤ 330 := Tm539.1 7
                  have g545 : 0 ≤ m539.1 8 ∧ m539.1 8 ≤ 4000 := Tm539.1 8
                  have g546 : 0 ≤ m539.1 9 ∧ m539.1 9 ≤ 4000 := Tm539.1 9
                  have g547 : 0 ≤ m539.1 10 ∧ m539.1 10 ≤ 8 := Tm539.1 10
                  have g548 : (-1) ≤ m539.1 11 ∧ m539.1 11 ≤ 4000 := Tm539.1 11
                  replace h540 : LxP (m539.1 7) (m539.1 8) (m539.1 9) (m299.1 6) (m539.1 10) := h540
                  rewrite [(show (m299.1 6) = (m.1 6) from ((fr1 Fm299 6 rfl).trans ((fr1 Fm45 6 rfl).trans ((fr1 Fm20 6 rfl).trans (fr1 Fm5 6 rfl)))))] at h540
                  replace h541 : (m539.1 10) = 0 → (m299.1 10) = 0 ∧ (m299.1 7) = (41 : Int) := h541
                  replace h542 : (m299.1 8) ≤ (m539.1 8) := h542
                  replace h543 : (m539.1 10) = 0 → (m299.1 8) + (m299.1 9) ≤ (m539.1 8) := h543
                  have hf549 : 1 ≤ (m539.1 10) := by omega
                  clear h541
                  clear h543
                  have hLx := h540
                  clear g50 g51 g52 g53 g54 h46 u56 h58 h59 q307_7 q307_9 q307_11 ic303
                  refine T_ld 143 (.ref 189) rfl (fun _ => rfl) ?_
                  refine T_ld 145 (.int (i32 123)) rfl (fun _ => rfl) ?_
                  refine T_call 148 232 [.ref 189, .int (i32 123)] [] rfl (fun _ => rfl) rfl (d_need w (mO m539 [] []) c N D (by omega) Tm539 123 ⟨by decide, by decide⟩ (show 1 ≤ (123 : Int) by omega) (show LxP (m539.1 7) (m539.1 8) (m539.1 9) (m539.1 6) (m539.1 10) by rewrite [(show (m539.1 6) = (m.1 6) from ((fr1 Fm539 6 rfl).trans ((fr1 Fm299 6 rfl).trans ((fr1 Fm45 6 rfl).trans ((fr1 Fm20 6 rfl).trans (fr1 Fm5 6 rfl))))))]; first | exact hLx | (intro h9; exfalso; omega) | (intro h9; have h8 := hLx (by omega); omega))) (fun rr550 k551 => ?_)
                  obtain ⟨m552, Tm552, Fm552, h553, h554, h555, h556, rfl⟩ := k551
                  refine ⟨_, _, rfl, ?_⟩
                  refine T_nb (st' := []) rfl ?_
                  have g557 : 0 ≤ m552.1 7 ∧ m552.1 7 ≤ 330 := Tm552.1 7
                  have g558 : 0 ≤ m552.1 8 ∧ m552.1 8 ≤ 4000 := Tm552.1 8
                  have g559 : 0 ≤ m552.1 9 ∧ m552.1 9 ≤ 4000 := Tm552.1 9
                  have g560 : 0 ≤ m552.1 10 ∧ m552.1 10 ≤ 8 := Tm552.1 10
                  have g561 : (-1) ≤ m552.1 11 ∧ m552.1 11 ≤ 4000 := Tm552.1 11
                  replace h553 : LxP (m552.1 7) (m552.1 8) (m552.1 9) (m539.1 6) (m552.1 10) := h553
                  rewrite [(show (m539.1 6) = (m.1 6) from ((fr1 Fm539 6 rfl).trans ((fr1 Fm299 6 rfl).trans ((fr1 Fm45 6 rfl).trans ((fr1 Fm20 6 rfl).trans (fr1 Fm5 6 rfl))))))] at h553
                  replace h554 : (m552.1 10) = 0 → (m539.1 10) = 0 ∧ (m539.1 7) = (123 : Int) := h554
                  replace h555 : (m539.1 8) ≤ (m552.1 8) := h555
                  replace h556 : (m552.1 10) = 0 → (m539.1 8) + (m539.1 9) ≤ (m552.1 8) := h556
                  have hf562 : 1 ≤ (m552.1 10) := by omega
                  clear h554
                  clear h556
                  have hLx := h553
                  clear g544 g545 g546 g547 g548 hf549 h540 h542 h555
                  refine T_ld 149 (.ref 189) rfl (fun _ => rfl) ?_
                  refine T_ld 150 (.int (i32 (m.1 25))) rfl (fun _ => rfl) ?_
                  refine T_pf (l' := [(64, (m.1 25))]) 153 (m.1 25) rfl rfl rfl rfl rfl rfl ?_
                  have g563 : (-1) ≤ (m.1 25) ∧ (m.1 25) ≤ 15 := ⟨by omega, by omega⟩
                  refine T_gf 157 (.int (i32 (m552.1 10))) rfl rfl rfl rfl rfl rfl ?_
                  refine T_if 211 160 rfl rfl rfl (r32 (by omega) (by omega)) (fun (h564 : (m552.1 10) ≠ 0) => ?_) (fun (h564 : ¬ ((m552.1 10) ≠ 0)) => by exfalso; omega)
                  refine T_ld 212 (.ref 189) rfl (fun _ => rfl) ?_
                  refine T_ld 213 (.int (i32 (-1))) rfl (fun _ => rfl) ?_
                  refine T_pf (l' := [(64, (-1))]) 216 (-1) rfl rfl rfl rfl rfl rfl ?_
                  refine T_ld 217 (.ref 189) rfl (fun _ => rfl) ?_
                  refine T_ld 219 (.int (i32 125)) rfl (fun _ => rfl) ?_
                  refine T_call 222 232 [.ref 189, .int (i32 125)] [] rfl (fun _ => rfl) rfl (d_need w (mO m552 [(64, (-1))] []) c N D (by omega) (Ty_mO Tm552 rfl rfl ⟨⟨(by omega : ((-1) : Int) ≤ (-1)), (by omega : ((-1) : Int) ≤ 15)⟩, trivial⟩ trivial) 125 ⟨by decide, by decide⟩ (show 1 ≤ (125 : Int) by omega) (show LxP (m552.1 7) (m552.1 8) (m552.1 9) (m552.1 6) (m552.1 10) by rewrite [(show (m552.1 6) = (m.1 6) from ((fr1 Fm552 6 rfl).trans ((fr1 Fm539 6 rfl).trans ((fr1 Fm299 6 rfl).trans ((fr1 Fm45 6 rfl).trans ((fr1 Fm20 6 rfl).trans (fr1 Fm5 6 rfl)))))))]; first | exact hLx | (intro h9; exfalso; omega) | (intro h9; have h8 := hLx (by omega); omega))) (fun rr565 k566 => ?_)
                  obtain ⟨m567, Tm567, Fm567, h568, h569, h570, h571, rfl⟩ := k566
                  refine ⟨_, _, rfl, ?_⟩
                  refine T_nb (st' := []) rfl ?_
                  have g572 : 0 ≤ m567.1 7 ∧ m567.1 7 ≤ 330 := Tm567.1 7
                  have g573 : 0 ≤ m567.1 8 ∧ m567.1 8 ≤ 4000 := Tm567.1 8
                  have g574 : 0 ≤ m567.1 9 ∧ m567.1 9 ≤ 4000 := Tm567.1 9
                  have g575 : 0 ≤ m567.1 10 ∧ m567.1 10 ≤ 8 := Tm567.1 10
                  have g576 : (-1) ≤ m567.1 11 ∧ m567.1 11 ≤ 4000 := Tm567.1 11
                  replace h568 : LxP (m567.1 7) (m567.1 8) (m567.1 9) (m552.1 6) (m567.1 10) := h568
                  rewrite [(show (m552.1 6) = (m.1 6) from ((fr1 Fm552 6 rfl).trans ((fr1 Fm539 6 rfl).trans ((fr1 Fm299 6 rfl).trans ((fr1 Fm45 6 rfl).trans ((fr1 Fm20 6 rfl).trans (fr1 Fm5 6 rfl)))))))] at h568
                  replace h569 : (m567.1 10) = 0 → (m552.1 10) = 0 ∧ (m552.1 7) = (125 : Int) := h569
                  replace h570 : (m552.1 8) ≤ (m567.1 8) := h570
                  replace h571 : (m567.1 10) = 0 → (m552.1 8) + (m552.1 9) ≤ (m567.1 8) := h571
                  have hf577 : 1 ≤ (m567.1 10) := by omega
                  clear h569
                  clear h571
                  have hLx := h568
                  clear g557 g558 g559 g560 g561 hf562 h553 h564 h570
                  refine T_ret rfl (fun _ => rfl) ?_
                  exact ⟨(mO m567 [] []), Tm567, (fr_m (fr_s Fm567 (fr_m (fr_s Fm552 (fr_m (fr_s Fm539 (fr_m (fr_s Fm299 (fr_m (fr_s Fm45 (fr_m (fr_s Fm20 (fr_m (fr_s Fm5 (fr_m fr_0 rfl rfl) rfl rfl) rfl rfl) rfl rfl) rfl rfl) rfl rfl) rfl rfl) rfl rfl) rfl rfl) rfl rfl) rfl rfl) rfl rfl) rfl rfl) rfl rfl) rfl rfl), (show (m567.1 10) = 0 → (m.1 10) = 0 by omega), (show LxP (m567.1 7) (m567.1 8) (m567.1 9) (m.1 6) (m567.1 10) by first | (first | exact hLx | exact (fun _ => hLx (by omega)) | (intro h9; exfalso; omega)) | (exfalso; omega)), (show ∀ k, (m567.2 14) k + (m567.2 15) k ≤ 4000 by rewrite [(show (m567.2 14) = (m20.2 14) from ((fr2 Fm567 14 rfl).trans ((fr2 Fm552 14 rfl).trans ((fr2 Fm539 14 rfl).trans ((fr2 Fm299 14 rfl).trans (fr2 Fm45 14 rfl)))))), (show (m567.2 15) = (m20.2 15) from ((fr2 Fm567 15 rfl).trans ((fr2 Fm552 15 rfl).trans ((fr2 Fm539 15 rfl).trans ((fr2 Fm299 15 rfl).trans (fr2 Fm45 15 rfl))))))]; first | (exact hNM) | (exfalso; omega)), (show ∀ k, (m567.2 47) k + (m567.2 48) k ≤ 4000 by rewrite [(show (m567.2 47) = (m299.2 47) from ((fr2 Fm567 47 rfl).trans ((fr2 Fm552 47 rfl).trans (fr2 Fm539 47 rfl)))), (show (m567.2 48) = (m299.2 48) from ((fr2 Fm567 48 rfl).trans ((fr2 Fm552 48 rfl).trans (fr2 Fm539 48 rfl))))]; first | (exact hPA) | (exfalso; omega)), (fun (h : (m567.1 10) = 0) => absurd h (by omega)), rfl⟩
                · skip
                  refine T_gf 95 (.int (i32 (m299.1 10))) rfl rfl rfl rfl rfl rfl ?_
                  refine T_if 136 98 rfl rfl rfl (r32 (by omega) (by omega)) (fun (h578 : (m299.1 10) ≠ 0) => ?_) (fun (h578 : ¬ ((m299.1 10) ≠ 0)) => by exfalso; omega)
                  refine T_ld 137 (.ref 189) rfl (fun _ => rfl) ?_
                  refine T_ld 139 (.int (i32 41)) rfl (fun _ => rfl) ?_
                  refine T_call 142 232 [.ref 189, .int (i32 41)] [] rfl (fun _ => rfl) rfl (d_need w (mO m299 [] []) c N D (by omega) Tm299 41 ⟨by decide, by decide⟩ (show 1 ≤ (41 : Int) by omega) (show LxP (m299.1 7) (m299.1 8) (m299.1 9) (m299.1 6) (m299.1 10) by rewrite [(show (m299.1 6) = (m.1 6) from ((fr1 Fm299 6 rfl).trans ((fr1 Fm45 6 rfl).trans ((fr1 Fm20 6 rfl).trans (fr1 Fm5 6 rfl)))))]; first | exact hLx | (intro h9; exfalso; omega) | (intro h9; have h8 := hLx (by omega); omega))) (fun rr579 k580 => ?_)
                  obtain ⟨m581, Tm581, Fm581, h582, h583, h584, h585, rfl⟩ := k580
                  refine ⟨_, _, rfl, ?_⟩
                  refine T_nb (st' := []) rfl ?_
                  have g586 : 0 ≤ m581.1 7 ∧ m581.1 7 ≤ 330 := Tm581.1 7
                  have g587 : 0 ≤ m581.1 8 ∧ m581.1 8 ≤ 4000 := Tm581.1 8
                  have g588 : 0 ≤ m581.1 9 ∧ m581.1 9 ≤ 4000 := Tm581.1 9
                  have g589 : 0 ≤ m581.1 10 ∧ m581.1 10 ≤ 8 := Tm581.1 10
                  have g590 : (-1) ≤ m581.1 11 ∧ m581.1 11 ≤ 4000 := Tm581.1 11
                  replace h582 : LxP (m581.1 7) (m581.1 8) (m581.1 9) (m299.1 6) (m581.1 10) := h582
                  rewrite [(show (m299.1 6) = (m.1 6) from ((fr1 Fm299 6 rfl).trans ((fr1 Fm45 6 rfl).trans ((fr1 Fm20 6 rfl).trans (fr1 Fm5 6 rfl)))))] at h582
                  replace h583 : (m581.1 10) = 0 → (m299.1 10) = 0 ∧ (m299.1 7) = (41 : Int) := h583
                  replace h584 : (m299.1 8) ≤ (m581.1 8) := h584
                  replace h585 : (m581.1 10) = 0 → (m299.1 8) + (m299.1 9) ≤ (m581.1 8) := h585
                  have hf591 : 1 ≤ (m581.1 10) := by omega
                  clear h583
                  clear h585
                  have hLx := h582
                  clear g50 g51 g52 g53 g54 h46 u56 h58 h59 q307_7 q307_9 q307_11 ic303
                  refine T_ld 143 (.ref 189) rfl (fun _ => rfl) ?_
                  refine T_ld 145 (.int (i32 123)) rfl (fun _ => rfl) ?_
                  refine T_call 148 232 [.ref 189, .int (i32 123)] [] rfl (fun _ => rfl) rfl (d_need w (mO m581 [] []) c N D (by omega) Tm581 123 ⟨by decide, by decide⟩ (show 1 ≤ (123 : Int) by omega) (show LxP (m581.1 7) (m581.1 8) (m581.1 9) (m581.1 6) (m581.1 10) by rewrite [(show (m581.1 6) = (m.1 6) from ((fr1 Fm581 6 rfl).trans ((fr1 Fm299 6 rfl).trans ((fr1 Fm45 6 rfl).trans ((fr1 Fm20 6 rfl).trans (fr1 Fm5 6 rfl))))))]; first | exact hLx | (intro h9; exfalso; omega) | (intro h9; have h8 := hLx (by omega); omega))) (fun rr592 k593 => ?_)
                  obtain ⟨m594, Tm594, Fm594, h595, h596, h597, h598, rfl⟩ := k593
                  refine ⟨_, _, rfl, ?_⟩
                  refine T_nb (st' := []) rfl ?_
                  have g599 : 0 ≤ m594.1 7 ∧ m594.1 7 ≤ 330 := Tm594.1 7
                  have g600 : 0 ≤ m594.1 8 ∧ m594.1 8 ≤ 4000 := Tm594.1 8
                  have g601 : 0 ≤ m594.1 9 ∧ m594.1 9 ≤ 4000 := Tm594.1 9
                  have g602 : 0 ≤ m594.1 10 ∧ m594.1 10 ≤ 8 := Tm594.1 10
                  have g603 : (-1) ≤ m594.1 11 ∧ m594.1 11 ≤ 4000 := Tm594.1 11
                  replace h595 : LxP (m594.1 7) (m594.1 8) (m594.1 9) (m581.1 6) (m594.1 10) := h595
                  rewrite [(show (m581.1 6) = (m.1 6) from ((fr1 Fm581 6 rfl).trans ((fr1 Fm299 6 rfl).trans ((fr1 Fm45 6 rfl).trans ((fr1 Fm20 6 rfl).trans (fr1 Fm5 6 rfl))))))] at h595
                  replace h596 : (m594.1 10) = 0 → (m581.1 10) = 0 ∧ (m581.1 7) = (123 : Int) := h596
                  replace h597 : (m581.1 8) ≤ (m594.1 8) := h597
                  replace h598 : (m594.1 10) = 0 → (m581.1 8) + (m581.1 9) ≤ (m594.1 8) := h598
                  have hf604 : 1 ≤ (m594.1 10) := by omega
                  clear h596
                  clear h598
                  have hLx := h595
                  clear g586 g587 g588 g589 g590 hf591 h582 h584 h597
                  refine T_ld 149 (.ref 189) rfl (fun _ => rfl) ?_
                  refine T_ld 150 (.int (i32 (m.1 25))) rfl (fun _ => rfl) ?_
                  refine T_pf (l' := [(64, (m.1 25))]) 153 (m.1 25) rfl rfl rfl rfl rfl rfl ?_
                  have g605 : (-1) ≤ (m.1 25) ∧ (m.1 25) ≤ 15 := ⟨by omega, by omega⟩
                  refine T_gf 157 (.int (i32 (m594.1 10))) rfl rfl rfl rfl rfl rfl ?_
                  refine T_if 211 160 rfl rfl rfl (r32 (by omega) (by omega)) (fun (h606 : (m594.1 10) ≠ 0) => ?_) (fun (h606 : ¬ ((m594.1 10) ≠ 0)) => by exfalso; omega)
                  refine T_ld 212 (.ref 189) rfl (fun _ => rfl) ?_
                  refine T_ld 213 (.int (i32 (-1))) rfl (fun _ => rfl) ?_
                  refine T_pf (l' := [(64, (-1))]) 216 (-1) rfl rfl rfl rfl rfl rfl ?_
                  refine T_ld 217 (.ref 189) rfl (fun _ => rfl) ?_
                  refine T_ld 219 (.int (i32 125)) rfl (fun _ => rfl) ?_
                  refine T_call 222 232 [.ref 189, .int (i32 125)] [] rfl (fun _ => rfl) rfl (d_need w (mO m594 [(64, (-1))] []) c N D (by omega) (Ty_mO Tm594 rfl rfl ⟨⟨(by omega : ((-1) : Int) ≤ (-1)), (by omega : ((-1) : Int) ≤ 15)⟩, trivial⟩ trivial) 125 ⟨by decide, by decide⟩ (show 1 ≤ (125 : Int) by omega) (show LxP (m594.1 7) (m594.1 8) (m594.1 9) (m594.1 6) (m594.1 10) by rewrite [(show (m594.1 6) = (m.1 6) from ((fr1 Fm594 6 rfl).trans ((fr1 Fm581 6 rfl).trans ((fr1 Fm299 6 rfl).trans ((fr1 Fm45 6 rfl).trans ((fr1 Fm20 6 rfl).trans (fr1 Fm5 6 rfl)))))))]; first | exact hLx | (intro h9; exfalso; omega) | (intro h9; have h8 := hLx (by omega); omega))) (fun rr607 k608 => ?_)
                  obtain ⟨m609, Tm609, Fm609, h610, h611, h612, h613, rfl⟩ := k608
                  refine ⟨_, _, rfl, ?_⟩
                  refine T_nb (st' := []) rfl ?_
                  have g614 : 0 ≤ m609.1 7 ∧ m609.1 7 ≤ 330 := Tm609.1 7
                  have g615 : 0 ≤ m609.1 8 ∧ m609.1 8 ≤ 4000 := Tm609.1 8
                  have g616 : 0 ≤ m609.1 9 ∧ m609.1 9 ≤ 4000 := Tm609.1 9
                  have g617 : 0 ≤ m609.1 10 ∧ m609.1 10 ≤ 8 := Tm609.1 10
                  have g618 : (-1) ≤ m609.1 11 ∧ m609.1 11 ≤ 4000 := Tm609.1 11
                  replace h610 : LxP (m609.1 7) (m609.1 8) (m609.1 9) (m594.1 6) (m609.1 10) := h610
                  rewrite [(show (m594.1 6) = (m.1 6) from ((fr1 Fm594 6 rfl).trans ((fr1 Fm581 6 rfl).trans ((fr1 Fm299 6 rfl).trans ((fr1 Fm45 6 rfl).trans ((fr1 Fm20 6 rfl).trans (fr1 Fm5 6 rfl)))))))] at h610
                  replace h611 : (m609.1 10) = 0 → (m594.1 10) = 0 ∧ (m594.1 7) = (125 : Int) := h611
                  replace h612 : (m594.1 8) ≤ (m609.1 8) := h612
                  replace h613 : (m609.1 10) = 0 → (m594.1 8) + (m594.1 9) ≤ (m609.1 8) := h613
                  have hf619 : 1 ≤ (m609.1 10) := by omega
                  clear h611
                  clear h613
                  have hLx := h610
                  clear g599 g600 g601 g602 g603 hf604 h595 h606 h612
                  refine T_ret rfl (fun _ => rfl) ?_
                  exact ⟨(mO m609 [] []), Tm609, (fr_m (fr_s Fm609 (fr_m (fr_s Fm594 (fr_m (fr_s Fm581 (fr_m (fr_s Fm299 (fr_m (fr_s Fm45 (fr_m (fr_s Fm20 (fr_m (fr_s Fm5 (fr_m fr_0 rfl rfl) rfl rfl) rfl rfl) rfl rfl) rfl rfl) rfl rfl) rfl rfl) rfl rfl) rfl rfl) rfl rfl) rfl rfl) rfl rfl) rfl rfl) rfl rfl) rfl rfl), (show (m609.1 10) = 0 → (m.1 10) = 0 by omega), (show LxP (m609.1 7) (m609.1 8) (m609.1 9) (m.1 6) (m609.1 10) by first | (first | exact hLx | exact (fun _ => hLx (by omega)) | (intro h9; exfalso; omega)) | (exfalso; omega)), (show ∀ k, (m609.2 14) k + (m609.2 15) k ≤ 4000 by rewrite [(show (m609.2 14) = (m20.2 14) from ((fr2 Fm609 14 rfl).trans ((fr2 Fm594 14 rfl).trans ((fr2 Fm581 14 rfl).trans ((fr2 Fm299 14 rfl).trans (fr2 Fm45 14 rfl)))))), (show (m609.2 15) = (m20.2 15) from ((fr2 Fm609 15 rfl).trans ((fr2 Fm594 15 rfl).trans ((fr2 Fm581 15 rfl).trans ((fr2 Fm299 15 rfl).trans (fr2 Fm45 15 rfl))))))]; first | (exact hNM) | (exfalso; omega)), (show ∀ k, (m609.2 47) k + (m609.2 48) k ≤ 4000 by rewrite [(show (m609.2 47) = (m299.2 47) from ((fr2 Fm609 47 rfl).trans ((fr2 Fm594 47 rfl).trans (fr2 Fm581 47 rfl)))), (show (m609.2 48) = (m299.2 48) from ((fr2 Fm609 48 rfl).trans ((fr2 Fm594 48 rfl).trans (fr2 Fm581 48 rfl))))]; first | (exact hPA) | (exfalso; omega)), (fun (h : (m609.1 10) = 0) => absurd h (by omega)), rfl⟩
          refine Tm_lv (a := [(0, .ref 189), (1, .int (i32 (m.1 25))), (2, .int (i32 1))]) rfl rfl ⟨rfl, rfl, rfl, trivial⟩ ?_
          exact L87_300 ((1000000 * (8 - (m45.1 10)) + 2 * (4000 - (m45.1 8)) + (1 : Int) : Int) + 1).toNat 1 (mO m45 [] []) ⟨by decide, by decide⟩ Tm45 (fr_m fr_0 rfl rfl) (show 0 ≤ (1 : Int) by omega) (show (1 : Int) ≤ 1 by omega) (show LxP (m45.1 7) (m45.1 8) (m45.1 9) (m.1 6) (m45.1 10) by first | exact hLx | exact (fun _ => hLx (by omega)) | (intro h9; exfalso; omega)) (show ∀ k, (m45.2 47) k + (m45.2 48) k ≤ 4000 by rewrite [(show (m45.2 47) = (m.2 47) from ((fr2 Fm45 47 rfl).trans ((fr2 Fm20 47 rfl).trans (fr2 Fm5 47 rfl)))), (show (m45.2 48) = (m.2 48) from ((fr2 Fm45 48 rfl).trans ((fr2 Fm20 48 rfl).trans (fr2 Fm5 48 rfl))))]; exact hPA) (show (1 : Int) = 0 ∨ (1 : Int) = 1 by omega) (fun _ => (show (m.1 8) + 1 ≤ (m45.1 8) by omega)) (show 1000000 * (8 - (m45.1 10)) + 2 * (4000 - (m45.1 8)) + (1 : Int) < ((((1000000 * (8 - (m45.1 10)) + 2 * (4000 - (m45.1 8)) + (1 : Int) : Int) + 1).toNat : Nat) : Int) by omega)
      · skip
        replace h46 : LxP (m45.1 7) (m45.1 8) (m45.1 9) (m20.1 6) (m45.1 10) := h46
        rewrite [(show (m20.1 6) = (m.1 6) from ((fr1 Fm20 6 rfl).trans (fr1 Fm5 6 rfl)))] at h46
        have hLx := h46
        clear h47
        replace h48 : (m20.1 8) ≤ (m45.1 8) := h48
        clear h49
        have hf620 : 1 ≤ (m45.1 10) := by omega
        clear g29 g30 g31 g32 g33 g21a g21b h22 h26 u36 h38 h48
        refine T_gf 69 (.int (i32 (m45.1 10))) rfl rfl rfl rfl rfl rfl ?_
        refine T_if 85 72 rfl rfl rfl (r32 (by omega) (by omega)) (fun (h621 : (m45.1 10) ≠ 0) => ?_) (fun (h621 : ¬ ((m45.1 10) ≠ 0)) => by exfalso; omega)
        refine T_ld 86 (.int (i32 0)) rfl (fun _ => rfl) ?_
        refine T_sto 87 [(2, .int (i32 0)), (1, .int (i32 (m.1 25))), (0, .ref 189)] rfl (fun _ => rfl) ?_
        refine T_ld 88 (.int (i32 0)) rfl (fun _ => rfl) ?_
        refine T_if 136 91 rfl rfl rfl ⟨by decide, by decide⟩ (fun _ => ?_) (fun h622 => absurd (show (0 : Int) = 0 by decide) h622)
        refine T_ld 137 (.ref 189) rfl (fun _ => rfl) ?_
        refine T_ld 139 (.int (i32 41)) rfl (fun _ => rfl) ?_
        refine T_call 142 232 [.ref 189, .int (i32 41)] [] rfl (fun _ => rfl) rfl (d_need w (mO m45 [] []) c N D (by omega) Tm45 41 ⟨by decide, by decide⟩ (show 1 ≤ (41 : Int) by omega) (show LxP (m45.1 7) (m45.1 8) (m45.1 9) (m45.1 6) (m45.1 10) by rewrite [(show (m45.1 6) = (m.1 6) from ((fr1 Fm45 6 rfl).trans ((fr1 Fm20 6 rfl).trans (fr1 Fm5 6 rfl))))]; first | exact hLx | (intro h9; exfalso; omega) | (intro h9; have h8 := hLx (by omega); omega))) (fun rr623 k624 => ?_)
        obtain ⟨m625, Tm625, Fm625, h626, h627, h628, h629, rfl⟩ := k624
        refine ⟨_, _, rfl, ?_⟩
        refine T_nb (st' := []) rfl ?_
        have g630 : 0 ≤ m625.1 7 ∧ m625.1 7 ≤ 330 := Tm625.1 7
        have g631 : 0 ≤ m625.1 8 ∧ m625.1 8 ≤ 4000 := Tm625.1 8
        have g632 : 0 ≤ m625.1 9 ∧ m625.1 9 ≤ 4000 := Tm625.1 9
        have g633 : 0 ≤ m625.1 10 ∧ m625.1 10 ≤ 8 := Tm625.1 10
        have g634 : (-1) ≤ m625.1 11 ∧ m625.1 11 ≤ 4000 := Tm625.1 11
        replace h626 : LxP (m625.1 7) (m625.1 8) (m625.1 9) (m45.1 6) (m625.1 10) := h626
        rewrite [(show (m45.1 6) = (m.1 6) from ((fr1 Fm45 6 rfl).trans ((fr1 Fm20 6 rfl).trans (fr1 Fm5 6 rfl))))] at h626
        replace h627 : (m625.1 10) = 0 → (m45.1 10) = 0 ∧ (m45.1 7) = (41 : Int) := h627
        replace h628 : (m45.1 8) ≤ (m625.1 8) := h628
        replace h629 : (m625.1 10) = 0 → (m45.1 8) + (m45.1 9) ≤ (m625.1 8) := h629
        have hf635 : 1 ≤ (m625.1 10) := by omega
        clear h627
        clear h629
        have hLx := h626
        clear g50 g51 g52 g53 g54 h46 hf620 h621 h628
        refine T_ld 143 (.ref 189) rfl (fun _ => rfl) ?_
        refine T_ld 145 (.int (i32 123)) rfl (fun _ => rfl) ?_
        refine T_call 148 232 [.ref 189, .int (i32 123)] [] rfl (fun _ => rfl) rfl (d_need w (mO m625 [] []) c N D (by omega) Tm625 123 ⟨by decide, by decide⟩ (show 1 ≤ (123 : Int) by omega) (show LxP (m625.1 7) (m625.1 8) (m625.1 9) (m625.1 6) (m625.1 10) by rewrite [(show (m625.1 6) = (m.1 6) from ((fr1 Fm625 6 rfl).trans ((fr1 Fm45 6 rfl).trans ((fr1 Fm20 6 rfl).trans (fr1 Fm5 6 rfl)))))]; first | exact hLx | (intro h9; exfalso; omega) | (intro h9; have h8 := hLx (by omega); omega))) (fun rr636 k637 => ?_)
        obtain ⟨m638, Tm638, Fm638, h639, h640, h641, h642, rfl⟩ := k637
        refine ⟨_, _, rfl, ?_⟩
        refine T_nb (st' := []) rfl ?_
        have g643 : 0 ≤ m638.1 7 ∧ m638.1 7 ≤ 330 := Tm638.1 7
        have g644 : 0 ≤ m638.1 8 ∧ m638.1 8 ≤ 4000 := Tm638.1 8
        have g645 : 0 ≤ m638.1 9 ∧ m638.1 9 ≤ 4000 := Tm638.1 9
        have g646 : 0 ≤ m638.1 10 ∧ m638.1 10 ≤ 8 := Tm638.1 10
        have g647 : (-1) ≤ m638.1 11 ∧ m638.1 11 ≤ 4000 := Tm638.1 11
        replace h639 : LxP (m638.1 7) (m638.1 8) (m638.1 9) (m625.1 6) (m638.1 10) := h639
        rewrite [(show (m625.1 6) = (m.1 6) from ((fr1 Fm625 6 rfl).trans ((fr1 Fm45 6 rfl).trans ((fr1 Fm20 6 rfl).trans (fr1 Fm5 6 rfl)))))] at h639
        replace h640 : (m638.1 10) = 0 → (m625.1 10) = 0 ∧ (m625.1 7) = (123 : Int) := h640
        replace h641 : (m625.1 8) ≤ (m638.1 8) := h641
        replace h642 : (m638.1 10) = 0 → (m625.1 8) + (m625.1 9) ≤ (m638.1 8) := h642
        have hf648 : 1 ≤ (m638.1 10) := by omega
        clear h640
        clear h642
        have hLx := h639
        clear g630 g631 g632 g633 g634 hf635 h626 h641
        refine T_ld 149 (.ref 189) rfl (fun _ => rfl) ?_
        refine T_ld 150 (.int (i32 (m.1 25))) rfl (fun _ => rfl) ?_
        refine T_pf (l' := [(64, (m.1 25))]) 153 (m.1 25) rfl rfl rfl rfl rfl rfl ?_
        have g649 : (-1) ≤ (m.1 25) ∧ (m.1 25) ≤ 15 := ⟨by omega, by omega⟩
        refine T_gf 157 (.int (i32 (m638.1 10))) rfl rfl rfl rfl rfl rfl ?_
        refine T_if 211 160 rfl rfl rfl (r32 (by omega) (by omega)) (fun (h650 : (m638.1 10) ≠ 0) => ?_) (fun (h650 : ¬ ((m638.1 10) ≠ 0)) => by exfalso; omega)
        refine T_ld 212 (.ref 189) rfl (fun _ => rfl) ?_
        refine T_ld 213 (.int (i32 (-1))) rfl (fun _ => rfl) ?_
        refine T_pf (l' := [(64, (-1))]) 216 (-1) rfl rfl rfl rfl rfl rfl ?_
        refine T_ld 217 (.ref 189) rfl (fun _ => rfl) ?_
        refine T_ld 219 (.int (i32 125)) rfl (fun _ => rfl) ?_
        refine T_call 222 232 [.ref 189, .int (i32 125)] [] rfl (fun _ => rfl) rfl (d_need w (mO m638 [(64, (-1))] []) c N D (by omega) (Ty_mO Tm638 rfl rfl ⟨⟨(by omega : ((-1) : Int) ≤ (-1)), (by omega : ((-1) : Int) ≤ 15)⟩, trivial⟩ trivial) 125 ⟨by decide, by decide⟩ (show 1 ≤ (125 : Int) by omega) (show LxP (m638.1 7) (m638.1 8) (m638.1 9) (m638.1 6) (m638.1 10) by rewrite [(show (m638.1 6) = (m.1 6) from ((fr1 Fm638 6 rfl).trans ((fr1 Fm625 6 rfl).trans ((fr1 Fm45 6 rfl).trans ((fr1 Fm20 6 rfl).trans (fr1 Fm5 6 rfl))))))]; first | exact hLx | (intro h9; exfalso; omega) | (intro h9; have h8 := hLx (by omega); omega))) (fun rr651 k652 => ?_)
        obtain ⟨m653, Tm653, Fm653, h654, h655, h656, h657, rfl⟩ := k652
        refine ⟨_, _, rfl, ?_⟩
        refine T_nb (st' := []) rfl ?_
        have g658 : 0 ≤ m653.1 7 ∧ m653.1 7 ≤ 330 := Tm653.1 7
        have g659 : 0 ≤ m653.1 8 ∧ m653.1 8 ≤ 4000 := Tm653.1 8
        have g660 : 0 ≤ m653.1 9 ∧ m653.1 9 ≤ 4000 := Tm653.1 9
        have g661 : 0 ≤ m653.1 10 ∧ m653.1 10 ≤ 8 := Tm653.1 10
        have g662 : (-1) ≤ m653.1 11 ∧ m653.1 11 ≤ 4000 := Tm653.1 11
        replace h654 : LxP (m653.1 7) (m653.1 8) (m653.1 9) (m638.1 6) (m653.1 10) := h654
        rewrite [(show (m638.1 6) = (m.1 6) from ((fr1 Fm638 6 rfl).trans ((fr1 Fm625 6 rfl).trans ((fr1 Fm45 6 rfl).trans ((fr1 Fm20 6 rfl).trans (fr1 Fm5 6 rfl))))))] at h654
        replace h655 : (m653.1 10) = 0 → (m638.1 10) = 0 ∧ (m638.1 7) = (125 : Int) := h655
        replace h656 : (m638.1 8) ≤ (m653.1 8) := h656
        replace h657 : (m653.1 10) = 0 → (m638.1 8) + (m638.1 9) ≤ (m653.1 8) := h657
        have hf663 : 1 ≤ (m653.1 10) := by omega
        clear h655
        clear h657
        have hLx := h654
        clear g643 g644 g645 g646 g647 hf648 h639 h650 h656
        refine T_ret rfl (fun _ => rfl) ?_
        exact ⟨(mO m653 [] []), Tm653, (fr_m (fr_s Fm653 (fr_m (fr_s Fm638 (fr_m (fr_s Fm625 (fr_m (fr_s Fm45 (fr_m (fr_s Fm20 (fr_m (fr_s Fm5 (fr_m fr_0 rfl rfl) rfl rfl) rfl rfl) rfl rfl) rfl rfl) rfl rfl) rfl rfl) rfl rfl) rfl rfl) rfl rfl) rfl rfl) rfl rfl) rfl rfl), (show (m653.1 10) = 0 → (m.1 10) = 0 by omega), (show LxP (m653.1 7) (m653.1 8) (m653.1 9) (m.1 6) (m653.1 10) by first | (first | exact hLx | exact (fun _ => hLx (by omega)) | (intro h9; exfalso; omega)) | (exfalso; omega)), (show ∀ k, (m653.2 14) k + (m653.2 15) k ≤ 4000 by rewrite [(show (m653.2 14) = (m20.2 14) from ((fr2 Fm653 14 rfl).trans ((fr2 Fm638 14 rfl).trans ((fr2 Fm625 14 rfl).trans (fr2 Fm45 14 rfl))))), (show (m653.2 15) = (m20.2 15) from ((fr2 Fm653 15 rfl).trans ((fr2 Fm638 15 rfl).trans ((fr2 Fm625 15 rfl).trans (fr2 Fm45 15 rfl)))))]; first | (exact hNM) | (exfalso; omega)), (show ∀ k, (m653.2 47) k + (m653.2 48) k ≤ 4000 by rewrite [(show (m653.2 47) = (m.2 47) from ((fr2 Fm653 47 rfl).trans ((fr2 Fm638 47 rfl).trans ((fr2 Fm625 47 rfl).trans ((fr2 Fm45 47 rfl).trans ((fr2 Fm20 47 rfl).trans (fr2 Fm5 47 rfl))))))), (show (m653.2 48) = (m.2 48) from ((fr2 Fm653 48 rfl).trans ((fr2 Fm638 48 rfl).trans ((fr2 Fm625 48 rfl).trans ((fr2 Fm45 48 rfl).trans ((fr2 Fm20 48 rfl).trans (fr2 Fm5 48 rfl)))))))]; first | (exact hPA) | (exfalso; omega)), (fun (h : (m653.1 10) = 0) => absurd h (by omega)), rfl⟩
    · skip
      replace h22 : LxP (m20.1 7) (m20.1 8) (m20.1 9) (m5.1 6) (m20.1 10) := h22
      rewrite [(show (m5.1 6) = (m.1 6) from (fr1 Fm5 6 rfl))] at h22
      have hLx := h22
      replace h23 : (m5.1 8) ≤ (m20.1 8) := h23
      clear h24
      clear h25
      replace h26 : nn = 1 → (m.1 25) ≠ (16 : Int) := h26
      replace h27 : ∀ k, (m20.2 14) k + (m20.2 15) k ≤ 4000 := h27
      have hNM := h27
      replace h28 : (nn = 1 ∧ (m5.1 10) = 0 ∧ (m20.1 13) = (m5.1 13) + 1 ∧ (m20.2 14) = upI (m5.2 14) (m5.1 13) (m5.1 8) ∧ (m20.2 15) = upI (m5.2 15) (m5.1 13) (m5.1 9) ∧ (m20.2 16) = upI (m5.2 16) (m5.1 13) (6 : Int) ∧ (m20.2 17) = upI (m5.2 17) (m5.1 13) (m.1 25)) ∨ (nn = 0 ∧ 0 < (m20.1 10) ∧ (m20.1 13) = (m5.1 13) ∧ (m20.2 14) = (m5.2 14) ∧ (m20.2 15) = (m5.2 15) ∧ (m20.2 16) = (m5.2 16) ∧ (m20.2 17) = (m5.2 17)) := h28
      rewrite [(show (m5.1 13) = (m.1 13) from (fr1 Fm5 13 rfl)), (show (m5.2 14) = (m.2 14) from (fr2 Fm5 14 rfl)), (show (m5.2 15) = (m.2 15) from (fr2 Fm5 15 rfl)), (show (m5.2 16) = (m.2 16) from (fr2 Fm5 16 rfl)), (show (m5.2 17) = (m.2 17) from (fr2 Fm5 17 rfl))] at h28
      have hN := h28
      have hf664 : 1 ≤ (m20.1 10) := by omega
      clear g10 g11 g12 g13 g14 h6 h8 h9 u16 h23 h28
      refine T_if 20 19 rfl rfl rfl (r32 (by omega) (by omega)) (fun (h665 : nn ≠ 0) => ?_) (fun (h665 : ¬ (nn ≠ 0)) => ?_)
      · skip
        refine T_gf 24 (.int (i32 (m.1 25))) rfl rfl rfl rfl (mfv_c (F := fun x => .int (i32 x)) rfl (show (m20.1 25) = (m.1 25) from ((fr1 Fm20 25 rfl).trans (fr1 Fm5 25 rfl)))) rfl ?_
        refine T_sto 25 [(1, .int (i32 (m.1 25))), (0, .ref 189)] rfl (fun _ => rfl) ?_
        refine T_ld 26 (.ref 189) rfl (fun _ => rfl) ?_
        refine T_ld 27 (.ref 189) rfl (fun _ => rfl) ?_
        refine T_gf1 30 (.int (i32 (m.1 25))) rfl rfl (mfv_c (F := fun x => .int (i32 x)) rfl (show (m20.1 25) = (m.1 25) from ((fr1 Fm20 25 rfl).trans (fr1 Fm5 25 rfl)))) rfl ?_
        refine T_ld 31 (.int (i32 1)) rfl (fun _ => rfl) ?_
        refine T_iadd 32 rfl rfl ?_
        refine T_pf (l' := [(25, (m.1 25) + 1)]) 35 ((m.1 25) + 1) rfl rfl rfl rfl rfl rfl ?_
        have g666 : 0 ≤ (m.1 25) + 1 ∧ (m.1 25) + 1 ≤ 16 := ⟨by omega, by omega⟩
        refine T_gf 39 (.ref 269) rfl rfl rfl rfl rfl rfl ?_
        refine T_ld 40 (.int (i32 (m.1 25))) rfl (fun _ => rfl) ?_
        refine T_gf 44 (.int (i32 (m.1 99))) rfl rfl rfl rfl (mfv_c (F := fun x => .int (i32 x)) rfl (show (m20.1 99) = (m.1 99) from ((fr1 Fm20 99 rfl).trans (fr1 Fm5 99 rfl)))) rfl ?_
        have G667 : ∀ j, 0 ≤ (upI (m.2 109) (m.1 25) (m.1 99)) j ∧ (upI (m.2 109) (m.1 25) (m.1 99)) j ≤ 192 := upI_rg (hT.2.1 109) ⟨by omega, by omega⟩
        refine T_iast (a' := [(109, upI (m.2 109) (m.1 25) (m.1 99))]) 45 109 (m.2 109) rfl rfl rfl (by omega) (show (m.1 25) < (16 : Int) by omega) (show (m20.2 109) = (m.2 109) from ((fr2 Fm20 109 rfl).trans (fr2 Fm5 109 rfl))) rfl ?_
        refine T_gf 49 (.ref 216) rfl rfl rfl rfl rfl rfl ?_
        refine T_ld 50 (.int (i32 (m.1 25))) rfl (fun _ => rfl) ?_
        refine T_ld 51 (.int (i32 0)) rfl (fun _ => rfl) ?_
        have G668 : ∀ j, 0 ≤ (upI (m.2 46) (m.1 25) 0) j ∧ (upI (m.2 46) (m.1 25) 0) j ≤ 4 := upI_rg (hT.2.1 46) ⟨by omega, by omega⟩
        refine T_iast (a' := [(46, upI (m.2 46) (m.1 25) 0), (109, upI (m.2 109) (m.1 25) (m.1 99))]) 52 46 (m.2 46) rfl rfl rfl (by omega) (show (m.1 25) < (16 : Int) by omega) (show (m20.2 46) = (m.2 46) from ((fr2 Fm20 46 rfl).trans (fr2 Fm5 46 rfl))) rfl ?_
        refine T_gf 56 (.ref 220) rfl rfl rfl rfl rfl rfl ?_
        refine T_ld 57 (.int (i32 (m.1 25))) rfl (fun _ => rfl) ?_
        refine T_ld 58 (.int (i32 0)) rfl (fun _ => rfl) ?_
        have G669 : ∀ j, 0 ≤ (upI (m.2 50) (m.1 25) 0) j ∧ (upI (m.2 50) (m.1 25) 0) j ≤ 13 := upI_rg (hT.2.1 50) ⟨by omega, by omega⟩
        refine T_iast (a' := [(46, upI (m.2 46) (m.1 25) 0), (50, upI (m.2 50) (m.1 25) 0), (109, upI (m.2 109) (m.1 25) (m.1 99))]) 59 50 (m.2 50) rfl rfl rfl (by omega) (show (m.1 25) < (16 : Int) by omega) (show (m20.2 50) = (m.2 50) from ((fr2 Fm20 50 rfl).trans (fr2 Fm5 50 rfl))) rfl ?_
        refine T_ld 60 (.ref 189) rfl (fun _ => rfl) ?_
        refine T_ld 62 (.int (i32 40)) rfl (fun _ => rfl) ?_
        refine T_call 65 232 [.ref 189, .int (i32 40)] [] rfl (fun _ => rfl) rfl (d_need w (mO m20 [(25, (m.1 25) + 1)] [(46, upI (m.2 46) (m.1 25) 0), (50, upI (m.2 50) (m.1 25) 0), (109, upI (m.2 109) (m.1 25) (m.1 99))]) c N D (by omega) (Ty_mO Tm20 rfl rfl ⟨g666, trivial⟩ ⟨G668, G669, G667, trivial⟩) 40 ⟨by decide, by decide⟩ (show 1 ≤ (40 : Int) by omega) (show LxP (m20.1 7) (m20.1 8) (m20.1 9) (m20.1 6) (m20.1 10) by rewrite [(show (m20.1 6) = (m.1 6) from ((fr1 Fm20 6 rfl).trans (fr1 Fm5 6 rfl)))]; first | exact hLx | (intro h9; exfalso; omega) | (intro h9; have h8 := hLx (by omega); omega))) (fun rr670 k671 => ?_)
        obtain ⟨m672, Tm672, Fm672, h673, h674, h675, h676, rfl⟩ := k671
        refine ⟨_, _, rfl, ?_⟩
        refine T_nb (st' := []) rfl ?_
        have g677 : 0 ≤ m672.1 7 ∧ m672.1 7 ≤ 330 := Tm672.1 7
        have g678 : 0 ≤ m672.1 8 ∧ m672.1 8 ≤ 4000 := Tm672.1 8
        have g679 : 0 ≤ m672.1 9 ∧ m672.1 9 ≤ 4000 := Tm672.1 9
        have g680 : 0 ≤ m672.1 10 ∧ m672.1 10 ≤ 8 := Tm672.1 10
        have g681 : (-1) ≤ m672.1 11 ∧ m672.1 11 ≤ 4000 := Tm672.1 11
        replace h673 : LxP (m672.1 7) (m672.1 8) (m672.1 9) (m20.1 6) (m672.1 10) := h673
        rewrite [(show (m20.1 6) = (m.1 6) from ((fr1 Fm20 6 rfl).trans (fr1 Fm5 6 rfl)))] at h673
        replace h674 : (m672.1 10) = 0 → (m20.1 10) = 0 ∧ (m20.1 7) = (40 : Int) := h674
        replace h675 : (m20.1 8) ≤ (m672.1 8) := h675
        replace h676 : (m672.1 10) = 0 → (m20.1 8) + (m20.1 9) ≤ (m672.1 8) := h676
        have hf682 : 1 ≤ (m672.1 10) := by omega
        clear h674
        clear h676
        have hLx := h673
        clear g29 g30 g31 g32 g33 g21a g21b h22 h26 hf664 h665 h675
        refine T_gf 69 (.int (i32 (m672.1 10))) rfl rfl rfl rfl rfl rfl ?_
        refine T_if 85 72 rfl rfl rfl (r32 (by omega) (by omega)) (fun (h683 : (m672.1 10) ≠ 0) => ?_) (fun (h683 : ¬ ((m672.1 10) ≠ 0)) => by exfalso; omega)
        refine T_ld 86 (.int (i32 0)) rfl (fun _ => rfl) ?_
        refine T_sto 87 [(2, .int (i32 0)), (1, .int (i32 (m.1 25))), (0, .ref 189)] rfl (fun _ => rfl) ?_
        refine T_ld 88 (.int (i32 0)) rfl (fun _ => rfl) ?_
        refine T_if 136 91 rfl rfl rfl ⟨by decide, by decide⟩ (fun _ => ?_) (fun h684 => absurd (show (0 : Int) = 0 by decide) h684)
        refine T_ld 137 (.ref 189) rfl (fun _ => rfl) ?_
        refine T_ld 139 (.int (i32 41)) rfl (fun _ => rfl) ?_
        refine T_call 142 232 [.ref 189, .int (i32 41)] [] rfl (fun _ => rfl) rfl (d_need w (mO m672 [] []) c N D (by omega) Tm672 41 ⟨by decide, by decide⟩ (show 1 ≤ (41 : Int) by omega) (show LxP (m672.1 7) (m672.1 8) (m672.1 9) (m672.1 6) (m672.1 10) by rewrite [(show (m672.1 6) = (m.1 6) from ((fr1 Fm672 6 rfl).trans ((fr1 Fm20 6 rfl).trans (fr1 Fm5 6 rfl))))]; first | exact hLx | (intro h9; exfalso; omega) | (intro h9; have h8 := hLx (by omega); omega))) (fun rr685 k686 => ?_)
        obtain ⟨m687, Tm687, Fm687, h688, h689, h690, h691, rfl⟩ := k686
        refine ⟨_, _, rfl, ?_⟩
        refine T_nb (st' := []) rfl ?_
        have g692 : 0 ≤ m687.1 7 ∧ m687.1 7 ≤ 330 := Tm687.1 7
        have g693 : 0 ≤ m687.1 8 ∧ m687.1 8 ≤ 4000 := Tm687.1 8
        have g694 : 0 ≤ m687.1 9 ∧ m687.1 9 ≤ 4000 := Tm687.1 9
        have g695 : 0 ≤ m687.1 10 ∧ m687.1 10 ≤ 8 := Tm687.1 10
        have g696 : (-1) ≤ m687.1 11 ∧ m687.1 11 ≤ 4000 := Tm687.1 11
        replace h688 : LxP (m687.1 7) (m687.1 8) (m687.1 9) (m672.1 6) (m687.1 10) := h688
        rewrite [(show (m672.1 6) = (m.1 6) from ((fr1 Fm672 6 rfl).trans ((fr1 Fm20 6 rfl).trans (fr1 Fm5 6 rfl))))] at h688
        replace h689 : (m687.1 10) = 0 → (m672.1 10) = 0 ∧ (m672.1 7) = (41 : Int) := h689
        replace h690 : (m672.1 8) ≤ (m687.1 8) := h690
        replace h691 : (m687.1 10) = 0 → (m672.1 8) + (m672.1 9) ≤ (m687.1 8) := h691
        have hf697 : 1 ≤ (m687.1 10) := by omega
        clear h689
        clear h691
        have hLx := h688
        clear g677 g678 g679 g680 g681 hf682 h673 h683 h690
        refine T_ld 143 (.ref 189) rfl (fun _ => rfl) ?_
        refine T_ld 145 (.int (i32 123)) rfl (fun _ => rfl) ?_
        refine T_call 148 232 [.ref 189, .int (i32 123)] [] rfl (fun _ => rfl) rfl (d_need w (mO m687 [] []) c N D (by omega) Tm687 123 ⟨by decide, by decide⟩ (show 1 ≤ (123 : Int) by omega) (show LxP (m687.1 7) (m687.1 8) (m687.1 9) (m687.1 6) (m687.1 10) by rewrite [(show (m687.1 6) = (m.1 6) from ((fr1 Fm687 6 rfl).trans ((fr1 Fm672 6 rfl).trans ((fr1 Fm20 6 rfl).trans (fr1 Fm5 6 rfl)))))]; first | exact hLx | (intro h9; exfalso; omega) | (intro h9; have h8 := hLx (by omega); omega))) (fun rr698 k699 => ?_)
        obtain ⟨m700, Tm700, Fm700, h701, h702, h703, h704, rfl⟩ := k699
        refine ⟨_, _, rfl, ?_⟩
        refine T_nb (st' := []) rfl ?_
        have g705 : 0 ≤ m700.1 7 ∧ m700.1 7 ≤ 330 := Tm700.1 7
        have g706 : 0 ≤ m700.1 8 ∧ m700.1 8 ≤ 4000 := Tm700.1 8
        have g707 : 0 ≤ m700.1 9 ∧ m700.1 9 ≤ 4000 := Tm700.1 9
        have g708 : 0 ≤ m700.1 10 ∧ m700.1 10 ≤ 8 := Tm700.1 10
        have g709 : (-1) ≤ m700.1 11 ∧ m700.1 11 ≤ 4000 := Tm700.1 11
        replace h701 : LxP (m700.1 7) (m700.1 8) (m700.1 9) (m687.1 6) (m700.1 10) := h701
        rewrite [(show (m687.1 6) = (m.1 6) from ((fr1 Fm687 6 rfl).trans ((fr1 Fm672 6 rfl).trans ((fr1 Fm20 6 rfl).trans (fr1 Fm5 6 rfl)))))] at h701
        replace h702 : (m700.1 10) = 0 → (m687.1 10) = 0 ∧ (m687.1 7) = (123 : Int) := h702
        replace h703 : (m687.1 8) ≤ (m700.1 8) := h703
        replace h704 : (m700.1 10) = 0 → (m687.1 8) + (m687.1 9) ≤ (m700.1 8) := h704
        have hf710 : 1 ≤ (m700.1 10) := by omega
        clear h702
        clear h704
        have hLx := h701
        clear g692 g693 g694 g695 g696 hf697 h688 h703
        refine T_ld 149 (.ref 189) rfl (fun _ => rfl) ?_
        refine T_ld 150 (.int (i32 (m.1 25))) rfl (fun _ => rfl) ?_
        refine T_pf (l' := [(64, (m.1 25))]) 153 (m.1 25) rfl rfl rfl rfl rfl rfl ?_
        have g711 : (-1) ≤ (m.1 25) ∧ (m.1 25) ≤ 15 := ⟨by omega, by omega⟩
        refine T_gf 157 (.int (i32 (m700.1 10))) rfl rfl rfl rfl rfl rfl ?_
        refine T_if 211 160 rfl rfl rfl (r32 (by omega) (by omega)) (fun (h712 : (m700.1 10) ≠ 0) => ?_) (fun (h712 : ¬ ((m700.1 10) ≠ 0)) => by exfalso; omega)
        refine T_ld 212 (.ref 189) rfl (fun _ => rfl) ?_
        refine T_ld 213 (.int (i32 (-1))) rfl (fun _ => rfl) ?_
        refine T_pf (l' := [(64, (-1))]) 216 (-1) rfl rfl rfl rfl rfl rfl ?_
        refine T_ld 217 (.ref 189) rfl (fun _ => rfl) ?_
        refine T_ld 219 (.int (i32 125)) rfl (fun _ => rfl) ?_
        refine T_call 222 232 [.ref 189, .int (i32 125)] [] rfl (fun _ => rfl) rfl (d_need w (mO m700 [(64, (-1))] []) c N D (by omega) (Ty_mO Tm700 rfl rfl ⟨⟨(by omega : ((-1) : Int) ≤ (-1)), (by omega : ((-1) : Int) ≤ 15)⟩, trivial⟩ trivial) 125 ⟨by decide, by decide⟩ (show 1 ≤ (125 : Int) by omega) (show LxP (m700.1 7) (m700.1 8) (m700.1 9) (m700.1 6) (m700.1 10) by rewrite [(show (m700.1 6) = (m.1 6) from ((fr1 Fm700 6 rfl).trans ((fr1 Fm687 6 rfl).trans ((fr1 Fm672 6 rfl).trans ((fr1 Fm20 6 rfl).trans (fr1 Fm5 6 rfl))))))]; first | exact hLx | (intro h9; exfalso; omega) | (intro h9; have h8 := hLx (by omega); omega))) (fun rr713 k714 => ?_)
        obtain ⟨m715, Tm715, Fm715, h716, h717, h718, h719, rfl⟩ := k714
        refine ⟨_, _, rfl, ?_⟩
        refine T_nb (st' := []) rfl ?_
        have g720 : 0 ≤ m715.1 7 ∧ m715.1 7 ≤ 330 := Tm715.1 7
        have g721 : 0 ≤ m715.1 8 ∧ m715.1 8 ≤ 4000 := Tm715.1 8
        have g722 : 0 ≤ m715.1 9 ∧ m715.1 9 ≤ 4000 := Tm715.1 9
        have g723 : 0 ≤ m715.1 10 ∧ m715.1 10 ≤ 8 := Tm715.1 10
        have g724 : (-1) ≤ m715.1 11 ∧ m715.1 11 ≤ 4000 := Tm715.1 11
        replace h716 : LxP (m715.1 7) (m715.1 8) (m715.1 9) (m700.1 6) (m715.1 10) := h716
        rewrite [(show (m700.1 6) = (m.1 6) from ((fr1 Fm700 6 rfl).trans ((fr1 Fm687 6 rfl).trans ((fr1 Fm672 6 rfl).trans ((fr1 Fm20 6 rfl).trans (fr1 Fm5 6 rfl))))))] at h716
        replace h717 : (m715.1 10) = 0 → (m700.1 10) = 0 ∧ (m700.1 7) = (125 : Int) := h717
        replace h718 : (m700.1 8) ≤ (m715.1 8) := h718
        replace h719 : (m715.1 10) = 0 → (m700.1 8) + (m700.1 9) ≤ (m715.1 8) := h719
        have hf725 : 1 ≤ (m715.1 10) := by omega
        clear h717
        clear h719
        have hLx := h716
        clear g705 g706 g707 g708 g709 hf710 h701 h712 h718
        refine T_ret rfl (fun _ => rfl) ?_
        exact ⟨(mO m715 [] []), Tm715, (fr_m (fr_s Fm715 (fr_m (fr_s Fm700 (fr_m (fr_s Fm687 (fr_m (fr_s Fm672 (fr_m (fr_s Fm20 (fr_m (fr_s Fm5 (fr_m fr_0 rfl rfl) rfl rfl) rfl rfl) rfl rfl) rfl rfl) rfl rfl) rfl rfl) rfl rfl) rfl rfl) rfl rfl) rfl rfl) rfl rfl) rfl rfl), (show (m715.1 10) = 0 → (m.1 10) = 0 by omega), (show LxP (m715.1 7) (m715.1 8) (m715.1 9) (m.1 6) (m715.1 10) by first | (first | exact hLx | exact (fun _ => hLx (by omega)) | (intro h9; exfalso; omega)) | (exfalso; omega)), (show ∀ k, (m715.2 14) k + (m715.2 15) k ≤ 4000 by rewrite [(show (m715.2 14) = (m20.2 14) from ((fr2 Fm715 14 rfl).trans ((fr2 Fm700 14 rfl).trans ((fr2 Fm687 14 rfl).trans (fr2 Fm672 14 rfl))))), (show (m715.2 15) = (m20.2 15) from ((fr2 Fm715 15 rfl).trans ((fr2 Fm700 15 rfl).trans ((fr2 Fm687 15 rfl).trans (fr2 Fm672 15 rfl)))))]; first | (exact hNM) | (exfalso; omega)), (show ∀ k, (m715.2 47) k + (m715.2 48) k ≤ 4000 by rewrite [(show (m715.2 47) = (m.2 47) from ((fr2 Fm715 47 rfl).trans ((fr2 Fm700 47 rfl).trans ((fr2 Fm687 47 rfl).trans ((fr2 Fm672 47 rfl).trans ((fr2 Fm20 47 rfl).trans (fr2 Fm5 47 rfl))))))), (show (m715.2 48) = (m.2 48) from ((fr2 Fm715 48 rfl).trans ((fr2 Fm700 48 rfl).trans ((fr2 Fm687 48 rfl).trans ((fr2 Fm672 48 rfl).trans ((fr2 Fm20 48 rfl).trans (fr2 Fm5 48 rfl)))))))]; first | (exact hPA) | (exfalso; omega)), (fun (h : (m715.1 10) = 0) => absurd h (by omega)), rfl⟩
      · skip
        refine T_ret rfl (fun _ => rfl) ?_
        exact ⟨(mO m20 [] []), Tm20, (fr_m (fr_s Fm20 (fr_m (fr_s Fm5 (fr_m fr_0 rfl rfl) rfl rfl) rfl rfl) rfl rfl) rfl rfl), (show (m20.1 10) = 0 → (m.1 10) = 0 by omega), (show LxP (m20.1 7) (m20.1 8) (m20.1 9) (m.1 6) (m20.1 10) by first | (first | exact hLx | exact (fun _ => hLx (by omega)) | (intro h9; exfalso; omega)) | (exfalso; omega)), (show ∀ k, (m20.2 14) k + (m20.2 15) k ≤ 4000 by first | (exact hNM) | (exfalso; omega)), (show ∀ k, (m20.2 47) k + (m20.2 48) k ≤ 4000 by rewrite [(show (m20.2 47) = (m.2 47) from ((fr2 Fm20 47 rfl).trans (fr2 Fm5 47 rfl))), (show (m20.2 48) = (m.2 48) from ((fr2 Fm20 48 rfl).trans (fr2 Fm5 48 rfl)))]; first | (exact hPA) | (exfalso; omega)), (fun (h : (m20.1 10) = 0) => absurd h (by omega)), rfl⟩
  · skip
    replace h6 : LxP (m5.1 7) (m5.1 8) (m5.1 9) (m.1 6) (m5.1 10) := h6
    have hLx := h6
    clear h7
    replace h8 : (m.1 8) ≤ (m5.1 8) := h8
    clear h9
    have hf726 : 1 ≤ (m5.1 10) := by omega
    refine T_ld 5 (.ref 189) rfl (fun _ => rfl) ?_
    refine T_ld 7 (.int (i32 6)) rfl (fun _ => rfl) ?_
    refine T_gf 11 (.int (i32 (m.1 25))) rfl rfl rfl rfl (mfv_c (F := fun x => .int (i32 x)) rfl (show (m5.1 25) = (m.1 25) from (fr1 Fm5 25 rfl))) rfl ?_
    refine T_ld 13 (.int (i32 16)) rfl (fun _ => rfl) ?_
    refine T_call 16 225 [.ref 189, .int (i32 6), .int (i32 (m.1 25)), .int (i32 16)] [] rfl (fun _ => rfl) rfl (d_newName w (mO m5 [] []) c N D (by omega) Tm5 6 (m.1 25) 16 ⟨by decide, by decide⟩ (r32 (by omega) (by omega)) ⟨by decide, by decide⟩ (show LxP (m5.1 7) (m5.1 8) (m5.1 9) (m5.1 6) (m5.1 10) by rewrite [(show (m5.1 6) = (m.1 6) from (fr1 Fm5 6 rfl))]; first | exact hLx | (intro h9; exfalso; omega) | (intro h9; have h8 := hLx (by omega); omega)) (show ∀ k, (m5.2 14) k + (m5.2 15) k ≤ 4000 by rewrite [(show (m5.2 14) = (m.2 14) from (fr2 Fm5 14 rfl)), (show (m5.2 15) = (m.2 15) from (fr2 Fm5 15 rfl))]; first | exact p1 | exact hNM) (show (m5.1 10) = 0 → (m5.1 13) ≤ 119 by rewrite [(show (m5.1 13) = (m.1 13) from (fr1 Fm5 13 rfl))]; omega) (show 1 ≤ (6 : Int) ∧ (6 : Int) ≤ 7 by omega) (show 0 ≤ (m.1 25) ∧ ((m.1 25) ≠ (16 : Int) → (m.1 25) ≤ 15) by omega)) (fun rr727 k728 => ?_)
    obtain ⟨m729, nn, Tm729, Fm729, g730, h731, h732, h733, h734, h735, h736, h737, rfl⟩ := k728
    refine ⟨_, _, rfl, ?_⟩
    refine T_nb (st' := [.int (i32 nn)]) rfl ?_
    obtain ⟨g730a, g730b⟩ := g730
    have g738 : 0 ≤ m729.1 7 ∧ m729.1 7 ≤ 330 := Tm729.1 7
    have g739 : 0 ≤ m729.1 8 ∧ m729.1 8 ≤ 4000 := Tm729.1 8
    have g740 : 0 ≤ m729.1 9 ∧ m729.1 9 ≤ 4000 := Tm729.1 9
    have g741 : 0 ≤ m729.1 10 ∧ m729.1 10 ≤ 8 := Tm729.1 10
    have g742 : (-1) ≤ m729.1 11 ∧ m729.1 11 ≤ 4000 := Tm729.1 11
    have g743 : 0 ≤ m729.1 13 ∧ m729.1 13 ≤ 120 := Tm729.1 13
    replace h731 : LxP (m729.1 7) (m729.1 8) (m729.1 9) (m5.1 6) (m729.1 10) := h731
    rewrite [(show (m5.1 6) = (m.1 6) from (fr1 Fm5 6 rfl))] at h731
    replace h732 : (m5.1 8) ≤ (m729.1 8) := h732
    replace h733 : (m729.1 10) = 0 → (m5.1 10) = 0 ∧ (m5.1 8) + (m5.1 9) ≤ (m729.1 8) := h733
    replace h734 : (m729.1 10) = 0 → nn = 1 ∧ (m5.1 7) = 1 := h734
    replace h735 : nn = 1 → (m.1 25) ≠ (16 : Int) := h735
    replace h736 : ∀ k, (m729.2 14) k + (m729.2 15) k ≤ 4000 := h736
    replace h737 : (nn = 1 ∧ (m5.1 10) = 0 ∧ (m729.1 13) = (m5.1 13) + 1 ∧ (m729.2 14) = upI (m5.2 14) (m5.1 13) (m5.1 8) ∧ (m729.2 15) = upI (m5.2 15) (m5.1 13) (m5.1 9) ∧ (m729.2 16) = upI (m5.2 16) (m5.1 13) (6 : Int) ∧ (m729.2 17) = upI (m5.2 17) (m5.1 13) (m.1 25)) ∨ (nn = 0 ∧ 0 < (m729.1 10) ∧ (m729.1 13) = (m5.1 13) ∧ (m729.2 14) = (m5.2 14) ∧ (m729.2 15) = (m5.2 15) ∧ (m729.2 16) = (m5.2 16) ∧ (m729.2 17) = (m5.2 17)) := h737
    rewrite [(show (m5.1 13) = (m.1 13) from (fr1 Fm5 13 rfl)), (show (m5.2 14) = (m.2 14) from (fr2 Fm5 14 rfl)), (show (m5.2 15) = (m.2 15) from (fr2 Fm5 15 rfl)), (show (m5.2 16) = (m.2 16) from (fr2 Fm5 16 rfl)), (show (m5.2 17) = (m.2 17) from (fr2 Fm5 17 rfl))] at h737
    have hf744 : 1 ≤ (m729.1 10) := by omega
    clear h733
    clear h734
    have hLx := h731
    have hNM := h736
    have hN := h737
    clear g10 g11 g12 g13 g14 h6 h8 hf726 h732 h737
    refine T_if 20 19 rfl rfl rfl (r32 (by omega) (by omega)) (fun (h745 : nn ≠ 0) => ?_) (fun (h745 : ¬ (nn ≠ 0)) => ?_)
    · skip
      refine T_gf 24 (.int (i32 (m.1 25))) rfl rfl rfl rfl (mfv_c (F := fun x => .int (i32 x)) rfl (show (m729.1 25) = (m.1 25) from ((fr1 Fm729 25 rfl).trans (fr1 Fm5 25 rfl)))) rfl ?_
      refine T_sto 25 [(1, .int (i32 (m.1 25))), (0, .ref 189)] rfl (fun _ => rfl) ?_
      refine T_ld 26 (.ref 189) rfl (fun _ => rfl) ?_
      refine T_ld 27 (.ref 189) rfl (fun _ => rfl) ?_
      refine T_gf1 30 (.int (i32 (m.1 25))) rfl rfl (mfv_c (F := fun x => .int (i32 x)) rfl (show (m729.1 25) = (m.1 25) from ((fr1 Fm729 25 rfl).trans (fr1 Fm5 25 rfl)))) rfl ?_
      refine T_ld 31 (.int (i32 1)) rfl (fun _ => rfl) ?_
      refine T_iadd 32 rfl rfl ?_
      refine T_pf (l' := [(25, (m.1 25) + 1)]) 35 ((m.1 25) + 1) rfl rfl rfl rfl rfl rfl ?_
      have g746 : 0 ≤ (m.1 25) + 1 ∧ (m.1 25) + 1 ≤ 16 := ⟨by omega, by omega⟩
      refine T_gf 39 (.ref 269) rfl rfl rfl rfl rfl rfl ?_
      refine T_ld 40 (.int (i32 (m.1 25))) rfl (fun _ => rfl) ?_
      refine T_gf 44 (.int (i32 (m.1 99))) rfl rfl rfl rfl (mfv_c (F := fun x => .int (i32 x)) rfl (show (m729.1 99) = (m.1 99) from ((fr1 Fm729 99 rfl).trans (fr1 Fm5 99 rfl)))) rfl ?_
      have G747 : ∀ j, 0 ≤ (upI (m.2 109) (m.1 25) (m.1 99)) j ∧ (upI (m.2 109) (m.1 25) (m.1 99)) j ≤ 192 := upI_rg (hT.2.1 109) ⟨by omega, by omega⟩
      refine T_iast (a' := [(109, upI (m.2 109) (m.1 25) (m.1 99))]) 45 109 (m.2 109) rfl rfl rfl (by omega) (show (m.1 25) < (16 : Int) by omega) (show (m729.2 109) = (m.2 109) from ((fr2 Fm729 109 rfl).trans (fr2 Fm5 109 rfl))) rfl ?_
      refine T_gf 49 (.ref 216) rfl rfl rfl rfl rfl rfl ?_
      refine T_ld 50 (.int (i32 (m.1 25))) rfl (fun _ => rfl) ?_
      refine T_ld 51 (.int (i32 0)) rfl (fun _ => rfl) ?_
      have G748 : ∀ j, 0 ≤ (upI (m.2 46) (m.1 25) 0) j ∧ (upI (m.2 46) (m.1 25) 0) j ≤ 4 := upI_rg (hT.2.1 46) ⟨by omega, by omega⟩
      refine T_iast (a' := [(46, upI (m.2 46) (m.1 25) 0), (109, upI (m.2 109) (m.1 25) (m.1 99))]) 52 46 (m.2 46) rfl rfl rfl (by omega) (show (m.1 25) < (16 : Int) by omega) (show (m729.2 46) = (m.2 46) from ((fr2 Fm729 46 rfl).trans (fr2 Fm5 46 rfl))) rfl ?_
      refine T_gf 56 (.ref 220) rfl rfl rfl rfl rfl rfl ?_
      refine T_ld 57 (.int (i32 (m.1 25))) rfl (fun _ => rfl) ?_
      refine T_ld 58 (.int (i32 0)) rfl (fun _ => rfl) ?_
      have G749 : ∀ j, 0 ≤ (upI (m.2 50) (m.1 25) 0) j ∧ (upI (m.2 50) (m.1 25) 0) j ≤ 13 := upI_rg (hT.2.1 50) ⟨by omega, by omega⟩
      refine T_iast (a' := [(46, upI (m.2 46) (m.1 25) 0), (50, upI (m.2 50) (m.1 25) 0), (109, upI (m.2 109) (m.1 25) (m.1 99))]) 59 50 (m.2 50) rfl rfl rfl (by omega) (show (m.1 25) < (16 : Int) by omega) (show (m729.2 50) = (m.2 50) from ((fr2 Fm729 50 rfl).trans (fr2 Fm5 50 rfl))) rfl ?_
      refine T_ld 60 (.ref 189) rfl (fun _ => rfl) ?_
      refine T_ld 62 (.int (i32 40)) rfl (fun _ => rfl) ?_
      refine T_call 65 232 [.ref 189, .int (i32 40)] [] rfl (fun _ => rfl) rfl (d_need w (mO m729 [(25, (m.1 25) + 1)] [(46, upI (m.2 46) (m.1 25) 0), (50, upI (m.2 50) (m.1 25) 0), (109, upI (m.2 109) (m.1 25) (m.1 99))]) c N D (by omega) (Ty_mO Tm729 rfl rfl ⟨g746, trivial⟩ ⟨G748, G749, G747, trivial⟩) 40 ⟨by decide, by decide⟩ (show 1 ≤ (40 : Int) by omega) (show LxP (m729.1 7) (m729.1 8) (m729.1 9) (m729.1 6) (m729.1 10) by rewrite [(show (m729.1 6) = (m.1 6) from ((fr1 Fm729 6 rfl).trans (fr1 Fm5 6 rfl)))]; first | exact hLx | (intro h9; exfalso; omega) | (intro h9; have h8 := hLx (by omega); omega))) (fun rr750 k751 => ?_)
      obtain ⟨m752, Tm752, Fm752, h753, h754, h755, h756, rfl⟩ := k751
      refine ⟨_, _, rfl, ?_⟩
      refine T_nb (st' := []) rfl ?_
      have g757 : 0 ≤ m752.1 7 ∧ m752.1 7 ≤ 330 := Tm752.1 7
      have g758 : 0 ≤ m752.1 8 ∧ m752.1 8 ≤ 4000 := Tm752.1 8
      have g759 : 0 ≤ m752.1 9 ∧ m752.1 9 ≤ 4000 := Tm752.1 9
      have g760 : 0 ≤ m752.1 10 ∧ m752.1 10 ≤ 8 := Tm752.1 10
      have g761 : (-1) ≤ m752.1 11 ∧ m752.1 11 ≤ 4000 := Tm752.1 11
      replace h753 : LxP (m752.1 7) (m752.1 8) (m752.1 9) (m729.1 6) (m752.1 10) := h753
      rewrite [(show (m729.1 6) = (m.1 6) from ((fr1 Fm729 6 rfl).trans (fr1 Fm5 6 rfl)))] at h753
      replace h754 : (m752.1 10) = 0 → (m729.1 10) = 0 ∧ (m729.1 7) = (40 : Int) := h754
      replace h755 : (m729.1 8) ≤ (m752.1 8) := h755
      replace h756 : (m752.1 10) = 0 → (m729.1 8) + (m729.1 9) ≤ (m752.1 8) := h756
      have hf762 : 1 ≤ (m752.1 10) := by omega
      clear h754
      clear h756
      have hLx := h753
      clear g738 g739 g740 g741 g742 g730a g730b hf744 h731 h735 h745 h755
      refine T_gf 69 (.int (i32 (m752.1 10))) rfl rfl rfl rfl rfl rfl ?_
      refine T_if 85 72 rfl rfl rfl (r32 (by omega) (by omega)) (fun (h763 : (m752.1 10) ≠ 0) => ?_) (fun (h763 : ¬ ((m752.1 10) ≠ 0)) => by exfalso; omega)
      refine T_ld 86 (.int (i32 0)) rfl (fun _ => rfl) ?_
      refine T_sto 87 [(2, .int (i32 0)), (1, .int (i32 (m.1 25))), (0, .ref 189)] rfl (fun _ => rfl) ?_
      refine T_ld 88 (.int (i32 0)) rfl (fun _ => rfl) ?_
      refine T_if 136 91 rfl rfl rfl ⟨by decide, by decide⟩ (fun _ => ?_) (fun h764 => absurd (show (0 : Int) = 0 by decide) h764)
      refine T_ld 137 (.ref 189) rfl (fun _ => rfl) ?_
      refine T_ld 139 (.int (i32 41)) rfl (fun _ => rfl) ?_
      refine T_call 142 232 [.ref 189, .int (i32 41)] [] rfl (fun _ => rfl) rfl (d_need w (mO m752 [] []) c N D (by omega) Tm752 41 ⟨by decide, by decide⟩ (show 1 ≤ (41 : Int) by omega) (show LxP (m752.1 7) (m752.1 8) (m752.1 9) (m752.1 6) (m752.1 10) by rewrite [(show (m752.1 6) = (m.1 6) from ((fr1 Fm752 6 rfl).trans ((fr1 Fm729 6 rfl).trans (fr1 Fm5 6 rfl))))]; first | exact hLx | (intro h9; exfalso; omega) | (intro h9; have h8 := hLx (by omega); omega))) (fun rr765 k766 => ?_)
      obtain ⟨m767, Tm767, Fm767, h768, h769, h770, h771, rfl⟩ := k766
      refine ⟨_, _, rfl, ?_⟩
      refine T_nb (st' := []) rfl ?_
      have g772 : 0 ≤ m767.1 7 ∧ m767.1 7 ≤ 330 := Tm767.1 7
      have g773 : 0 ≤ m767.1 8 ∧ m767.1 8 ≤ 4000 := Tm767.1 8
      have g774 : 0 ≤ m767.1 9 ∧ m767.1 9 ≤ 4000 := Tm767.1 9
      have g775 : 0 ≤ m767.1 10 ∧ m767.1 10 ≤ 8 := Tm767.1 10
      have g776 : (-1) ≤ m767.1 11 ∧ m767.1 11 ≤ 4000 := Tm767.1 11
      replace h768 : LxP (m767.1 7) (m767.1 8) (m767.1 9) (m752.1 6) (m767.1 10) := h768
      rewrite [(show (m752.1 6) = (m.1 6) from ((fr1 Fm752 6 rfl).trans ((fr1 Fm729 6 rfl).trans (fr1 Fm5 6 rfl))))] at h768
      replace h769 : (m767.1 10) = 0 → (m752.1 10) = 0 ∧ (m752.1 7) = (41 : Int) := h769
      replace h770 : (m752.1 8) ≤ (m767.1 8) := h770
      replace h771 : (m767.1 10) = 0 → (m752.1 8) + (m752.1 9) ≤ (m767.1 8) := h771
      have hf777 : 1 ≤ (m767.1 10) := by omega
      clear h769
      clear h771
      have hLx := h768
      clear g757 g758 g759 g760 g761 hf762 h753 h763 h770
      refine T_ld 143 (.ref 189) rfl (fun _ => rfl) ?_
      refine T_ld 145 (.int (i32 123)) rfl (fun _ => rfl) ?_
      refine T_call 148 232 [.ref 189, .int (i32 123)] [] rfl (fun _ => rfl) rfl (d_need w (mO m767 [] []) c N D (by omega) Tm767 123 ⟨by decide, by decide⟩ (show 1 ≤ (123 : Int) by omega) (show LxP (m767.1 7) (m767.1 8) (m767.1 9) (m767.1 6) (m767.1 10) by rewrite [(show (m767.1 6) = (m.1 6) from ((fr1 Fm767 6 rfl).trans ((fr1 Fm752 6 rfl).trans ((fr1 Fm729 6 rfl).trans (fr1 Fm5 6 rfl)))))]; first | exact hLx | (intro h9; exfalso; omega) | (intro h9; have h8 := hLx (by omega); omega))) (fun rr778 k779 => ?_)
      obtain ⟨m780, Tm780, Fm780, h781, h782, h783, h784, rfl⟩ := k779
      refine ⟨_, _, rfl, ?_⟩
      refine T_nb (st' := []) rfl ?_
      have g785 : 0 ≤ m780.1 7 ∧ m780.1 7 ≤ 330 := Tm780.1 7
      have g786 : 0 ≤ m780.1 8 ∧ m780.1 8 ≤ 4000 := Tm780.1 8
      have g787 : 0 ≤ m780.1 9 ∧ m780.1 9 ≤ 4000 := Tm780.1 9
      have g788 : 0 ≤ m780.1 10 ∧ m780.1 10 ≤ 8 := Tm780.1 10
      have g789 : (-1) ≤ m780.1 11 ∧ m780.1 11 ≤ 4000 := Tm780.1 11
      replace h781 : LxP (m780.1 7) (m780.1 8) (m780.1 9) (m767.1 6) (m780.1 10) := h781
      rewrite [(show (m767.1 6) = (m.1 6) from ((fr1 Fm767 6 rfl).trans ((fr1 Fm752 6 rfl).trans ((fr1 Fm729 6 rfl).trans (fr1 Fm5 6 rfl)))))] at h781
      replace h782 : (m780.1 10) = 0 → (m767.1 10) = 0 ∧ (m767.1 7) = (123 : Int) := h782
      replace h783 : (m767.1 8) ≤ (m780.1 8) := h783
      replace h784 : (m780.1 10) = 0 → (m767.1 8) + (m767.1 9) ≤ (m780.1 8) := h784
      have hf790 : 1 ≤ (m780.1 10) := by omega
      clear h782
      clear h784
      have hLx := h781
      clear g772 g773 g774 g775 g776 hf777 h768 h783
      refine T_ld 149 (.ref 189) rfl (fun _ => rfl) ?_
      refine T_ld 150 (.int (i32 (m.1 25))) rfl (fun _ => rfl) ?_
      refine T_pf (l' := [(64, (m.1 25))]) 153 (m.1 25) rfl rfl rfl rfl rfl rfl ?_
      have g791 : (-1) ≤ (m.1 25) ∧ (m.1 25) ≤ 15 := ⟨by omega, by omega⟩
      refine T_gf 157 (.int (i32 (m780.1 10))) rfl rfl rfl rfl rfl rfl ?_
      refine T_if 211 160 rfl rfl rfl (r32 (by omega) (by omega)) (fun (h792 : (m780.1 10) ≠ 0) => ?_) (fun (h792 : ¬ ((m780.1 10) ≠ 0)) => by exfalso; omega)
      refine T_ld 212 (.ref 189) rfl (fun _ => rfl) ?_
      refine T_ld 213 (.int (i32 (-1))) rfl (fun _ => rfl) ?_
      refine T_pf (l' := [(64, (-1))]) 216 (-1) rfl rfl rfl rfl rfl rfl ?_
      refine T_ld 217 (.ref 189) rfl (fun _ => rfl) ?_
      refine T_ld 219 (.int (i32 125)) rfl (fun _ => rfl) ?_
      refine T_call 222 232 [.ref 189, .int (i32 125)] [] rfl (fun _ => rfl) rfl (d_need w (mO m780 [(64, (-1))] []) c N D (by omega) (Ty_mO Tm780 rfl rfl ⟨⟨(by omega : ((-1) : Int) ≤ (-1)), (by omega : ((-1) : Int) ≤ 15)⟩, trivial⟩ trivial) 125 ⟨by decide, by decide⟩ (show 1 ≤ (125 : Int) by omega) (show LxP (m780.1 7) (m780.1 8) (m780.1 9) (m780.1 6) (m780.1 10) by rewrite [(show (m780.1 6) = (m.1 6) from ((fr1 Fm780 6 rfl).trans ((fr1 Fm767 6 rfl).trans ((fr1 Fm752 6 rfl).trans ((fr1 Fm729 6 rfl).trans (fr1 Fm5 6 rfl))))))]; first | exact hLx | (intro h9; exfalso; omega) | (intro h9; have h8 := hLx (by omega); omega))) (fun rr793 k794 => ?_)
      obtain ⟨m795, Tm795, Fm795, h796, h797, h798, h799, rfl⟩ := k794
      refine ⟨_, _, rfl, ?_⟩
      refine T_nb (st' := []) rfl ?_
      have g800 : 0 ≤ m795.1 7 ∧ m795.1 7 ≤ 330 := Tm795.1 7
      have g801 : 0 ≤ m795.1 8 ∧ m795.1 8 ≤ 4000 := Tm795.1 8
      have g802 : 0 ≤ m795.1 9 ∧ m795.1 9 ≤ 4000 := Tm795.1 9
      have g803 : 0 ≤ m795.1 10 ∧ m795.1 10 ≤ 8 := Tm795.1 10
      have g804 : (-1) ≤ m795.1 11 ∧ m795.1 11 ≤ 4000 := Tm795.1 11
      replace h796 : LxP (m795.1 7) (m795.1 8) (m795.1 9) (m780.1 6) (m795.1 10) := h796
      rewrite [(show (m780.1 6) = (m.1 6) from ((fr1 Fm780 6 rfl).trans ((fr1 Fm767 6 rfl).trans ((fr1 Fm752 6 rfl).trans ((fr1 Fm729 6 rfl).trans (fr1 Fm5 6 rfl))))))] at h796
      replace h797 : (m795.1 10) = 0 → (m780.1 10) = 0 ∧ (m780.1 7) = (125 : Int) := h797
      replace h798 : (m780.1 8) ≤ (m795.1 8) := h798
      replace h799 : (m795.1 10) = 0 → (m780.1 8) + (m780.1 9) ≤ (m795.1 8) := h799
      have hf805 : 1 ≤ (m795.1 10) := by omega
      clear h797
      clear h799
      have hLx := h796
      clear g785 g786 g787 g788 g789 hf790 h781 h792 h798
      refine T_ret rfl (fun _ => rfl) ?_
      exact ⟨(mO m795 [] []), Tm795, (fr_m (fr_s Fm795 (fr_m (fr_s Fm780 (fr_m (fr_s Fm767 (fr_m (fr_s Fm752 (fr_m (fr_s Fm729 (fr_m (fr_s Fm5 (fr_m fr_0 rfl rfl) rfl rfl) rfl rfl) rfl rfl) rfl rfl) rfl rfl) rfl rfl) rfl rfl) rfl rfl) rfl rfl) rfl rfl) rfl rfl) rfl rfl), (show (m795.1 10) = 0 → (m.1 10) = 0 by omega), (show LxP (m795.1 7) (m795.1 8) (m795.1 9) (m.1 6) (m795.1 10) by first | (first | exact hLx | exact (fun _ => hLx (by omega)) | (intro h9; exfalso; omega)) | (exfalso; omega)), (show ∀ k, (m795.2 14) k + (m795.2 15) k ≤ 4000 by rewrite [(show (m795.2 14) = (m729.2 14) from ((fr2 Fm795 14 rfl).trans ((fr2 Fm780 14 rfl).trans ((fr2 Fm767 14 rfl).trans (fr2 Fm752 14 rfl))))), (show (m795.2 15) = (m729.2 15) from ((fr2 Fm795 15 rfl).trans ((fr2 Fm780 15 rfl).trans ((fr2 Fm767 15 rfl).trans (fr2 Fm752 15 rfl)))))]; first | (exact hNM) | (exfalso; omega)), (show ∀ k, (m795.2 47) k + (m795.2 48) k ≤ 4000 by rewrite [(show (m795.2 47) = (m.2 47) from ((fr2 Fm795 47 rfl).trans ((fr2 Fm780 47 rfl).trans ((fr2 Fm767 47 rfl).trans ((fr2 Fm752 47 rfl).trans ((fr2 Fm729 47 rfl).trans (fr2 Fm5 47 rfl))))))), (show (m795.2 48) = (m.2 48) from ((fr2 Fm795 48 rfl).trans ((fr2 Fm780 48 rfl).trans ((fr2 Fm767 48 rfl).trans ((fr2 Fm752 48 rfl).trans ((fr2 Fm729 48 rfl).trans (fr2 Fm5 48 rfl)))))))]; first | (exact hPA) | (exfalso; omega)), (fun (h : (m795.1 10) = 0) => absurd h (by omega)), rfl⟩
    · skip
      refine T_ret rfl (fun _ => rfl) ?_
      exact ⟨(mO m729 [] []), Tm729, (fr_m (fr_s Fm729 (fr_m (fr_s Fm5 (fr_m fr_0 rfl rfl) rfl rfl) rfl rfl) rfl rfl) rfl rfl), (show (m729.1 10) = 0 → (m.1 10) = 0 by omega), (show LxP (m729.1 7) (m729.1 8) (m729.1 9) (m.1 6) (m729.1 10) by first | (first | exact hLx | exact (fun _ => hLx (by omega)) | (intro h9; exfalso; omega)) | (exfalso; omega)), (show ∀ k, (m729.2 14) k + (m729.2 15) k ≤ 4000 by first | (exact hNM) | (exfalso; omega)), (show ∀ k, (m729.2 47) k + (m729.2 48) k ≤ 4000 by rewrite [(show (m729.2 47) = (m.2 47) from ((fr2 Fm729 47 rfl).trans (fr2 Fm5 47 rfl))), (show (m729.2 48) = (m.2 48) from ((fr2 Fm729 48 rfl).trans (fr2 Fm5 48 rfl)))]; first | (exact hPA) | (exfalso; omega)), (fun (h : (m729.1 10) = 0) => absurd h (by omega)), rfl⟩
