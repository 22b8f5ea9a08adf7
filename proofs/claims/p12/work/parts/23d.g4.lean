def fF_takeName : List Nat := [7, 8, 9, 10, 11, 12, 28, 69, 70, 71, 72, 75]
def fA_takeName : List Nat := [65, 66, 67, 68]
def Q_takeName (m : mR) (c : Nat → Option am_C) (N : Nat) (p : Int) (B : Int) (h : Int) : ag_Re af_T → Prop := fun R => ∃ (M : mR), Ty M ∧ fr fF_takeName fA_takeName m M ∧ ((M.1 10) = 0 → (m.1 10) = 0) ∧ (LxP (M.1 7) (M.1 8) (M.1 9) (m.1 6) (M.1 10)) ∧ (M.1 10 = 0 → ((m.1 8) + 1 ≤ (M.1 8)) ∧ ((M.1 75) = 1) ∧ ((M.1 69) ≤ 64) ∧ ((M.1 28) = (m.1 28) + 1) ∧ (EX (M.2 65) (M.2 67) B (M.1 28) (h + 1)) ∧ (agr (m.2 65) (M.2 65) (m.1 28))) ∧ R = (.inl (none), (mhp M c, N), 0, 0)
set_option maxHeartbeats 3000000 in
theorem c_takeName (w : wX) (m : mR) (c : Nat → Option am_C) (N D : Nat) (hD : 7 ≤ D) (hT : Ty m) (p : Int) (B : Int) (h : Int) (qp : R32 p) (hLx0 : LxP (m.1 7) (m.1 8) (m.1 9) (m.1 6) (m.1 10)) (hNM0 : ∀ k, (m.2 14) k + (m.2 15) k ≤ 4000) (hFA0 : ∀ k, (m.2 31) k + (m.2 32) k ≤ 4000) (hPA0 : ∀ k, (m.2 47) k + (m.2 48) k ≤ 4000) (p4 : 0 ≤ p ∧ p ≤ 4000) (hf0 : m.1 10 = 0) (hC : (PN (m.1 13) (m.1 19) (m.1 20) (m.1 21) (m.1 22) (m.1 23) (m.1 25) (m.1 26) (m.2 16) (m.2 17)) ∧ ((m.1 7) = 1) ∧ (EX (m.2 65) (m.2 67) B (m.1 28) h) ∧ (0 ≤ h)) : TC w D 251 [.ref 189, .int (i32 p)] (mhp m c, N) (Q_takeName m c N p B h) := by
  obtain ⟨D, rfl⟩ : ∃ k, D = k + 1 := ⟨D - 1, by omega⟩
  obtain ⟨qpa, qpb⟩ := id qp
  have hLx := hLx0
  have hNM := hNM0
  have hFA := hFA0
  have hPA := hPA0
  have f7 : 0 ≤ m.1 7 ∧ m.1 7 ≤ 330 := hT.1 7
  have f8 : 0 ≤ m.1 8 ∧ m.1 8 ≤ 4000 := hT.1 8
  have f9 : 0 ≤ m.1 9 ∧ m.1 9 ≤ 4000 := hT.1 9
  have f10 : 0 ≤ m.1 10 ∧ m.1 10 ≤ 8 := hT.1 10
  have f11 : (-1) ≤ m.1 11 ∧ m.1 11 ≤ 4000 := hT.1 11
  have f28 : 0 ≤ m.1 28 ∧ m.1 28 ≤ 800 := hT.1 28
  have f69 : 0 ≤ m.1 69 ∧ m.1 69 ≤ 1024 := hT.1 69
  have f75 : 0 ≤ m.1 75 ∧ m.1 75 ≤ 3 := hT.1 75
  have f25 : 0 ≤ m.1 25 ∧ m.1 25 ≤ 16 := hT.1 25
  have f22 : 0 ≤ m.1 22 ∧ m.1 22 ≤ 8 := hT.1 22
  have f19 : 0 ≤ m.1 19 ∧ m.1 19 ≤ 12 := hT.1 19
  have f20 : 0 ≤ m.1 20 ∧ m.1 20 ≤ 12 := hT.1 20
  have f21 : 0 ≤ m.1 21 ∧ m.1 21 ≤ 16 := hT.1 21
  have f13 : 0 ≤ m.1 13 ∧ m.1 13 ≤ 120 := hT.1 13
  have f6 : 0 ≤ m.1 6 ∧ m.1 6 ≤ 4000 := hT.1 6
  have f23 : 0 ≤ m.1 23 ∧ m.1 23 ≤ 16 := hT.1 23
  have f26 : 0 ≤ m.1 26 ∧ m.1 26 ≤ 8 := hT.1 26
  refine Tc_of rfl ?_
  show TT w D pm_251 (0, [(0, .ref 189), (1, .int (i32 p))], [], (mhp (mO m [] []) c, N), 0, 0) (Q_takeName m c N p B h)
  obtain ⟨pPN, c1, hEX, c2⟩ := hC
  have h7 := hLx (by omega)
  have pmt := pPN.2.1
  have J150_41 : ∀ (v35 : Int) (v36 : Int) (v37 : Int) (v38 : Int) (v39 : Int) (m40 : mR), (R32 v35) → (R32 v36) → (R32 v37) → (R32 v38) → (R32 v39) → Ty m40 → fr [7, 8, 9, 10, 11, 12, 28] [65, 66, 67, 68] (mO m [] []) m40 → ((-2147483648) ≤ v35) → (v35 ≤ 2147483647) → (0 ≤ v37) → (v37 ≤ 64) → (401 ≤ v38) → (v38 ≤ 403) → (1 ≤ (m40.1 10)) → TT w D pm_251 (150, [(0, .ref 189), (1, .int (i32 p)), (2, .int (i32 v35)), (3, .int (i32 v36)), (4, .int (i32 v37)), (5, .int (i32 v38)), (6, .int (i32 v39))], [], (mhp (mO m40 [] []) c, N), 0, 0) (Q_takeName m c N p B h) := by
    intro v35 v36 v37 v38 v39 m40 q49 q50 q51 q52 q53 Tm40 Fm40 ic42 ic43 ic44 ic45 ic46 ic47 ic48
    obtain ⟨q49a, q49b⟩ := id q49
    obtain ⟨q50a, q50b⟩ := id q50
    obtain ⟨q51a, q51b⟩ := id q51
    obtain ⟨q52a, q52b⟩ := id q52
    obtain ⟨q53a, q53b⟩ := id q53
    have q54_7 : 0 ≤ m40.1 7 ∧ m40.1 7 ≤ 330 := Tm40.1 7
    have q54_8 : 0 ≤ m40.1 8 ∧ m40.1 8 ≤ 4000 := Tm40.1 8
    have q54_9 : 0 ≤ m40.1 9 ∧ m40.1 9 ≤ 4000 := Tm40.1 9
    have q54_10 : 0 ≤ m40.1 10 ∧ m40.1 10 ≤ 8 := Tm40.1 10
    have q54_11 : (-1) ≤ m40.1 11 ∧ m40.1 11 ≤ 4000 := Tm40.1 11
    have q54_28 : 0 ≤ m40.1 28 ∧ m40.1 28 ≤ 800 := Tm40.1 28
    refine T_ld 151 (.ref 189) rfl (fun _ => rfl) ?_
    refine T_ld 153 (.int (i32 v37)) rfl (fun _ => rfl) ?_
    refine T_ld 154 (.int (i32 p)) rfl (fun _ => rfl) ?_
    refine T_call 157 249 [.ref 189, .int (i32 v37), .int (i32 p)] [] rfl (fun _ => rfl) rfl (c_atom w (mO m40 [] []) c N D (by omega) Tm40 v37 p (r32 (by omega) (by omega)) (r32 (by omega) (by omega)) (show 0 ≤ v37 ∧ v37 ≤ 64 by omega) (show 0 ≤ p ∧ p ≤ 4000 by omega)) (fun rr56 k57 => ?_)
    obtain ⟨m58, Tm58, Fm58, h59, rfl⟩ := k57
    refine ⟨_, _, rfl, ?_⟩
    refine T_nb (st' := []) rfl ?_
    have g60 : 0 ≤ m58.1 69 ∧ m58.1 69 ≤ 1024 := Tm58.1 69
    have g61 : 0 ≤ m58.1 75 ∧ m58.1 75 ≤ 3 := Tm58.1 75
    replace h59 : (m40.1 10) = 0 → (m58.1 75) = 1 ∧ (m58.1 69) = v37 := h59
    refine T_ret rfl (fun _ => rfl) ?_
    exact ⟨(mO m58 [] []), Tm58, (fr_m (fr_s Fm58 (fr_m (fr_s Fm40 (fr_m fr_0 rfl rfl) rfl rfl) rfl rfl) rfl rfl) rfl rfl), (show (m58.1 10) = 0 → (m.1 10) = 0 by rewrite [(show (m58.1 10) = (m40.1 10) from (fr1 Fm58 10 rfl))]; omega), (show LxP (m58.1 7) (m58.1 8) (m58.1 9) (m.1 6) (m58.1 10) by rewrite [(show (m58.1 7) = (m40.1 7) from (fr1 Fm58 7 rfl)), (show (m58.1 8) = (m40.1 8) from (fr1 Fm58 8 rfl)), (show (m58.1 9) = (m40.1 9) from (fr1 Fm58 9 rfl)), (show (m58.1 10) = (m40.1 10) from (fr1 Fm58 10 rfl))]; first | (first | exact hLx | exact (fun _ => hLx (by omega)) | (intro h9; exfalso; omega)) | (exfalso; omega)), (fun (h : (m58.1 10) = 0) => absurd ((show (m58.1 10) = (m40.1 10) from (fr1 Fm58 10 rfl)).symm.trans h) (by omega)), rfl⟩
  have J109_67 : ∀ (v62 : Int) (v63 : Int) (v64 : Int) (s65 : Int) (m66 : mR), (R32 v62) → (R32 v63) → (R32 v64) → (R32 s65) → Ty m66 → fr [7, 8, 9, 10, 11, 12] [] (mO m [] []) m66 → ((-2147483648) ≤ v62) → (v62 ≤ (-1)) → (2 ≤ v63) → (v63 ≤ 2) → (0 ≤ s65) → (s65 ≤ 191) → (1 ≤ (m66.1 10)) → TT w D pm_251 (109, [(0, .ref 189), (1, .int (i32 p)), (2, .int (i32 v62)), (3, .int (i32 v63)), (4, .int (i32 1)), (5, .int (i32 401)), (6, .int (i32 v64))], [.int (i32 s65)], (mhp (mO m66 [] []) c, N), 0, 0) (Q_takeName m c N p B h) := by
    intro v62 v63 v64 s65 m66 q75 q76 q77 q78 Tm66 Fm66 ic68 ic69 ic70 ic71 ic72 ic73 ic74
    obtain ⟨q75a, q75b⟩ := id q75
    obtain ⟨q76a, q76b⟩ := id q76
    obtain ⟨q77a, q77b⟩ := id q77
    obtain ⟨q78a, q78b⟩ := id q78
    have q79_7 : 0 ≤ m66.1 7 ∧ m66.1 7 ≤ 330 := Tm66.1 7
    have q79_8 : 0 ≤ m66.1 8 ∧ m66.1 8 ≤ 4000 := Tm66.1 8
    have q79_9 : 0 ≤ m66.1 9 ∧ m66.1 9 ≤ 4000 := Tm66.1 9
    have q79_10 : 0 ≤ m66.1 10 ∧ m66.1 10 ≤ 8 := Tm66.1 10
    have q79_11 : (-1) ≤ m66.1 11 ∧ m66.1 11 ≤ 4000 := Tm66.1 11
    refine T_sto 111 [(6, .int (i32 s65)), (0, .ref 189), (1, .int (i32 p)), (2, .int (i32 v62)), (3, .int (i32 v63)), (4, .int (i32 1)), (5, .int (i32 401))] rfl (fun _ => rfl) ?_
    refine T_gf 115 (.int (i32 (m66.1 10))) rfl rfl rfl rfl rfl rfl ?_
    refine T_if 139 118 rfl rfl rfl (r32 (by omega) (by omega)) (fun (h81 : (m66.1 10) ≠ 0) => ?_) (fun (h81 : ¬ ((m66.1 10) ≠ 0)) => by exfalso; omega)
    refine T_ld 140 (.ref 189) rfl (fun _ => rfl) ?_
    refine T_ld 142 (.int (i32 401)) rfl (fun _ => rfl) ?_
    refine T_ld 144 (.int (i32 1)) rfl (fun _ => rfl) ?_
    refine T_ld 146 (.int (i32 s65)) rfl (fun _ => rfl) ?_
    refine T_ld 147 (.long (i64 0)) rfl (fun _ => rfl) ?_
    refine T_call 150 248 [.ref 189, .int (i32 401), .int (i32 1), .int (i32 s65), .long (i64 0)] [] rfl (fun _ => rfl) rfl (c_node w (mO m66 [] []) c N D (by omega) Tm66 401 1 s65 0 B h ⟨by decide, by decide⟩ ⟨by decide, by decide⟩ (r32 (by omega) (by omega)) ⟨by decide, by decide⟩ (fun (h : (m66.1 10) = 0) => absurd h (by omega))) (fun rr82 k83 => ?_)
    obtain ⟨m84, Tm84, Fm84, h85, c86, rfl⟩ := k83
    refine ⟨_, _, rfl, ?_⟩
    refine T_nb (st' := []) rfl ?_
    have g87 : 0 ≤ m84.1 10 ∧ m84.1 10 ≤ 8 := Tm84.1 10
    have g88 : (-1) ≤ m84.1 11 ∧ m84.1 11 ≤ 4000 := Tm84.1 11
    have g89 : 0 ≤ m84.1 28 ∧ m84.1 28 ≤ 800 := Tm84.1 28
    replace h85 : (m84.1 10) = 0 → (m66.1 10) = 0 := h85
    have hf90 : 1 ≤ (m84.1 10) := by omega
    clear c86
    clear h85
    clear q77a q77b q77 q79_10 q79_11 ic74 h81
    refine Tm_lv (a := [(0, .ref 189), (1, .int (i32 p)), (2, .int (i32 v62)), (3, .int (i32 v63)), (4, .int (i32 1)), (5, .int (i32 401)), (6, .int (i32 s65))]) rfl rfl ⟨rfl, rfl, rfl, rfl, rfl, rfl, rfl, trivial⟩ ?_
    exact J150_41 v62 v63 1 401 s65 (mO m84 [] []) (r32 (by omega) (by omega)) (r32 (by omega) (by omega)) ⟨by decide, by decide⟩ ⟨by decide, by decide⟩ (r32 (by omega) (by omega)) Tm84 (fr_m (fr_s Fm84 (fr_m (fr_s Fm66 (fr_m fr_0 rfl rfl) rfl rfl) rfl rfl) rfl rfl) rfl rfl) (show (-2147483648) ≤ v62 by omega) (show v62 ≤ 2147483647 by omega) (show 0 ≤ (1 : Int) by omega) (show (1 : Int) ≤ 64 by omega) (show 401 ≤ (401 : Int) by omega) (show (401 : Int) ≤ 403 by omega) (show 1 ≤ (m84.1 10) by omega)
  have J103_95 : ∀ (v91 : Int) (v92 : Int) (v93 : Int) (m94 : mR), (R32 v91) → (R32 v92) → (R32 v93) → Ty m94 → fr [7, 8, 9, 10, 11, 12] [] (mO m [] []) m94 → ((-2147483648) ≤ v91) → (v91 ≤ (-1)) → (2 ≤ v92) → (v92 ≤ 2) → (0 ≤ v93 ∧ v93 ≤ 11) → (1 ≤ (m94.1 10)) → TT w D pm_251 (103, [(0, .ref 189), (1, .int (i32 p)), (2, .int (i32 v91)), (3, .int (i32 v92)), (4, .int (i32 1)), (5, .int (i32 401)), (6, .int (i32 v93))], [], (mhp (mO m94 [] []) c, N), 0, 0) (Q_takeName m c N p B h) := by
    intro v91 v92 v93 m94 q102 q103 q104 Tm94 Fm94 ic96 ic97 ic98 ic99 ic100 ic101
    obtain ⟨q102a, q102b⟩ := id q102
    obtain ⟨q103a, q103b⟩ := id q103
    obtain ⟨q104a, q104b⟩ := id q104
    have q105_7 : 0 ≤ m94.1 7 ∧ m94.1 7 ≤ 330 := Tm94.1 7
    have q105_8 : 0 ≤ m94.1 8 ∧ m94.1 8 ≤ 4000 := Tm94.1 8
    have q105_9 : 0 ≤ m94.1 9 ∧ m94.1 9 ≤ 4000 := Tm94.1 9
    have q105_10 : 0 ≤ m94.1 10 ∧ m94.1 10 ≤ 8 := Tm94.1 10
    have q105_11 : (-1) ≤ m94.1 11 ∧ m94.1 11 ≤ 4000 := Tm94.1 11
    refine T_ld 104 (.ref 189) rfl (fun _ => rfl) ?_
    refine T_ld 106 (.int (i32 v93)) rfl (fun _ => rfl) ?_
    refine T_call 109 253 [.ref 189, .int (i32 v93)] [] rfl (fun _ => rfl) rfl (c_takeField w (mO m94 [] []) c N D (by omega) Tm94 v93 (r32 (by omega) (by omega)) (show LxP (m94.1 7) (m94.1 8) (m94.1 9) (m94.1 6) (m94.1 10) by rewrite [(show (m94.1 6) = (m.1 6) from (fr1 Fm94 6 rfl))]; first | exact hLx | exact (fun _ => hLx (by omega)) | (intro h9; exfalso; omega)) (show ∀ k, (m94.2 31) k + (m94.2 32) k ≤ 4000 by rewrite [(show (m94.2 31) = (m.2 31) from (fr2 Fm94 31 rfl)), (show (m94.2 32) = (m.2 32) from (fr2 Fm94 32 rfl))]; assumption) (show 0 ≤ v93 ∧ v93 ≤ 11 by omega) (fun (h : (m94.1 10) = 0) => absurd h (by omega))) (fun rr107 k108 => ?_)
    obtain ⟨m109, tf, Tm109, Fm109, g110, h111, h112, c113, rfl⟩ := k108
    refine ⟨_, _, rfl, ?_⟩
    refine T_nb (st' := [.int (i32 tf)]) rfl ?_
    obtain ⟨g110a, g110b⟩ := g110
    have g114 : 0 ≤ m109.1 7 ∧ m109.1 7 ≤ 330 := Tm109.1 7
    have g115 : 0 ≤ m109.1 8 ∧ m109.1 8 ≤ 4000 := Tm109.1 8
    have g116 : 0 ≤ m109.1 9 ∧ m109.1 9 ≤ 4000 := Tm109.1 9
    have g117 : 0 ≤ m109.1 10 ∧ m109.1 10 ≤ 8 := Tm109.1 10
    have g118 : (-1) ≤ m109.1 11 ∧ m109.1 11 ≤ 4000 := Tm109.1 11
    replace h111 : (m109.1 10) = 0 → (m94.1 10) = 0 := h111
    replace h112 : LxP (m109.1 7) (m109.1 8) (m109.1 9) (m94.1 6) (m109.1 10) := h112
    rewrite [(show (m94.1 6) = (m.1 6) from (fr1 Fm94 6 rfl))] at h112
    have hf119 : 1 ≤ (m109.1 10) := by omega
    clear c113
    clear h111
    have hLx := h112
    clear q105_7 q105_8 q105_9 q105_10 q105_11 ic101
    exact J109_67 v91 v92 v93 tf (mO m109 [] []) (r32 (by omega) (by omega)) (r32 (by omega) (by omega)) (r32 (by omega) (by omega)) (r32 (by omega) (by omega)) Tm109 (fr_m (fr_s Fm109 (fr_m (fr_s Fm94 (fr_m fr_0 rfl rfl) rfl rfl) rfl rfl) rfl rfl) rfl rfl) (show (-2147483648) ≤ v91 by omega) (show v91 ≤ (-1) by omega) (show 2 ≤ v92 by omega) (show v92 ≤ 2 by omega) (show 0 ≤ tf by omega) (show tf ≤ 191 by omega) (show 1 ≤ (m109.1 10) by omega)
  refine T_ld 1 (.ref 189) rfl (fun _ => rfl) ?_
  refine T_call 4 252 [.ref 189] [] rfl (fun _ => rfl) rfl (c_parameterHere w (mO m [] []) c N D (by omega) hT (show 1 ≤ (m.1 9) ∧ (m.1 8) + (m.1 9) ≤ (m.1 6) by first | omega | (have h8 := hLx (by omega); omega)) (show ∀ k, (m.2 47) k + (m.2 48) k ≤ 4000 by exact hPA)) (fun rr120 k121 => ?_)
  obtain ⟨pq, g122, h123, rfl⟩ := k121
  refine ⟨_, _, rfl, ?_⟩
  refine T_ns (st' := [.int (i32 pq)]) rfl ?_
  obtain ⟨g122a, g122b⟩ := g122
  replace h123 : -1 ≤ pq ∧ pq ≤ 63 := h123
  have u124 : (m.1 8) ≤ (m.1 8) := by omega
  refine T_sto 5 [(2, .int (i32 pq)), (0, .ref 189), (1, .int (i32 p))] rfl (fun _ => rfl) ?_
  refine T_ld 6 (.ref 189) rfl (fun _ => rfl) ?_
  refine T_call 9 227 [.ref 189] [] rfl (fun _ => rfl) rfl (d_sortHere w (mO m [] []) c N D (by omega) hT (show 1 ≤ (m.1 9) ∧ (m.1 8) + (m.1 9) ≤ (m.1 6) by first | omega | (have h8 := hLx (by omega); omega)) (show ∀ k, (m.2 14) k + (m.2 15) k ≤ 4000 by first | exact hNM | exact p1)) (fun rr125 k126 => ?_)
  obtain ⟨so, g127, h128, h129, rfl⟩ := k126
  refine ⟨_, _, rfl, ?_⟩
  refine T_ns (st' := [.int (i32 so)]) rfl ?_
  obtain ⟨g127a, g127b⟩ := g127
  replace h128 : ∃ g k, isGH (m.2 4) (m.1 8) (m.1 9) g ∧ (g < 0 → isFH (m.2 4) (m.2 14) (m.2 15) (m.1 8) (m.1 9) (m.1 13) k) ∧ so = sortV (m.2 16) g k := h128
  have hSo := h128
  replace h129 : -1 ≤ so ∧ so ≤ 7 := h129
  have u130 : (m.1 8) ≤ (m.1 8) := by omega
  refine T_sto 10 [(3, .int (i32 so)), (2, .int (i32 pq)), (0, .ref 189), (1, .int (i32 p))] rfl (fun _ => rfl) ?_
  refine T_ld 11 (.int (i32 1)) rfl (fun _ => rfl) ?_
  refine T_sto 13 [(4, .int (i32 1)), (3, .int (i32 so)), (2, .int (i32 pq)), (0, .ref 189), (1, .int (i32 p))] rfl (fun _ => rfl) ?_
  refine T_ld 16 (.int (i32 403)) rfl (fun _ => rfl) ?_
  refine T_sto 18 [(5, .int (i32 403)), (4, .int (i32 1)), (3, .int (i32 so)), (2, .int (i32 pq)), (0, .ref 189), (1, .int (i32 p))] rfl (fun _ => rfl) ?_
  refine T_ld 19 (.int (i32 0)) rfl (fun _ => rfl) ?_
  refine T_sto 21 [(6, .int (i32 0)), (5, .int (i32 403)), (4, .int (i32 1)), (3, .int (i32 so)), (2, .int (i32 pq)), (0, .ref 189), (1, .int (i32 p))] rfl (fun _ => rfl) ?_
  refine T_ld 22 (.int (i32 pq)) rfl (fun _ => rfl) ?_
  refine T_if 45 25 rfl rfl rfl (r32 (by omega) (by omega)) (fun (h131 : pq < 0) => ?_) (fun (h131 : ¬ (pq < 0)) => ?_)
  · skip
    refine T_ld 46 (.int (i32 so)) rfl (fun _ => rfl) ?_
    refine T_ld 47 (.int (i32 3)) rfl (fun _ => rfl) ?_
    refine T_icmp 77 50 rfl rfl rfl (r32 (by omega) (by omega)) ⟨by decide, by decide⟩ (fun (h132 : so ≠ 3) => ?_) (fun (h132 : ¬ (so ≠ 3)) => ?_)
    · skip
      refine T_ld 78 (.int (i32 so)) rfl (fun _ => rfl) ?_
      refine T_ld 79 (.int (i32 2)) rfl (fun _ => rfl) ?_
      refine T_icmp 129 82 rfl rfl rfl (r32 (by omega) (by omega)) ⟨by decide, by decide⟩ (fun (h133 : so ≠ 2) => ?_) (fun (h133 : ¬ (so ≠ 2)) => ?_)
      · skip
        refine T_ld 130 (.ref 189) rfl (fun _ => rfl) ?_
        refine T_ld 132 (.int (i32 6)) rfl (fun _ => rfl) ?_
        refine T_gf 136 (.int (i32 (m.1 8))) rfl rfl rfl rfl rfl rfl ?_
        refine T_call 139 222 [.ref 189, .int (i32 6), .int (i32 (m.1 8))] [] rfl (fun _ => rfl) rfl (d_wrong w (mO m [] []) c N D (by omega) hT 6 (m.1 8) ⟨by decide, by decide⟩ (r32 (by omega) (by omega)) (show 1 ≤ (6 : Int) ∧ (6 : Int) ≤ 8 by omega) (show 0 ≤ (m.1 8) ∧ (m.1 8) ≤ 4000 by omega)) (fun rr134 k135 => ?_)
        obtain ⟨m136, Tm136, Fm136, h137, rfl⟩ := k135
        refine ⟨_, _, rfl, ?_⟩
        refine T_nb (st' := []) rfl ?_
        have g138 : 0 ≤ m136.1 10 ∧ m136.1 10 ≤ 8 := Tm136.1 10
        have g139 : (-1) ≤ m136.1 11 ∧ m136.1 11 ≤ 4000 := Tm136.1 11
        replace h137 : (0 < (m.1 10) → (m136.1 10) = (m.1 10) ∧ (m136.1 11) = (m.1 11)) ∧ ((m.1 10) ≤ 0 → (m136.1 10) = (6 : Int) ∧ (m136.1 11) = (m.1 8)) := h137
        have hf140 : 1 ≤ (m136.1 10) := by omega
        refine T_ld 140 (.ref 189) rfl (fun _ => rfl) ?_
        refine T_ld 142 (.int (i32 403)) rfl (fun _ => rfl) ?_
        refine T_ld 144 (.int (i32 1)) rfl (fun _ => rfl) ?_
        refine T_ld 146 (.int (i32 0)) rfl (fun _ => rfl) ?_
        refine T_ld 147 (.long (i64 0)) rfl (fun _ => rfl) ?_
        refine T_call 150 248 [.ref 189, .int (i32 403), .int (i32 1), .int (i32 0), .long (i64 0)] [] rfl (fun _ => rfl) rfl (c_node w (mO m136 [] []) c N D (by omega) Tm136 403 1 0 0 B h ⟨by decide, by decide⟩ ⟨by decide, by decide⟩ ⟨by decide, by decide⟩ ⟨by decide, by decide⟩ (fun (h : (m136.1 10) = 0) => absurd h (by omega))) (fun rr141 k142 => ?_)
        obtain ⟨m143, Tm143, Fm143, h144, c145, rfl⟩ := k142
        refine ⟨_, _, rfl, ?_⟩
        refine T_nb (st' := []) rfl ?_
        have g146 : 0 ≤ m143.1 10 ∧ m143.1 10 ≤ 8 := Tm143.1 10
        have g147 : (-1) ≤ m143.1 11 ∧ m143.1 11 ≤ 4000 := Tm143.1 11
        have g148 : 0 ≤ m143.1 28 ∧ m143.1 28 ≤ 800 := Tm143.1 28
        replace h144 : (m143.1 10) = 0 → (m136.1 10) = 0 := h144
        have hf149 : 1 ≤ (m143.1 10) := by omega
        clear c145
        clear h144
        clear g138 g139 hf140 h137
        refine Tm_lv (a := [(0, .ref 189), (1, .int (i32 p)), (2, .int (i32 pq)), (3, .int (i32 so)), (4, .int (i32 1)), (5, .int (i32 403)), (6, .int (i32 0))]) rfl rfl ⟨rfl, rfl, rfl, rfl, rfl, rfl, rfl, trivial⟩ ?_
        exact J150_41 pq so 1 403 0 (mO m143 [] []) (r32 (by omega) (by omega)) (r32 (by omega) (by omega)) ⟨by decide, by decide⟩ ⟨by decide, by decide⟩ ⟨by decide, by decide⟩ Tm143 (fr_m (fr_s Fm143 (fr_m (fr_s Fm136 (fr_m fr_0 rfl rfl) rfl rfl) rfl rfl) rfl rfl) rfl rfl) (show (-2147483648) ≤ pq by omega) (show pq ≤ 2147483647 by omega) (show 0 ≤ (1 : Int) by omega) (show (1 : Int) ≤ 64 by omega) (show 401 ≤ (403 : Int) by omega) (show (403 : Int) ≤ 403 by omega) (show 1 ≤ (m143.1 10) by omega)
      · skip
        refine T_ld 85 (.int (i32 401)) rfl (fun _ => rfl) ?_
        refine T_sto 87 [(5, .int (i32 401)), (6, .int (i32 0)), (4, .int (i32 1)), (3, .int (i32 so)), (2, .int (i32 pq)), (0, .ref 189), (1, .int (i32 p))] rfl (fun _ => rfl) ?_
        refine T_ld 88 (.ref 189) rfl (fun _ => rfl) ?_
        refine T_call 91 237 [.ref 189] [] rfl (fun _ => rfl) rfl (d_whichHere w (mO m [] []) c N D (by omega) hT (show 1 ≤ (m.1 9) ∧ (m.1 8) + (m.1 9) ≤ (m.1 6) by first | omega | (have h8 := hLx (by omega); omega)) (show ∀ k, (m.2 14) k + (m.2 15) k ≤ 4000 by first | exact hNM | exact p1) (show ∀ g k, isGH (m.2 4) (m.1 8) (m.1 9) g → g < 0 → isFH (m.2 4) (m.2 14) (m.2 15) (m.1 8) (m.1 9) (m.1 13) k → 0 ≤ k by exact old_ok hSo (by omega))) (fun rr150 k151 => ?_)
        obtain ⟨wi, g152, h153, rfl⟩ := k151
        refine ⟨_, _, rfl, ?_⟩
        refine T_ns (st' := [.int (i32 wi)]) rfl ?_
        obtain ⟨g152a, g152b⟩ := g152
        replace h153 : ∃ g k, isGH (m.2 4) (m.1 8) (m.1 9) g ∧ (g < 0 → isFH (m.2 4) (m.2 14) (m.2 15) (m.1 8) (m.1 9) (m.1 13) k) ∧ wi = whichV (m.2 17) g k := h153
        have hWi := h153
        have u154 : (m.1 8) ≤ (m.1 8) := by omega
        obtain ⟨hw0, hw1⟩ : 0 ≤ wi ∧ wi < (m.1 20) := old_rg hSo hWi (by omega) (by omega) (by omega) (PNl_2 pPN) (by omega)
        refine T_sto 93 [(6, .int (i32 wi)), (5, .int (i32 401)), (4, .int (i32 1)), (3, .int (i32 so)), (2, .int (i32 pq)), (0, .ref 189), (1, .int (i32 p))] rfl (fun _ => rfl) ?_
        refine T_ld 94 (.ref 189) rfl (fun _ => rfl) ?_
        refine T_call 97 212 [.ref 189] [] rfl (fun _ => rfl) rfl (d_next w (mO m [] []) c N D (by omega) hT (show (m.1 10) = 0 → (m.1 8) + (m.1 9) ≤ (m.1 6) by first | omega | (intro h9; have h8 := hLx h9; omega))) (fun rr155 k156 => ?_)
        obtain ⟨m157, Tm157, Fm157, h158, h159, h160, h161, rfl⟩ := k156
        refine ⟨_, _, rfl, ?_⟩
        refine T_nb (st' := []) rfl ?_
        have g162 : 0 ≤ m157.1 7 ∧ m157.1 7 ≤ 330 := Tm157.1 7
        have g163 : 0 ≤ m157.1 8 ∧ m157.1 8 ≤ 4000 := Tm157.1 8
        have g164 : 0 ≤ m157.1 9 ∧ m157.1 9 ≤ 4000 := Tm157.1 9
        have g165 : 0 ≤ m157.1 10 ∧ m157.1 10 ≤ 8 := Tm157.1 10
        have g166 : (-1) ≤ m157.1 11 ∧ m157.1 11 ≤ 4000 := Tm157.1 11
        by_cases hf167 : (m157.1 10) = 0
        · skip
          replace h158 : LxP (m157.1 7) (m157.1 8) (m157.1 9) (m.1 6) (m157.1 10) := h158
          have hLx := h158
          replace h159 : (m.1 10) = 0 := h159 hf167
          replace h160 : (m.1 8) ≤ (m157.1 8) := h160
          replace h161 : (m.1 8) + (m.1 9) ≤ (m157.1 8) := h161 hf167
          have u168 : (m.1 8) + 1 ≤ (m157.1 8) := by omega
          refine T_ld 98 (.ref 189) rfl (fun _ => rfl) ?_
          refine T_ld 100 (.int (i32 46)) rfl (fun _ => rfl) ?_
          refine T_call 103 232 [.ref 189, .int (i32 46)] [] rfl (fun _ => rfl) rfl (d_need w (mO m157 [] []) c N D (by omega) Tm157 46 ⟨by decide, by decide⟩ (show 1 ≤ (46 : Int) by omega) (show LxP (m157.1 7) (m157.1 8) (m157.1 9) (m157.1 6) (m157.1 10) by rewrite [(show (m157.1 6) = (m.1 6) from (fr1 Fm157 6 rfl))]; first | exact hLx | (intro h9; exfalso; omega) | (intro h9; have h8 := hLx (by omega); omega))) (fun rr169 k170 => ?_)
          obtain ⟨m171, Tm171, Fm171, h172, h173, h174, h175, rfl⟩ := k170
          refine ⟨_, _, rfl, ?_⟩
          refine T_nb (st' := []) rfl ?_
          have g176 : 0 ≤ m171.1 7 ∧ m171.1 7 ≤ 330 := Tm171.1 7
          have g177 : 0 ≤ m171.1 8 ∧ m171.1 8 ≤ 4000 := Tm171.1 8
          have g178 : 0 ≤ m171.1 9 ∧ m171.1 9 ≤ 4000 := Tm171.1 9
          have g179 : 0 ≤ m171.1 10 ∧ m171.1 10 ≤ 8 := Tm171.1 10
          have g180 : (-1) ≤ m171.1 11 ∧ m171.1 11 ≤ 4000 := Tm171.1 11
          by_cases hf181 : (m171.1 10) = 0
          · skip
            replace h172 : LxP (m171.1 7) (m171.1 8) (m171.1 9) (m157.1 6) (m171.1 10) := h172
            rewrite [(show (m157.1 6) = (m.1 6) from (fr1 Fm157 6 rfl))] at h172
            have hLx := h172
            replace h173 : (m157.1 10) = 0 ∧ (m157.1 7) = (46 : Int) := h173 hf181
            replace h174 : (m157.1 8) ≤ (m171.1 8) := h174
            replace h175 : (m157.1 8) + (m157.1 9) ≤ (m171.1 8) := h175 hf181
            have u182 : (m.1 8) + 1 ≤ (m171.1 8) := by omega
            clear g162 g163 g164 g165 g166 h158 h160 h161 u168 h173 h174 h175
            refine T_ld 104 (.ref 189) rfl (fun _ => rfl) ?_
            refine T_ld 106 (.int (i32 wi)) rfl (fun _ => rfl) ?_
            refine T_call 109 253 [.ref 189, .int (i32 wi)] [] rfl (fun _ => rfl) rfl (c_takeField w (mO m171 [] []) c N D (by omega) Tm171 wi (r32 (by omega) (by omega)) (show LxP (m171.1 7) (m171.1 8) (m171.1 9) (m171.1 6) (m171.1 10) by rewrite [(show (m171.1 6) = (m.1 6) from ((fr1 Fm171 6 rfl).trans (fr1 Fm157 6 rfl)))]; first | exact hLx | exact (fun _ => hLx (by omega)) | (intro h9; exfalso; omega)) (show ∀ k, (m171.2 31) k + (m171.2 32) k ≤ 4000 by rewrite [(show (m171.2 31) = (m.2 31) from ((fr2 Fm171 31 rfl).trans (fr2 Fm157 31 rfl))), (show (m171.2 32) = (m.2 32) from ((fr2 Fm171 32 rfl).trans (fr2 Fm157 32 rfl)))]; assumption) (show 0 ≤ wi ∧ wi ≤ 11 by omega) (fun _ => trivial)) (fun rr183 k184 => ?_)
            obtain ⟨m185, tf, Tm185, Fm185, g186, h187, h188, c189, rfl⟩ := k184
            refine ⟨_, _, rfl, ?_⟩
            refine T_nb (st' := [.int (i32 tf)]) rfl ?_
            obtain ⟨g186a, g186b⟩ := g186
            have g190 : 0 ≤ m185.1 7 ∧ m185.1 7 ≤ 330 := Tm185.1 7
            have g191 : 0 ≤ m185.1 8 ∧ m185.1 8 ≤ 4000 := Tm185.1 8
            have g192 : 0 ≤ m185.1 9 ∧ m185.1 9 ≤ 4000 := Tm185.1 9
            have g193 : 0 ≤ m185.1 10 ∧ m185.1 10 ≤ 8 := Tm185.1 10
            have g194 : (-1) ≤ m185.1 11 ∧ m185.1 11 ≤ 4000 := Tm185.1 11
            by_cases hf195 : (m185.1 10) = 0
            · skip
              replace h187 : (m171.1 10) = 0 := h187 hf195
              replace h188 : LxP (m185.1 7) (m185.1 8) (m185.1 9) (m171.1 6) (m185.1 10) := h188
              rewrite [(show (m171.1 6) = (m.1 6) from ((fr1 Fm171 6 rfl).trans (fr1 Fm157 6 rfl)))] at h188
              have hLx := h188
              obtain ⟨c196, c197⟩ := c189 hf195
              replace c196 : (m171.1 8) + 1 ≤ (m185.1 8) := c196
              replace c197 : (m171.1 7) = 1 := c197
              clear c189
              have u198 : (m.1 8) + 1 ≤ (m185.1 8) := by omega
              clear g176 g177 g178 g179 g180 h172 u182 h187 c196 c197
              refine T_sto 111 [(6, .int (i32 tf)), (5, .int (i32 401)), (4, .int (i32 1)), (3, .int (i32 so)), (2, .int (i32 pq)), (0, .ref 189), (1, .int (i32 p))] rfl (fun _ => rfl) ?_
              refine T_gf 115 (.int (i32 (m185.1 10))) rfl rfl rfl rfl rfl rfl ?_
              refine T_if 139 118 rfl rfl rfl (r32 (by omega) (by omega)) (fun (h199 : (m185.1 10) ≠ 0) => by exfalso; omega) (fun (h199 : ¬ ((m185.1 10) ≠ 0)) => ?_)
              refine T_ld 119 (.ref 189) rfl (fun _ => rfl) ?_
              refine T_ld 121 (.int (i32 tf)) rfl (fun _ => rfl) ?_
              refine T_call 124 254 [.ref 189, .int (i32 tf)] [] rfl (fun _ => rfl) rfl (c_bitsOfField w (mO m185 [] []) c N D (by omega) Tm185 tf (r32 (by omega) (by omega)) (show 0 ≤ tf ∧ tf ≤ 191 by omega)) (fun rr200 k201 => ?_)
              obtain ⟨x202, g203, rfl⟩ := k201
              refine ⟨_, _, rfl, ?_⟩
              refine T_ns (st' := [.int (i32 x202)]) rfl ?_
              obtain ⟨g203a, g203b⟩ := g203
              have u204 : (m.1 8) + 1 ≤ (m185.1 8) := by omega
              clear g152a g152b h153
              refine T_sto 126 [(4, .int (i32 x202)), (6, .int (i32 tf)), (5, .int (i32 401)), (3, .int (i32 so)), (2, .int (i32 pq)), (0, .ref 189), (1, .int (i32 p))] rfl (fun _ => rfl) ?_
              refine T_goto 139 rfl (fun _ => rfl) ?_
              have hA : ar (401 : Int) = 0 := ar_0 (by omega)
              have hAr : ar (401 : Int) ≤ h := by omega
              have hCk : CNk (401 : Int) tf := by refine ⟨?_, ?_, ?_, ?_⟩ <;> omega
              refine T_ld 140 (.ref 189) rfl (fun _ => rfl) ?_
              refine T_ld 142 (.int (i32 401)) rfl (fun _ => rfl) ?_
              refine T_ld 144 (.int (i32 x202)) rfl (fun _ => rfl) ?_
              refine T_ld 146 (.int (i32 tf)) rfl (fun _ => rfl) ?_
              refine T_ld 147 (.long (i64 0)) rfl (fun _ => rfl) ?_
              refine T_call 150 248 [.ref 189, .int (i32 401), .int (i32 x202), .int (i32 tf), .long (i64 0)] [] rfl (fun _ => rfl) rfl (c_node w (mO m185 [] []) c N D (by omega) Tm185 401 x202 tf 0 B h ⟨by decide, by decide⟩ (r32 (by omega) (by omega)) (r32 (by omega) (by omega)) ⟨by decide, by decide⟩ (fun _ => ⟨(show 0 ≤ (401 : Int) ∧ (401 : Int) ≤ 408 by first | omega | decide), (show 0 ≤ x202 ∧ x202 ≤ 64 by first | omega | decide), (show 0 ≤ tf ∧ tf ≤ 191 by first | omega | decide), (show CNk (401 : Int) tf by first | exact hCk | (refine ⟨?_, ?_, ?_, ?_⟩ <;> omega)), (show ar (401 : Int) ≤ h by first | exact hAr | omega), (show EX (m185.2 65) (m185.2 67) B (m185.1 28) h by rewrite [(show (m185.2 65) = (m.2 65) from ((fr2 Fm185 65 rfl).trans ((fr2 Fm171 65 rfl).trans (fr2 Fm157 65 rfl)))), (show (m185.2 67) = (m.2 67) from ((fr2 Fm185 67 rfl).trans ((fr2 Fm171 67 rfl).trans (fr2 Fm157 67 rfl)))), (show (m185.1 28) = (m.1 28) from ((fr1 Fm185 28 rfl).trans ((fr1 Fm171 28 rfl).trans (fr1 Fm157 28 rfl))))]; first | exact hEX | assumption)⟩)) (fun rr205 k206 => ?_)
              obtain ⟨m207, Tm207, Fm207, h208, c209, rfl⟩ := k206
              refine ⟨_, _, rfl, ?_⟩
              refine T_nb (st' := []) rfl ?_
              have g210 : 0 ≤ m207.1 10 ∧ m207.1 10 ≤ 8 := Tm207.1 10
              have g211 : (-1) ≤ m207.1 11 ∧ m207.1 11 ≤ 4000 := Tm207.1 11
              have g212 : 0 ≤ m207.1 28 ∧ m207.1 28 ≤ 800 := Tm207.1 28
              by_cases hf213 : (m207.1 10) = 0
              · skip
                replace h208 : (m185.1 10) = 0 := h208 hf213
                obtain ⟨c214, c215, c216⟩ := c209 hf213
                replace c214 : (m207.1 28) = (m185.1 28) + 1 := c214
                rewrite [(show (m185.1 28) = (m.1 28) from ((fr1 Fm185 28 rfl).trans ((fr1 Fm171 28 rfl).trans (fr1 Fm157 28 rfl))))] at c214
                replace c215 : EX (m207.2 65) (m207.2 67) B (m207.1 28) (h + 1 - ar (401 : Int)) := c215
                have hEX := c215
                replace c216 : agr (m185.2 65) (m207.2 65) (m185.1 28) := c216
                rewrite [(show (m185.2 65) = (m.2 65) from ((fr2 Fm185 65 rfl).trans ((fr2 Fm171 65 rfl).trans (fr2 Fm157 65 rfl)))), (show (m185.1 28) = (m.1 28) from ((fr1 Fm185 28 rfl).trans ((fr1 Fm171 28 rfl).trans (fr1 Fm157 28 rfl))))] at c216
                have hAg := c216
                clear c209
                have u217 : (m.1 8) + 1 ≤ (m185.1 8) := by omega
                clear g193 g194 h188 h199 h208
                refine T_ld 151 (.ref 189) rfl (fun _ => rfl) ?_
                refine T_ld 153 (.int (i32 x202)) rfl (fun _ => rfl) ?_
                refine T_ld 154 (.int (i32 p)) rfl (fun _ => rfl) ?_
                refine T_call 157 249 [.ref 189, .int (i32 x202), .int (i32 p)] [] rfl (fun _ => rfl) rfl (c_atom w (mO m207 [] []) c N D (by omega) Tm207 x202 p (r32 (by omega) (by omega)) (r32 (by omega) (by omega)) (show 0 ≤ x202 ∧ x202 ≤ 64 by omega) (show 0 ≤ p ∧ p ≤ 4000 by omega)) (fun rr218 k219 => ?_)
                obtain ⟨m220, Tm220, Fm220, h221, rfl⟩ := k219
                refine ⟨_, _, rfl, ?_⟩
                refine T_nb (st' := []) rfl ?_
                have g222 : 0 ≤ m220.1 69 ∧ m220.1 69 ≤ 1024 := Tm220.1 69
                have g223 : 0 ≤ m220.1 75 ∧ m220.1 75 ≤ 3 := Tm220.1 75
                replace h221 : (m207.1 10) = 0 → (m220.1 75) = 1 ∧ (m220.1 69) = x202 := h221
                have u224 : (m.1 8) + 1 ≤ (m185.1 8) := by omega
                refine T_ret rfl (fun _ => rfl) ?_
                exact ⟨(mO m220 [] []), Tm220, (fr_m (fr_s Fm220 (fr_m (fr_s Fm207 (fr_m (fr_s Fm185 (fr_m (fr_s Fm171 (fr_m (fr_s Fm157 (fr_m fr_0 rfl rfl) rfl rfl) rfl rfl) rfl rfl) rfl rfl) rfl rfl) rfl rfl) rfl rfl) rfl rfl) rfl rfl) rfl rfl), (show (m220.1 10) = 0 → (m.1 10) = 0 by rewrite [(show (m220.1 10) = (m207.1 10) from (fr1 Fm220 10 rfl))]; omega), (show LxP (m220.1 7) (m220.1 8) (m220.1 9) (m.1 6) (m220.1 10) by rewrite [(show (m220.1 7) = (m185.1 7) from ((fr1 Fm220 7 rfl).trans (fr1 Fm207 7 rfl))), (show (m220.1 8) = (m185.1 8) from ((fr1 Fm220 8 rfl).trans (fr1 Fm207 8 rfl))), (show (m220.1 9) = (m185.1 9) from ((fr1 Fm220 9 rfl).trans (fr1 Fm207 9 rfl))), (show (m220.1 10) = (m207.1 10) from (fr1 Fm220 10 rfl))]; first | (first | exact hLx | exact (fun _ => hLx (by omega)) | (intro h9; exfalso; omega)) | (exfalso; omega)), (fun _ => ⟨(show (m.1 8) + 1 ≤ (m220.1 8) by rewrite [(show (m220.1 8) = (m185.1 8) from ((fr1 Fm220 8 rfl).trans (fr1 Fm207 8 rfl)))]; omega), (show (m220.1 75) = 1 by omega), (show (m220.1 69) ≤ 64 by omega), (show (m220.1 28) = (m.1 28) + 1 by rewrite [(show (m220.1 28) = (m207.1 28) from (fr1 Fm220 28 rfl))]; omega), (show EX (m220.2 65) (m220.2 67) B (m220.1 28) (h + 1) by rewrite [(show (m220.2 65) = (m207.2 65) from (fr2 Fm220 65 rfl)), (show (m220.2 67) = (m207.2 67) from (fr2 Fm220 67 rfl)), (show (m220.1 28) = (m207.1 28) from (fr1 Fm220 28 rfl))]; first | (exact EX_w hEX (by omega)) | (exfalso; omega)), (show agr (m.2 65) (m220.2 65) (m.1 28) by rewrite [(show (m220.2 65) = (m207.2 65) from (fr2 Fm220 65 rfl))]; first | (exact hAg) | (exfalso; omega))⟩), rfl⟩
              · skip
                clear c209
                clear h208
                have hf225 : 1 ≤ (m207.1 10) := by omega
                clear g193 g194 h188 h199
                refine Tm_lv (a := [(0, .ref 189), (1, .int (i32 p)), (2, .int (i32 pq)), (3, .int (i32 so)), (4, .int (i32 x202)), (5, .int (i32 401)), (6, .int (i32 tf))]) rfl rfl ⟨rfl, rfl, rfl, rfl, rfl, rfl, rfl, trivial⟩ ?_
                exact J150_41 pq so x202 401 tf (mO m207 [] []) (r32 (by omega) (by omega)) (r32 (by omega) (by omega)) (r32 (by omega) (by omega)) ⟨by decide, by decide⟩ (r32 (by omega) (by omega)) Tm207 (fr_m (fr_s Fm207 (fr_m (fr_s Fm185 (fr_m (fr_s Fm171 (fr_m (fr_s Fm157 (fr_m fr_0 rfl rfl) rfl rfl) rfl rfl) rfl rfl) rfl rfl) rfl rfl) rfl rfl) rfl rfl) rfl rfl) (show (-2147483648) ≤ pq by omega) (show pq ≤ 2147483647 by omega) (show 0 ≤ x202 by omega) (show x202 ≤ 64 by omega) (show 401 ≤ (401 : Int) by omega) (show (401 : Int) ≤ 403 by omega) (show 1 ≤ (m207.1 10) by omega)
            · skip
              clear c189
              clear h187
              replace h188 : LxP (m185.1 7) (m185.1 8) (m185.1 9) (m171.1 6) (m185.1 10) := h188
              rewrite [(show (m171.1 6) = (m.1 6) from ((fr1 Fm171 6 rfl).trans (fr1 Fm157 6 rfl)))] at h188
              have hLx := h188
              have hf226 : 1 ≤ (m185.1 10) := by omega
              clear g176 g177 g178 g179 g180 h172 u182
              refine Tm_lv (a := [(0, .ref 189), (1, .int (i32 p)), (2, .int (i32 pq)), (3, .int (i32 so)), (4, .int (i32 1)), (5, .int (i32 401)), (6, .int (i32 wi))]) rfl rfl ⟨rfl, rfl, rfl, rfl, rfl, rfl, rfl, trivial⟩ ?_
              exact J109_67 pq so wi tf (mO m185 [] []) (r32 (by omega) (by omega)) (r32 (by omega) (by omega)) (r32 (by omega) (by omega)) (r32 (by omega) (by omega)) Tm185 (fr_m (fr_s Fm185 (fr_m (fr_s Fm171 (fr_m (fr_s Fm157 (fr_m fr_0 rfl rfl) rfl rfl) rfl rfl) rfl rfl) rfl rfl) rfl rfl) rfl rfl) (show (-2147483648) ≤ pq by omega) (show pq ≤ (-1) by omega) (show 2 ≤ so by omega) (show so ≤ 2 by omega) (show 0 ≤ tf by omega) (show tf ≤ 191 by omega) (show 1 ≤ (m185.1 10) by omega)
          · skip
            replace h172 : LxP (m171.1 7) (m171.1 8) (m171.1 9) (m157.1 6) (m171.1 10) := h172
            rewrite [(show (m157.1 6) = (m.1 6) from (fr1 Fm157 6 rfl))] at h172
            have hLx := h172
            clear h173
            replace h174 : (m157.1 8) ≤ (m171.1 8) := h174
            clear h175
            have hf227 : 1 ≤ (m171.1 10) := by omega
            clear g162 g163 g164 g165 g166 h158 h160 h161 u168 h174
            refine Tm_lv (a := [(0, .ref 189), (1, .int (i32 p)), (2, .int (i32 pq)), (3, .int (i32 so)), (4, .int (i32 1)), (5, .int (i32 401)), (6, .int (i32 wi))]) rfl rfl ⟨rfl, rfl, rfl, rfl, rfl, rfl, rfl, trivial⟩ ?_
            exact J103_95 pq so wi (mO m171 [] []) (r32 (by omega) (by omega)) (r32 (by omega) (by omega)) (r32 (by omega) (by omega)) Tm171 (fr_m (fr_s Fm171 (fr_m (fr_s Fm157 (fr_m fr_0 rfl rfl) rfl rfl) rfl rfl) rfl rfl) rfl rfl) (show (-2147483648) ≤ pq by omega) (show pq ≤ (-1) by omega) (show 2 ≤ so by omega) (show so ≤ 2 by omega) (show 0 ≤ wi ∧ wi ≤ 11 by omega) (show 1 ≤ (m171.1 10) by omega)
        · skip
          replace h158 : LxP (m157.1 7) (m157.1 8) (m157.1 9) (m.1 6) (m157.1 10) := h158
          have hLx := h158
          clear h159
          replace h160 : (m.1 8) ≤ (m157.1 8) := h160
          clear h161
          have hf228 : 1 ≤ (m157.1 10) := by omega
          refine T_ld 98 (.ref 189) rfl (fun _ => rfl) ?_
          refine T_ld 100 (.int (i32 46)) rfl (fun _ => rfl) ?_
          refine T_call 103 232 [.ref 189, .int (i32 46)] [] rfl (fun _ => rfl) rfl (d_need w (mO m157 [] []) c N D (by omega) Tm157 46 ⟨by decide, by decide⟩ (show 1 ≤ (46 : Int) by omega) (show LxP (m157.1 7) (m157.1 8) (m157.1 9) (m157.1 6) (m157.1 10) by rewrite [(show (m157.1 6) = (m.1 6) from (fr1 Fm157 6 rfl))]; first | exact hLx | (intro h9; exfalso; omega) | (intro h9; have h8 := hLx (by omega); omega))) (fun rr229 k230 => ?_)
          obtain ⟨m231, Tm231, Fm231, h232, h233, h234, h235, rfl⟩ := k230
          refine ⟨_, _, rfl, ?_⟩
          refine T_nb (st' := []) rfl ?_
          have g236 : 0 ≤ m231.1 7 ∧ m231.1 7 ≤ 330 := Tm231.1 7
          have g237 : 0 ≤ m231.1 8 ∧ m231.1 8 ≤ 4000 := Tm231.1 8
          have g238 : 0 ≤ m231.1 9 ∧ m231.1 9 ≤ 4000 := Tm231.1 9
          have g239 : 0 ≤ m231.1 10 ∧ m231.1 10 ≤ 8 := Tm231.1 10
          have g240 : (-1) ≤ m231.1 11 ∧ m231.1 11 ≤ 4000 := Tm231.1 11
          replace h232 : LxP (m231.1 7) (m231.1 8) (m231.1 9) (m157.1 6) (m231.1 10) := h232
          rewrite [(show (m157.1 6) = (m.1 6) from (fr1 Fm157 6 rfl))] at h232
          replace h233 : (m231.1 10) = 0 → (m157.1 10) = 0 ∧ (m157.1 7) = (46 : Int) := h233
          replace h234 : (m157.1 8) ≤ (m231.1 8) := h234
          replace h235 : (m231.1 10) = 0 → (m157.1 8) + (m157.1 9) ≤ (m231.1 8) := h235
          have hf241 : 1 ≤ (m231.1 10) := by omega
          clear h233
          clear h235
          have hLx := h232
          clear g162 g163 g164 g165 g166 h158 h160 hf228 h234
          refine Tm_lv (a := [(0, .ref 189), (1, .int (i32 p)), (2, .int (i32 pq)), (3, .int (i32 so)), (4, .int (i32 1)), (5, .int (i32 401)), (6, .int (i32 wi))]) rfl rfl ⟨rfl, rfl, rfl, rfl, rfl, rfl, rfl, trivial⟩ ?_
          exact J103_95 pq so wi (mO m231 [] []) (r32 (by omega) (by omega)) (r32 (by omega) (by omega)) (r32 (by omega) (by omega)) Tm231 (fr_m (fr_s Fm231 (fr_m (fr_s Fm157 (fr_m fr_0 rfl rfl) rfl rfl) rfl rfl) rfl rfl) rfl rfl) (show (-2147483648) ≤ pq by omega) (show pq ≤ (-1) by omega) (show 2 ≤ so by omega) (show so ≤ 2 by omega) (show 0 ≤ wi ∧ wi ≤ 11 by omega) (show 1 ≤ (m231.1 10) by omega)
    · skip
      refine T_ld 53 (.int (i32 402)) rfl (fun _ => rfl) ?_
      refine T_sto 55 [(5, .int (i32 402)), (6, .int (i32 0)), (4, .int (i32 1)), (3, .int (i32 so)), (2, .int (i32 pq)), (0, .ref 189), (1, .int (i32 p))] rfl (fun _ => rfl) ?_
      refine T_ld 56 (.ref 189) rfl (fun _ => rfl) ?_
      refine T_call 59 237 [.ref 189] [] rfl (fun _ => rfl) rfl (d_whichHere w (mO m [] []) c N D (by omega) hT (show 1 ≤ (m.1 9) ∧ (m.1 8) + (m.1 9) ≤ (m.1 6) by first | omega | (have h8 := hLx (by omega); omega)) (show ∀ k, (m.2 14) k + (m.2 15) k ≤ 4000 by first | exact hNM | exact p1) (show ∀ g k, isGH (m.2 4) (m.1 8) (m.1 9) g → g < 0 → isFH (m.2 4) (m.2 14) (m.2 15) (m.1 8) (m.1 9) (m.1 13) k → 0 ≤ k by exact old_ok hSo (by omega))) (fun rr242 k243 => ?_)
      obtain ⟨wi, g244, h245, rfl⟩ := k243
      refine ⟨_, _, rfl, ?_⟩
      refine T_ns (st' := [.int (i32 wi)]) rfl ?_
      obtain ⟨g244a, g244b⟩ := g244
      replace h245 : ∃ g k, isGH (m.2 4) (m.1 8) (m.1 9) g ∧ (g < 0 → isFH (m.2 4) (m.2 14) (m.2 15) (m.1 8) (m.1 9) (m.1 13) k) ∧ wi = whichV (m.2 17) g k := h245
      have hWi := h245
      have u246 : (m.1 8) ≤ (m.1 8) := by omega
      obtain ⟨hw0, hw1⟩ : 0 ≤ wi ∧ wi < (m.1 21) := old_rg hSo hWi (by omega) (by omega) (by omega) (PNl_3 pPN) (by omega)
      refine T_sto 61 [(6, .int (i32 wi)), (5, .int (i32 402)), (4, .int (i32 1)), (3, .int (i32 so)), (2, .int (i32 pq)), (0, .ref 189), (1, .int (i32 p))] rfl (fun _ => rfl) ?_
      refine T_gf 65 (.ref 205) rfl rfl rfl rfl rfl rfl ?_
      refine T_ld 67 (.int (i32 wi)) rfl (fun _ => rfl) ?_
      refine T_iald 68 35 (m.2 35) rfl rfl rfl (by omega) (show wi < (16 : Int) by omega) rfl ?_
      have e247 : 0 ≤ m.2 35 wi ∧ m.2 35 wi ≤ 64 := hT.2.1 35 wi
      refine T_sto 70 [(4, .int (i32 ((m.2 35) wi))), (6, .int (i32 wi)), (5, .int (i32 402)), (3, .int (i32 so)), (2, .int (i32 pq)), (0, .ref 189), (1, .int (i32 p))] rfl (fun _ => rfl) ?_
      refine T_ld 71 (.ref 189) rfl (fun _ => rfl) ?_
      refine T_call 74 212 [.ref 189] [] rfl (fun _ => rfl) rfl (d_next w (mO m [] []) c N D (by omega) hT (show (m.1 10) = 0 → (m.1 8) + (m.1 9) ≤ (m.1 6) by first | omega | (intro h9; have h8 := hLx h9; omega))) (fun rr248 k249 => ?_)
      obtain ⟨m250, Tm250, Fm250, h251, h252, h253, h254, rfl⟩ := k249
      refine ⟨_, _, rfl, ?_⟩
      refine T_nb (st' := []) rfl ?_
      have g255 : 0 ≤ m250.1 7 ∧ m250.1 7 ≤ 330 := Tm250.1 7
      have g256 : 0 ≤ m250.1 8 ∧ m250.1 8 ≤ 4000 := Tm250.1 8
      have g257 : 0 ≤ m250.1 9 ∧ m250.1 9 ≤ 4000 := Tm250.1 9
      have g258 : 0 ≤ m250.1 10 ∧ m250.1 10 ≤ 8 := Tm250.1 10
      have g259 : (-1) ≤ m250.1 11 ∧ m250.1 11 ≤ 4000 := Tm250.1 11
      by_cases hf260 : (m250.1 10) = 0
      · skip
        replace h251 : LxP (m250.1 7) (m250.1 8) (m250.1 9) (m.1 6) (m250.1 10) := h251
        have hLx := h251
        replace h252 : (m.1 10) = 0 := h252 hf260
        replace h253 : (m.1 8) ≤ (m250.1 8) := h253
        replace h254 : (m.1 8) + (m.1 9) ≤ (m250.1 8) := h254 hf260
        have u261 : (m.1 8) + 1 ≤ (m250.1 8) := by omega
        refine T_goto 139 rfl (fun _ => rfl) ?_
        have hA : ar (402 : Int) = 0 := ar_0 (by omega)
        have hAr : ar (402 : Int) ≤ h := by omega
        have hCk : CNk (402 : Int) wi := by refine ⟨?_, ?_, ?_, ?_⟩ <;> omega
        refine T_ld 140 (.ref 189) rfl (fun _ => rfl) ?_
        refine T_ld 142 (.int (i32 402)) rfl (fun _ => rfl) ?_
        refine T_ld 144 (.int (i32 ((m.2 35) wi))) rfl (fun _ => rfl) ?_
        refine T_ld 146 (.int (i32 wi)) rfl (fun _ => rfl) ?_
        refine T_ld 147 (.long (i64 0)) rfl (fun _ => rfl) ?_
        refine T_call 150 248 [.ref 189, .int (i32 402), .int (i32 ((m.2 35) wi)), .int (i32 wi), .long (i64 0)] [] rfl (fun _ => rfl) rfl (c_node w (mO m250 [] []) c N D (by omega) Tm250 402 ((m.2 35) wi) wi 0 B h ⟨by decide, by decide⟩ (r32 (by omega) (by omega)) (r32 (by omega) (by omega)) ⟨by decide, by decide⟩ (fun _ => ⟨(show 0 ≤ (402 : Int) ∧ (402 : Int) ≤ 408 by first | omega | decide), (show 0 ≤ ((m.2 35) wi) ∧ ((m.2 35) wi) ≤ 64 by first | omega | decide), (show 0 ≤ wi ∧ wi ≤ 191 by first | omega | decide), (show CNk (402 : Int) wi by first | exact hCk | (refine ⟨?_, ?_, ?_, ?_⟩ <;> omega)), (show ar (402 : Int) ≤ h by first | exact hAr | omega), (show EX (m250.2 65) (m250.2 67) B (m250.1 28) h by rewrite [(show (m250.2 65) = (m.2 65) from (fr2 Fm250 65 rfl)), (show (m250.2 67) = (m.2 67) from (fr2 Fm250 67 rfl)), (show (m250.1 28) = (m.1 28) from (fr1 Fm250 28 rfl))]; first | exact hEX | assumption)⟩)) (fun rr262 k263 => ?_)
        obtain ⟨m264, Tm264, Fm264, h265, c266, rfl⟩ := k263
        refine ⟨_, _, rfl, ?_⟩
        refine T_nb (st' := []) rfl ?_
        have g267 : 0 ≤ m264.1 10 ∧ m264.1 10 ≤ 8 := Tm264.1 10
        have g268 : (-1) ≤ m264.1 11 ∧ m264.1 11 ≤ 4000 := Tm264.1 11
        have g269 : 0 ≤ m264.1 28 ∧ m264.1 28 ≤ 800 := Tm264.1 28
        by_cases hf270 : (m264.1 10) = 0
        · skip
          replace h265 : (m250.1 10) = 0 := h265 hf270
          obtain ⟨c271, c272, c273⟩ := c266 hf270
          replace c271 : (m264.1 28) = (m250.1 28) + 1 := c271
          rewrite [(show (m250.1 28) = (m.1 28) from (fr1 Fm250 28 rfl))] at c271
          replace c272 : EX (m264.2 65) (m264.2 67) B (m264.1 28) (h + 1 - ar (402 : Int)) := c272
          have hEX := c272
          replace c273 : agr (m250.2 65) (m264.2 65) (m250.1 28) := c273
          rewrite [(show (m250.2 65) = (m.2 65) from (fr2 Fm250 65 rfl)), (show (m250.1 28) = (m.1 28) from (fr1 Fm250 28 rfl))] at c273
          have hAg := c273
          clear c266
          have u274 : (m.1 8) + 1 ≤ (m250.1 8) := by omega
          clear g258 g259 h251 h265
          refine T_ld 151 (.ref 189) rfl (fun _ => rfl) ?_
          refine T_ld 153 (.int (i32 ((m.2 35) wi))) rfl (fun _ => rfl) ?_
          refine T_ld 154 (.int (i32 p)) rfl (fun _ => rfl) ?_
          refine T_call 157 249 [.ref 189, .int (i32 ((m.2 35) wi)), .int (i32 p)] [] rfl (fun _ => rfl) rfl (c_atom w (mO m264 [] []) c N D (by omega) Tm264 ((m.2 35) wi) p (r32 (by omega) (by omega)) (r32 (by omega) (by omega)) (show 0 ≤ ((m.2 35) wi) ∧ ((m.2 35) wi) ≤ 64 by omega) (show 0 ≤ p ∧ p ≤ 4000 by omega)) (fun rr275 k276 => ?_)
          obtain ⟨m277, Tm277, Fm277, h278, rfl⟩ := k276
          refine ⟨_, _, rfl, ?_⟩
          refine T_nb (st' := []) rfl ?_
          have g279 : 0 ≤ m277.1 69 ∧ m277.1 69 ≤ 1024 := Tm277.1 69
          have g280 : 0 ≤ m277.1 75 ∧ m277.1 75 ≤ 3 := Tm277.1 75
          replace h278 : (m264.1 10) = 0 → (m277.1 75) = 1 ∧ (m277.1 69) = ((m.2 35) wi) := h278
          have u281 : (m.1 8) + 1 ≤ (m250.1 8) := by omega
          refine T_ret rfl (fun _ => rfl) ?_
          exact ⟨(mO m277 [] []), Tm277, (fr_m (fr_s Fm277 (fr_m (fr_s Fm264 (fr_m (fr_s Fm250 (fr_m fr_0 rfl rfl) rfl rfl) rfl rfl) rfl rfl) rfl rfl) rfl rfl) rfl rfl), (show (m277.1 10) = 0 → (m.1 10) = 0 by rewrite [(show (m277.1 10) = (m264.1 10) from (fr1 Fm277 10 rfl))]; omega), (show LxP (m277.1 7) (m277.1 8) (m277.1 9) (m.1 6) (m277.1 10) by rewrite [(show (m277.1 7) = (m250.1 7) from ((fr1 Fm277 7 rfl).trans (fr1 Fm264 7 rfl))), (show (m277.1 8) = (m250.1 8) from ((fr1 Fm277 8 rfl).trans (fr1 Fm264 8 rfl))), (show (m277.1 9) = (m250.1 9) from ((fr1 Fm277 9 rfl).trans (fr1 Fm264 9 rfl))), (show (m277.1 10) = (m264.1 10) from (fr1 Fm277 10 rfl))]; first | (first | exact hLx | exact (fun _ => hLx (by omega)) | (intro h9; exfalso; omega)) | (exfalso; omega)), (fun _ => ⟨(show (m.1 8) + 1 ≤ (m277.1 8) by rewrite [(show (m277.1 8) = (m250.1 8) from ((fr1 Fm277 8 rfl).trans (fr1 Fm264 8 rfl)))]; omega), (show (m277.1 75) = 1 by omega), (show (m277.1 69) ≤ 64 by omega), (show (m277.1 28) = (m.1 28) + 1 by rewrite [(show (m277.1 28) = (m264.1 28) from (fr1 Fm277 28 rfl))]; omega), (show EX (m277.2 65) (m277.2 67) B (m277.1 28) (h + 1) by rewrite [(show (m277.2 65) = (m264.2 65) from (fr2 Fm277 65 rfl)), (show (m277.2 67) = (m264.2 67) from (fr2 Fm277 67 rfl)), (show (m277.1 28) = (m264.1 28) from (fr1 Fm277 28 rfl))]; first | (exact EX_w hEX (by omega)) | (exfalso; omega)), (show agr (m.2 65) (m277.2 65) (m.1 28) by rewrite [(show (m277.2 65) = (m264.2 65) from (fr2 Fm277 65 rfl))]; first | (exact hAg) | (exfalso; omega))⟩), rfl⟩
        · skip
          clear c266
          clear h265
          have hf282 : 1 ≤ (m264.1 10) := by omega
          clear g258 g259 h251
          refine Tm_lv (a := [(0, .ref 189), (1, .int (i32 p)), (2, .int (i32 pq)), (3, .int (i32 so)), (4, .int (i32 ((m.2 35) wi))), (5, .int (i32 402)), (6, .int (i32 wi))]) rfl rfl ⟨rfl, rfl, rfl, rfl, rfl, rfl, rfl, trivial⟩ ?_
          exact J150_41 pq so ((m.2 35) wi) 402 wi (mO m264 [] []) (r32 (by omega) (by omega)) (r32 (by omega) (by omega)) (r32 (by omega) (by omega)) ⟨by decide, by decide⟩ (r32 (by omega) (by omega)) Tm264 (fr_m (fr_s Fm264 (fr_m (fr_s Fm250 (fr_m fr_0 rfl rfl) rfl rfl) rfl rfl) rfl rfl) rfl rfl) (show (-2147483648) ≤ pq by omega) (show pq ≤ 2147483647 by omega) (show 0 ≤ ((m.2 35) wi) by omega) (show ((m.2 35) wi) ≤ 64 by omega) (show 401 ≤ (402 : Int) by omega) (show (402 : Int) ≤ 403 by omega) (show 1 ≤ (m264.1 10) by omega)
      · skip
        replace h251 : LxP (m250.1 7) (m250.1 8) (m250.1 9) (m.1 6) (m250.1 10) := h251
        have hLx := h251
        clear h252
        replace h253 : (m.1 8) ≤ (m250.1 8) := h253
        clear h254
        have hf283 : 1 ≤ (m250.1 10) := by omega
        refine T_goto 139 rfl (fun _ => rfl) ?_
        refine T_ld 140 (.ref 189) rfl (fun _ => rfl) ?_
        refine T_ld 142 (.int (i32 402)) rfl (fun _ => rfl) ?_
        refine T_ld 144 (.int (i32 ((m.2 35) wi))) rfl (fun _ => rfl) ?_
        refine T_ld 146 (.int (i32 wi)) rfl (fun _ => rfl) ?_
        refine T_ld 147 (.long (i64 0)) rfl (fun _ => rfl) ?_
        refine T_call 150 248 [.ref 189, .int (i32 402), .int (i32 ((m.2 35) wi)), .int (i32 wi), .long (i64 0)] [] rfl (fun _ => rfl) rfl (c_node w (mO m250 [] []) c N D (by omega) Tm250 402 ((m.2 35) wi) wi 0 B h ⟨by decide, by decide⟩ (r32 (by omega) (by omega)) (r32 (by omega) (by omega)) ⟨by decide, by decide⟩ (fun (h : (m250.1 10) = 0) => absurd h (by omega))) (fun rr284 k285 => ?_)
        obtain ⟨m286, Tm286, Fm286, h287, c288, rfl⟩ := k285
        refine ⟨_, _, rfl, ?_⟩
        refine T_nb (st' := []) rfl ?_
        have g289 : 0 ≤ m286.1 10 ∧ m286.1 10 ≤ 8 := Tm286.1 10
        have g290 : (-1) ≤ m286.1 11 ∧ m286.1 11 ≤ 4000 := Tm286.1 11
        have g291 : 0 ≤ m286.1 28 ∧ m286.1 28 ≤ 800 := Tm286.1 28
        replace h287 : (m286.1 10) = 0 → (m250.1 10) = 0 := h287
        have hf292 : 1 ≤ (m286.1 10) := by omega
        clear c288
        clear h287
        clear g258 g259 h251 hf283
        refine Tm_lv (a := [(0, .ref 189), (1, .int (i32 p)), (2, .int (i32 pq)), (3, .int (i32 so)), (4, .int (i32 ((m.2 35) wi))), (5, .int (i32 402)), (6, .int (i32 wi))]) rfl rfl ⟨rfl, rfl, rfl, rfl, rfl, rfl, rfl, trivial⟩ ?_
        exact J150_41 pq so ((m.2 35) wi) 402 wi (mO m286 [] []) (r32 (by omega) (by omega)) (r32 (by omega) (by omega)) (r32 (by omega) (by omega)) ⟨by decide, by decide⟩ (r32 (by omega) (by omega)) Tm286 (fr_m (fr_s Fm286 (fr_m (fr_s Fm250 (fr_m fr_0 rfl rfl) rfl rfl) rfl rfl) rfl rfl) rfl rfl) (show (-2147483648) ≤ pq by omega) (show pq ≤ 2147483647 by omega) (show 0 ≤ ((m.2 35) wi) by omega) (show ((m.2 35) wi) ≤ 64 by omega) (show 401 ≤ (402 : Int) by omega) (show (402 : Int) ≤ 403 by omega) (show 1 ≤ (m286.1 10) by omega)
  · skip
    refine T_gf 29 (.ref 219) rfl rfl rfl rfl rfl rfl ?_
    refine T_ld 30 (.int (i32 pq)) rfl (fun _ => rfl) ?_
    refine T_iald 31 49 (m.2 49) rfl rfl rfl (by omega) (show pq < (64 : Int) by omega) rfl ?_
    have e293 : 0 ≤ m.2 49 pq ∧ m.2 49 pq ≤ 64 := hT.2.1 49 pq
    refine T_sto 33 [(4, .int (i32 ((m.2 49) pq))), (6, .int (i32 0)), (5, .int (i32 403)), (3, .int (i32 so)), (2, .int (i32 pq)), (0, .ref 189), (1, .int (i32 p))] rfl (fun _ => rfl) ?_
    refine T_ld 34 (.int (i32 pq)) rfl (fun _ => rfl) ?_
    refine T_ld 35 (.int (i32 4)) rfl (fun _ => rfl) ?_
    refine T_irem 36 rfl rfl (by omega) (by omega) (by omega) (by omega) ?_
    refine T_sto 38 [(6, .int (i32 (pq % 4))), (4, .int (i32 ((m.2 49) pq))), (5, .int (i32 403)), (3, .int (i32 so)), (2, .int (i32 pq)), (0, .ref 189), (1, .int (i32 p))] rfl (fun _ => rfl) ?_
    refine T_ld 39 (.ref 189) rfl (fun _ => rfl) ?_
    refine T_call 42 212 [.ref 189] [] rfl (fun _ => rfl) rfl (d_next w (mO m [] []) c N D (by omega) hT (show (m.1 10) = 0 → (m.1 8) + (m.1 9) ≤ (m.1 6) by first | omega | (intro h9; have h8 := hLx h9; omega))) (fun rr294 k295 => ?_)
    obtain ⟨m296, Tm296, Fm296, h297, h298, h299, h300, rfl⟩ := k295
    refine ⟨_, _, rfl, ?_⟩
    refine T_nb (st' := []) rfl ?_
    have g301 : 0 ≤ m296.1 7 ∧ m296.1 7 ≤ 330 := Tm296.1 7
    have g302 : 0 ≤ m296.1 8 ∧ m296.1 8 ≤ 4000 := Tm296.1 8
    have g303 : 0 ≤ m296.1 9 ∧ m296.1 9 ≤ 4000 := Tm296.1 9
    have g304 : 0 ≤ m296.1 10 ∧ m296.1 10 ≤ 8 := Tm296.1 10
    have g305 : (-1) ≤ m296.1 11 ∧ m296.1 11 ≤ 4000 := Tm296.1 11
    by_cases hf306 : (m296.1 10) = 0
    · skip
      replace h297 : LxP (m296.1 7) (m296.1 8) (m296.1 9) (m.1 6) (m296.1 10) := h297
      have hLx := h297
      replace h298 : (m.1 10) = 0 := h298 hf306
      replace h299 : (m.1 8) ≤ (m296.1 8) := h299
      replace h300 : (m.1 8) + (m.1 9) ≤ (m296.1 8) := h300 hf306
      have u307 : (m.1 8) + 1 ≤ (m296.1 8) := by omega
      refine T_goto 139 rfl (fun _ => rfl) ?_
      have hA : ar (403 : Int) = 0 := ar_0 (by omega)
      have hAr : ar (403 : Int) ≤ h := by omega
      have hCk : CNk (403 : Int) (pq % 4) := by refine ⟨?_, ?_, ?_, ?_⟩ <;> omega
      refine T_ld 140 (.ref 189) rfl (fun _ => rfl) ?_
      refine T_ld 142 (.int (i32 403)) rfl (fun _ => rfl) ?_
      refine T_ld 144 (.int (i32 ((m.2 49) pq))) rfl (fun _ => rfl) ?_
      refine T_ld 146 (.int (i32 (pq % 4))) rfl (fun _ => rfl) ?_
      refine T_ld 147 (.long (i64 0)) rfl (fun _ => rfl) ?_
      refine T_call 150 248 [.ref 189, .int (i32 403), .int (i32 ((m.2 49) pq)), .int (i32 (pq % 4)), .long (i64 0)] [] rfl (fun _ => rfl) rfl (c_node w (mO m296 [] []) c N D (by omega) Tm296 403 ((m.2 49) pq) (pq % 4) 0 B h ⟨by decide, by decide⟩ (r32 (by omega) (by omega)) (r32 (by omega) (by omega)) ⟨by decide, by decide⟩ (fun _ => ⟨(show 0 ≤ (403 : Int) ∧ (403 : Int) ≤ 408 by first | omega | decide), (show 0 ≤ ((m.2 49) pq) ∧ ((m.2 49) pq) ≤ 64 by first | omega | decide), (show 0 ≤ (pq % 4) ∧ (pq % 4) ≤ 191 by first | omega | decide), (show CNk (403 : Int) (pq % 4) by first | exact hCk | (refine ⟨?_, ?_, ?_, ?_⟩ <;> omega)), (show ar (403 : Int) ≤ h by first | exact hAr | omega), (show EX (m296.2 65) (m296.2 67) B (m296.1 28) h by rewrite [(show (m296.2 65) = (m.2 65) from (fr2 Fm296 65 rfl)), (show (m296.2 67) = (m.2 67) from (fr2 Fm296 67 rfl)), (show (m296.1 28) = (m.1 28) from (fr1 Fm296 28 rfl))]; first | exact hEX | assumption)⟩)) (fun rr308 k309 => ?_)
      obtain ⟨m310, Tm310, Fm310, h311, c312, rfl⟩ := k309
      refine ⟨_, _, rfl, ?_⟩
      refine T_nb (st' := []) rfl ?_
      have g313 : 0 ≤ m310.1 10 ∧ m310.1 10 ≤ 8 := Tm310.1 10
      have g314 : (-1) ≤ m310.1 11 ∧ m310.1 11 ≤ 4000 := Tm310.1 11
      have g315 : 0 ≤ m310.1 28 ∧ m310.1 28 ≤ 800 := Tm310.1 28
      by_cases hf316 : (m310.1 10) = 0
      · skip
        replace h311 : (m296.1 10) = 0 := h311 hf316
        obtain ⟨c317, c318, c319⟩ := c312 hf316
        replace c317 : (m310.1 28) = (m296.1 28) + 1 := c317
        rewrite [(show (m296.1 28) = (m.1 28) from (fr1 Fm296 28 rfl))] at c317
        replace c318 : EX (m310.2 65) (m310.2 67) B (m310.1 28) (h + 1 - ar (403 : Int)) := c318
        have hEX := c318
        replace c319 : agr (m296.2 65) (m310.2 65) (m296.1 28) := c319
        rewrite [(show (m296.2 65) = (m.2 65) from (fr2 Fm296 65 rfl)), (show (m296.1 28) = (m.1 28) from (fr1 Fm296 28 rfl))] at c319
        have hAg := c319
        clear c312
        have u320 : (m.1 8) + 1 ≤ (m296.1 8) := by omega
        clear g304 g305 h297 h311
        refine T_ld 151 (.ref 189) rfl (fun _ => rfl) ?_
        refine T_ld 153 (.int (i32 ((m.2 49) pq))) rfl (fun _ => rfl) ?_
        refine T_ld 154 (.int (i32 p)) rfl (fun _ => rfl) ?_
        refine T_call 157 249 [.ref 189, .int (i32 ((m.2 49) pq)), .int (i32 p)] [] rfl (fun _ => rfl) rfl (c_atom w (mO m310 [] []) c N D (by omega) Tm310 ((m.2 49) pq) p (r32 (by omega) (by omega)) (r32 (by omega) (by omega)) (show 0 ≤ ((m.2 49) pq) ∧ ((m.2 49) pq) ≤ 64 by omega) (show 0 ≤ p ∧ p ≤ 4000 by omega)) (fun rr321 k322 => ?_)
        obtain ⟨m323, Tm323, Fm323, h324, rfl⟩ := k322
        refine ⟨_, _, rfl, ?_⟩
        refine T_nb (st' := []) rfl ?_
        have g325 : 0 ≤ m323.1 69 ∧ m323.1 69 ≤ 1024 := Tm323.1 69
        have g326 : 0 ≤ m323.1 75 ∧ m323.1 75 ≤ 3 := Tm323.1 75
        replace h324 : (m310.1 10) = 0 → (m323.1 75) = 1 ∧ (m323.1 69) = ((m.2 49) pq) := h324
        have u327 : (m.1 8) + 1 ≤ (m296.1 8) := by omega
        refine T_ret rfl (fun _ => rfl) ?_
        exact ⟨(mO m323 [] []), Tm323, (fr_m (fr_s Fm323 (fr_m (fr_s Fm310 (fr_m (fr_s Fm296 (fr_m fr_0 rfl rfl) rfl rfl) rfl rfl) rfl rfl) rfl rfl) rfl rfl) rfl rfl), (show (m323.1 10) = 0 → (m.1 10) = 0 by rewrite [(show (m323.1 10) = (m310.1 10) from (fr1 Fm323 10 rfl))]; omega), (show LxP (m323.1 7) (m323.1 8) (m323.1 9) (m.1 6) (m323.1 10) by rewrite [(show (m323.1 7) = (m296.1 7) from ((fr1 Fm323 7 rfl).trans (fr1 Fm310 7 rfl))), (show (m323.1 8) = (m296.1 8) from ((fr1 Fm323 8 rfl).trans (fr1 Fm310 8 rfl))), (show (m323.1 9) = (m296.1 9) from ((fr1 Fm323 9 rfl).trans (fr1 Fm310 9 rfl))), (show (m323.1 10) = (m310.1 10) from (fr1 Fm323 10 rfl))]; first | (first | exact hLx | exact (fun _ => hLx (by omega)) | (intro h9; exfalso; omega)) | (exfalso; omega)), (fun _ => ⟨(show (m.1 8) + 1 ≤ (m323.1 8) by rewrite [(show (m323.1 8) = (m296.1 8) from ((fr1 Fm323 8 rfl).trans (fr1 Fm310 8 rfl)))]; omega), (show (m323.1 75) = 1 by omega), (show (m323.1 69) ≤ 64 by omega), (show (m323.1 28) = (m.1 28) + 1 by rewrite [(show (m323.1 28) = (m310.1 28) from (fr1 Fm323 28 rfl))]; omega), (show EX (m323.2 65) (m323.2 67) B (m323.1 28) (h + 1) by rewrite [(show (m323.2 65) = (m310.2 65) from (fr2 Fm323 65 rfl)), (show (m323.2 67) = (m310.2 67) from (fr2 Fm323 67 rfl)), (show (m323.1 28) = (m310.1 28) from (fr1 Fm323 28 rfl))]; first | (exact EX_w hEX (by omega)) | (exfalso; omega)), (show agr (m.2 65) (m323.2 65) (m.1 28) by rewrite [(show (m323.2 65) = (m310.2 65) from (fr2 Fm323 65 rfl))]; first | (exact hAg) | (exfalso; omega))⟩), rfl⟩
      · skip
        clear c312
        clear h311
        have hf328 : 1 ≤ (m310.1 10) := by omega
        clear g304 g305 h297
        refine Tm_lv (a := [(0, .ref 189), (1, .int (i32 p)), (2, .int (i32 pq)), (3, .int (i32 so)), (4, .int (i32 ((m.2 49) pq))), (5, .int (i32 403)), (6, .int (i32 (pq % 4)))]) rfl rfl ⟨rfl, rfl, rfl, rfl, rfl, rfl, rfl, trivial⟩ ?_
        exact J150_41 pq so ((m.2 49) pq) 403 (pq % 4) (mO m310 [] []) (r32 (by omega) (by omega)) (r32 (by omega) (by omega)) (r32 (by omega) (by omega)) ⟨by decide, by decide⟩ (r32 (by omega) (by omega)) Tm310 (fr_m (fr_s Fm310 (fr_m (fr_s Fm296 (fr_m fr_0 rfl rfl) rfl rfl) rfl rfl) rfl rfl) rfl rfl) (show (-2147483648) ≤ pq by omega) (show pq ≤ 2147483647 by omega) (show 0 ≤ ((m.2 49) pq) by omega) (show ((m.2 49) pq) ≤ 64 by omega) (show 401 ≤ (403 : Int) by omega) (show (403 : Int) ≤ 403 by omega) (show 1 ≤ (m310.1 10) by omega)
    · skip
      replace h297 : LxP (m296.1 7) (m296.1 8) (m296.1 9) (m.1 6) (m296.1 10) := h297
      have hLx := h297
      clear h298
      replace h299 : (m.1 8) ≤ (m296.1 8) := h299
      clear h300
      have hf329 : 1 ≤ (m296.1 10) := by omega
      refine T_goto 139 rfl (fun _ => rfl) ?_
      refine T_ld 140 (.ref 189) rfl (fun _ => rfl) ?_
      refine T_ld 142 (.int (i32 403)) rfl (fun _ => rfl) ?_
      refine T_ld 144 (.int (i32 ((m.2 49) pq))) rfl (fun _ => rfl) ?_
      refine T_ld 146 (.int (i32 (pq % 4))) rfl (fun _ => rfl) ?_
      refine T_ld 147 (.long (i64 0)) rfl (fun _ => rfl) ?_
      refine T_call 150 248 [.ref 189, .int (i32 403), .int (i32 ((m.2 49) pq)), .int (i32 (pq % 4)), .long (i64 0)] [] rfl (fun _ => rfl) rfl (c_node w (mO m296 [] []) c N D (by omega) Tm296 403 ((m.2 49) pq) (pq % 4) 0 B h ⟨by decide, by decide⟩ (r32 (by omega) (by omega)) (r32 (by omega) (by omega)) ⟨by decide, by decide⟩ (fun (h : (m296.1 10) = 0) => absurd h (by omega))) (fun rr330 k331 => ?_)
      obtain ⟨m332, Tm332, Fm332, h333, c334, rfl⟩ := k331
      refine ⟨_, _, rfl, ?_⟩
      refine T_nb (st' := []) rfl ?_
      have g335 : 0 ≤ m332.1 10 ∧ m332.1 10 ≤ 8 := Tm332.1 10
      have g336 : (-1) ≤ m332.1 11 ∧ m332.1 11 ≤ 4000 := Tm332.1 11
      have g337 : 0 ≤ m332.1 28 ∧ m332.1 28 ≤ 800 := Tm332.1 28
      replace h333 : (m332.1 10) = 0 → (m296.1 10) = 0 := h333
      have hf338 : 1 ≤ (m332.1 10) := by omega
      clear c334
      clear h333
      clear g304 g305 h297 hf329
      refine Tm_lv (a := [(0, .ref 189), (1, .int (i32 p)), (2, .int (i32 pq)), (3, .int (i32 so)), (4, .int (i32 ((m.2 49) pq))), (5, .int (i32 403)), (6, .int (i32 (pq % 4)))]) rfl rfl ⟨rfl, rfl, rfl, rfl, rfl, rfl, rfl, trivial⟩ ?_
      exact J150_41 pq so ((m.2 49) pq) 403 (pq % 4) (mO m332 [] []) (r32 (by omega) (by omega)) (r32 (by omega) (by omega)) (r32 (by omega) (by omega)) ⟨by decide, by decide⟩ (r32 (by omega) (by omega)) Tm332 (fr_m (fr_s Fm332 (fr_m (fr_s Fm296 (fr_m fr_0 rfl rfl) rfl rfl) rfl rfl) rfl rfl) rfl rfl) (show (-2147483648) ≤ pq by omega) (show pq ≤ 2147483647 by omega) (show 0 ≤ ((m.2 49) pq) by omega) (show ((m.2 49) pq) ≤ 64 by omega) (show 401 ≤ (403 : Int) by omega) (show (403 : Int) ≤ 403 by omega) (show 1 ≤ (m332.1 10) by omega)
def fF_wantUnit : List Nat := [7, 8, 9, 10, 11, 12, 28, 69, 70, 71, 72, 73, 74, 75]
def fA_wantUnit : List Nat := [65, 66, 67, 68, 76, 77, 78, 79, 80]
def Q_wantUnit (m : mR) (c : Nat → Option am_C) (N : Nat) (B : Int) : ag_Re af_T → Prop := fun R => ∃ (M : mR), Ty M ∧ fr fF_wantUnit fA_wantUnit m M ∧ ((M.1 10) = 0 → (m.1 10) = 0) ∧ (LxP (M.1 7) (M.1 8) (M.1 9) (m.1 6) (M.1 10)) ∧ (M.1 10 = 0 → ((m.1 8) + 1 ≤ (M.1 8)) ∧ ((M.1 75) = 0 ∨ ((M.1 75) = 1 ∧ (M.1 69) ≤ 64)) ∧ (1 ≤ (M.1 73)) ∧ ((m.1 28) ≤ (M.1 28)) ∧ (XS (M.2 65) (M.2 67) (M.2 76) (M.2 78) (M.2 79) (M.2 80) B (M.1 28) (M.1 73) (M.1 74) (um (M.1 75))) ∧ (agr (m.2 65) (M.2 65) (m.1 28))) ∧ R = (.inl (none), (mhp M c, N), 0, 0)
set_option maxHeartbeats 3000000 in
theorem c_wantUnit (w : wX) (m : mR) (c : Nat → Option am_C) (N D : Nat) (hD : 8 ≤ D) (hT : Ty m) (B : Int) (hLx0 : LxP (m.1 7) (m.1 8) (m.1 9) (m.1 6) (m.1 10)) (hNM0 : ∀ k, (m.2 14) k + (m.2 15) k ≤ 4000) (hFA0 : ∀ k, (m.2 31) k + (m.2 32) k ≤ 4000) (hPA0 : ∀ k, (m.2 47) k + (m.2 48) k ≤ 4000) (hf0 : m.1 10 = 0) (hC : (PN (m.1 13) (m.1 19) (m.1 20) (m.1 21) (m.1 22) (m.1 23) (m.1 25) (m.1 26) (m.2 16) (m.2 17)) ∧ (XS (m.2 65) (m.2 67) (m.2 76) (m.2 78) (m.2 79) (m.2 80) B (m.1 28) (m.1 73) (m.1 74) 0) ∧ (1 ≤ (m.1 73)) ∧ ((m.1 75) = 0)) : TC w D 247 [.ref 189] (mhp m c, N) (Q_wantUnit m c N B) := by
  obtain ⟨D, rfl⟩ : ∃ k, D = k + 1 := ⟨D - 1, by omega⟩
  have hLx := hLx0
  have hNM := hNM0
  have hFA := hFA0
  have hPA := hPA0
  have f7 : 0 ≤ m.1 7 ∧ m.1 7 ≤ 330 := hT.1 7
  have f8 : 0 ≤ m.1 8 ∧ m.1 8 ≤ 4000 := hT.1 8
  have f9 : 0 ≤ m.1 9 ∧ m.1 9 ≤ 4000 := hT.1 9
  have f10 : 0 ≤ m.1 10 ∧ m.1 10 ≤ 8 := hT.1 10
  have f11 : (-1) ≤ m.1 11 ∧ m.1 11 ≤ 4000 := hT.1 11
  have f12 : (-9223372036854775808) ≤ m.1 12 ∧ m.1 12 ≤ 9223372036854775807 := hT.1 12
  have f28 : 0 ≤ m.1 28 ∧ m.1 28 ≤ 800 := hT.1 28
  have f69 : 0 ≤ m.1 69 ∧ m.1 69 ≤ 1024 := hT.1 69
  have f73 : 0 ≤ m.1 73 ∧ m.1 73 ≤ 60 := hT.1 73
  have f74 : 0 ≤ m.1 74 ∧ m.1 74 ≤ 24 := hT.1 74
  have f75 : 0 ≤ m.1 75 ∧ m.1 75 ≤ 3 := hT.1 75
  have f25 : 0 ≤ m.1 25 ∧ m.1 25 ≤ 16 := hT.1 25
  have f22 : 0 ≤ m.1 22 ∧ m.1 22 ≤ 8 := hT.1 22
  have f19 : 0 ≤ m.1 19 ∧ m.1 19 ≤ 12 := hT.1 19
  have f20 : 0 ≤ m.1 20 ∧ m.1 20 ≤ 12 := hT.1 20
  have f21 : 0 ≤ m.1 21 ∧ m.1 21 ≤ 16 := hT.1 21
  have f13 : 0 ≤ m.1 13 ∧ m.1 13 ≤ 120 := hT.1 13
  have f6 : 0 ≤ m.1 6 ∧ m.1 6 ≤ 4000 := hT.1 6
  have f23 : 0 ≤ m.1 23 ∧ m.1 23 ≤ 16 := hT.1 23
  have f26 : 0 ≤ m.1 26 ∧ m.1 26 ≤ 8 := hT.1 26
  refine Tc_of rfl ?_
  show TT w D pm_247 (0, [(0, .ref 189)], [], (mhp (mO m [] []) c, N), 0, 0) (Q_wantUnit m c N B)
  obtain ⟨pPN, hXS, c1, c2⟩ := hC
  have h7 := hLx (by omega)
  have hb := OS_hi hXS.1.2
  have hEX := hXS.1.1
  have hl0 : 0 ≤ lh (m.2 79) (m.2 80) (m.1 73) := lh_0 (hT.2.1 79) _ _
  have hAgC := agr_r (m.2 65) (m.1 28)
  have J212_17 : ∀ (m16 : mR), Ty m16 → fr [7, 8, 9, 10, 11, 12, 73, 74, 75] [76, 77, 78, 79, 80] (mO m [] []) m16 → (0 ≤ (m.1 8) ∧ (m.1 8) ≤ 4000) → (1 ≤ (m16.1 10)) → TT w D pm_247 (212, [(0, .ref 189), (1, .int (i32 (m.1 8)))], [], (mhp (mO m16 [] []) c, N), 0, 0) (Q_wantUnit m c N B) := by
    intro m16 Tm16 Fm16 ic18 ic19
    have q20_7 : 0 ≤ m16.1 7 ∧ m16.1 7 ≤ 330 := Tm16.1 7
    have q20_8 : 0 ≤ m16.1 8 ∧ m16.1 8 ≤ 4000 := Tm16.1 8
    have q20_9 : 0 ≤ m16.1 9 ∧ m16.1 9 ≤ 4000 := Tm16.1 9
    have q20_10 : 0 ≤ m16.1 10 ∧ m16.1 10 ≤ 8 := Tm16.1 10
    have q20_11 : (-1) ≤ m16.1 11 ∧ m16.1 11 ≤ 4000 := Tm16.1 11
    have q20_12 : (-9223372036854775808) ≤ m16.1 12 ∧ m16.1 12 ≤ 9223372036854775807 := Tm16.1 12
    have q20_73 : 0 ≤ m16.1 73 ∧ m16.1 73 ≤ 60 := Tm16.1 73
    have q20_74 : 0 ≤ m16.1 74 ∧ m16.1 74 ≤ 24 := Tm16.1 74
    have q20_75 : 0 ≤ m16.1 75 ∧ m16.1 75 ≤ 3 := Tm16.1 75
    refine T_goto 219 rfl (fun _ => rfl) ?_
    refine T_ret rfl (fun _ => rfl) ?_
    exact ⟨(mO m16 [] []), Tm16, (fr_m (fr_s Fm16 (fr_m fr_0 rfl rfl) rfl rfl) rfl rfl), (show (m16.1 10) = 0 → (m.1 10) = 0 by omega), (show LxP (m16.1 7) (m16.1 8) (m16.1 9) (m.1 6) (m16.1 10) by first | (first | exact hLx | exact (fun _ => hLx (by omega)) | (intro h9; exfalso; omega)) | (exfalso; omega)), (fun (h : (m16.1 10) = 0) => absurd h (by omega)), rfl⟩
  have J179_24 : ∀ (v22 : Int) (m23 : mR), (R32 v22) → Ty m23 → fr [7, 8, 9, 10, 11, 12, 28] [65, 66, 67, 68] (mO m [] []) m23 → (0 ≤ v22) → (v22 ≤ 11) → (0 ≤ (m.1 8) ∧ (m.1 8) ≤ 4000) → (1 ≤ (m23.1 10)) → TT w D pm_247 (179, [(0, .ref 189), (1, .int (i32 (m.1 8))), (2, .int (i32 v22))], [], (mhp (mO m23 [] []) c, N), 0, 0) (Q_wantUnit m c N B) := by
    intro v22 m23 q29 Tm23 Fm23 ic25 ic26 ic27 ic28
    obtain ⟨q29a, q29b⟩ := id q29
    have q30_7 : 0 ≤ m23.1 7 ∧ m23.1 7 ≤ 330 := Tm23.1 7
    have q30_8 : 0 ≤ m23.1 8 ∧ m23.1 8 ≤ 4000 := Tm23.1 8
    have q30_9 : 0 ≤ m23.1 9 ∧ m23.1 9 ≤ 4000 := Tm23.1 9
    have q30_10 : 0 ≤ m23.1 10 ∧ m23.1 10 ≤ 8 := Tm23.1 10
    have q30_11 : (-1) ≤ m23.1 11 ∧ m23.1 11 ≤ 4000 := Tm23.1 11
    have q30_12 : (-9223372036854775808) ≤ m23.1 12 ∧ m23.1 12 ≤ 9223372036854775807 := Tm23.1 12
    have q30_28 : 0 ≤ m23.1 28 ∧ m23.1 28 ≤ 800 := Tm23.1 28
    refine T_ld 180 (.ref 189) rfl (fun _ => rfl) ?_
    refine T_ld 181 (.int (i32 1)) rfl (fun _ => rfl) ?_
    refine T_ld 182 (.int (i32 (m.1 8))) rfl (fun _ => rfl) ?_
    refine T_call 185 249 [.ref 189, .int (i32 1), .int (i32 (m.1 8))] [] rfl (fun _ => rfl) rfl (c_atom w (mO m23 [] []) c N D (by omega) Tm23 1 (m.1 8) ⟨by decide, by decide⟩ (r32 (by omega) (by omega)) (show 0 ≤ (1 : Int) ∧ (1 : Int) ≤ 64 by omega) (show 0 ≤ (m.1 8) ∧ (m.1 8) ≤ 4000 by omega)) (fun rr32 k33 => ?_)
    obtain ⟨m34, Tm34, Fm34, h35, rfl⟩ := k33
    refine ⟨_, _, rfl, ?_⟩
    refine T_nb (st' := []) rfl ?_
    have g36 : 0 ≤ m34.1 69 ∧ m34.1 69 ≤ 1024 := Tm34.1 69
    have g37 : 0 ≤ m34.1 75 ∧ m34.1 75 ≤ 3 := Tm34.1 75
    replace h35 : (m23.1 10) = 0 → (m34.1 75) = 1 ∧ (m34.1 69) = (1 : Int) := h35
    refine T_goto 219 rfl (fun _ => rfl) ?_
    refine T_ret rfl (fun _ => rfl) ?_
    exact ⟨(mO m34 [] []), Tm34, (fr_m (fr_s Fm34 (fr_m (fr_s Fm23 (fr_m fr_0 rfl rfl) rfl rfl) rfl rfl) rfl rfl) rfl rfl), (show (m34.1 10) = 0 → (m.1 10) = 0 by rewrite [(show (m34.1 10) = (m23.1 10) from (fr1 Fm34 10 rfl))]; omega), (show LxP (m34.1 7) (m34.1 8) (m34.1 9) (m.1 6) (m34.1 10) by rewrite [(show (m34.1 7) = (m23.1 7) from (fr1 Fm34 7 rfl)), (show (m34.1 8) = (m23.1 8) from (fr1 Fm34 8 rfl)), (show (m34.1 9) = (m23.1 9) from (fr1 Fm34 9 rfl)), (show (m34.1 10) = (m23.1 10) from (fr1 Fm34 10 rfl))]; first | (first | exact hLx | exact (fun _ => hLx (by omega)) | (intro h9; exfalso; omega)) | (exfalso; omega)), (fun (h : (m34.1 10) = 0) => absurd ((show (m34.1 10) = (m23.1 10) from (fr1 Fm34 10 rfl)).symm.trans h) (by omega)), rfl⟩
  have J168_40 : ∀ (s38 : Int) (m39 : mR), (R32 s38) → Ty m39 → fr [7, 8, 9, 10, 11, 12] [] (mO m [] []) m39 → (0 ≤ s38) → (s38 ≤ 11) → (0 ≤ (m.1 8) ∧ (m.1 8) ≤ 4000) → (1 ≤ (m39.1 10)) → TT w D pm_247 (168, [(0, .ref 189), (1, .int (i32 (m.1 8)))], [.int (i32 s38)], (mhp (mO m39 [] []) c, N), 0, 0) (Q_wantUnit m c N B) := by
    intro s38 m39 q45 Tm39 Fm39 ic41 ic42 ic43 ic44
    obtain ⟨q45a, q45b⟩ := id q45
    have q46_7 : 0 ≤ m39.1 7 ∧ m39.1 7 ≤ 330 := Tm39.1 7
    have q46_8 : 0 ≤ m39.1 8 ∧ m39.1 8 ≤ 4000 := Tm39.1 8
    have q46_9 : 0 ≤ m39.1 9 ∧ m39.1 9 ≤ 4000 := Tm39.1 9
    have q46_10 : 0 ≤ m39.1 10 ∧ m39.1 10 ≤ 8 := Tm39.1 10
    have q46_11 : (-1) ≤ m39.1 11 ∧ m39.1 11 ≤ 4000 := Tm39.1 11
    have q46_12 : (-9223372036854775808) ≤ m39.1 12 ∧ m39.1 12 ≤ 9223372036854775807 := Tm39.1 12
    refine T_sto 169 [(2, .int (i32 s38)), (0, .ref 189), (1, .int (i32 (m.1 8)))] rfl (fun _ => rfl) ?_
    refine T_ld 170 (.ref 189) rfl (fun _ => rfl) ?_
    refine T_ld 173 (.int (i32 404)) rfl (fun _ => rfl) ?_
    refine T_ld 174 (.int (i32 1)) rfl (fun _ => rfl) ?_
    refine T_ld 175 (.int (i32 s38)) rfl (fun _ => rfl) ?_
    refine T_ld 176 (.long (i64 0)) rfl (fun _ => rfl) ?_
    refine T_call 179 248 [.ref 189, .int (i32 404), .int (i32 1), .int (i32 s38), .long (i64 0)] [] rfl (fun _ => rfl) rfl (c_node w (mO m39 [] []) c N D (by omega) Tm39 404 1 s38 0 B (0 + lh (m.2 79) (m.2 80) (m.1 73)) ⟨by decide, by decide⟩ ⟨by decide, by decide⟩ (r32 (by omega) (by omega)) ⟨by decide, by decide⟩ (fun (h : (m39.1 10) = 0) => absurd h (by omega))) (fun rr48 k49 => ?_)
    obtain ⟨m50, Tm50, Fm50, h51, c52, rfl⟩ := k49
    refine ⟨_, _, rfl, ?_⟩
    refine T_nb (st' := []) rfl ?_
    have g53 : 0 ≤ m50.1 10 ∧ m50.1 10 ≤ 8 := Tm50.1 10
    have g54 : (-1) ≤ m50.1 11 ∧ m50.1 11 ≤ 4000 := Tm50.1 11
    have g55 : 0 ≤ m50.1 28 ∧ m50.1 28 ≤ 800 := Tm50.1 28
    replace h51 : (m50.1 10) = 0 → (m39.1 10) = 0 := h51
    have hf56 : 1 ≤ (m50.1 10) := by omega
    clear c52
    clear h51
    clear q46_10 q46_11 ic44
    refine Tm_lv (a := [(0, .ref 189), (1, .int (i32 (m.1 8))), (2, .int (i32 s38))]) rfl rfl ⟨rfl, rfl, rfl, trivial⟩ ?_
    exact J179_24 s38 (mO m50 [] []) (r32 (by omega) (by omega)) Tm50 (fr_m (fr_s Fm50 (fr_m (fr_s Fm39 (fr_m fr_0 rfl rfl) rfl rfl) rfl rfl) rfl rfl) rfl rfl) (show 0 ≤ s38 by omega) (show s38 ≤ 11 by omega) (show 0 ≤ (m.1 8) ∧ (m.1 8) ≤ 4000 by omega) (show 1 ≤ (m50.1 10) by omega)
  have J113_58 : ∀ (m57 : mR), Ty m57 → fr [7, 8, 9, 10, 11, 12, 28] [65, 66, 67, 68] (mO m [] []) m57 → (0 ≤ (m.1 8) ∧ (m.1 8) ≤ 4000) → (1 ≤ (m57.1 10)) → TT w D pm_247 (113, [(0, .ref 189), (1, .int (i32 (m.1 8))), (2, .long (i64 (m.1 12)))], [], (mhp (mO m57 [] []) c, N), 0, 0) (Q_wantUnit m c N B) := by
    intro m57 Tm57 Fm57 ic59 ic60
    have q61_7 : 0 ≤ m57.1 7 ∧ m57.1 7 ≤ 330 := Tm57.1 7
    have q61_8 : 0 ≤ m57.1 8 ∧ m57.1 8 ≤ 4000 := Tm57.1 8
    have q61_9 : 0 ≤ m57.1 9 ∧ m57.1 9 ≤ 4000 := Tm57.1 9
    have q61_10 : 0 ≤ m57.1 10 ∧ m57.1 10 ≤ 8 := Tm57.1 10
    have q61_11 : (-1) ≤ m57.1 11 ∧ m57.1 11 ≤ 4000 := Tm57.1 11
    have q61_12 : (-9223372036854775808) ≤ m57.1 12 ∧ m57.1 12 ≤ 9223372036854775807 := Tm57.1 12
    have q61_28 : 0 ≤ m57.1 28 ∧ m57.1 28 ≤ 800 := Tm57.1 28
    refine T_ld 114 (.ref 189) rfl (fun _ => rfl) ?_
    refine T_ld 116 (.int (i32 64)) rfl (fun _ => rfl) ?_
    refine T_ld 117 (.int (i32 (m.1 8))) rfl (fun _ => rfl) ?_
    refine T_call 120 249 [.ref 189, .int (i32 64), .int (i32 (m.1 8))] [] rfl (fun _ => rfl) rfl (c_atom w (mO m57 [] []) c N D (by omega) Tm57 64 (m.1 8) ⟨by decide, by decide⟩ (r32 (by omega) (by omega)) (show 0 ≤ (64 : Int) ∧ (64 : Int) ≤ 64 by omega) (show 0 ≤ (m.1 8) ∧ (m.1 8) ≤ 4000 by omega)) (fun rr63 k64 => ?_)
    obtain ⟨m65, Tm65, Fm65, h66, rfl⟩ := k64
    refine ⟨_, _, rfl, ?_⟩
    refine T_nb (st' := []) rfl ?_
    have g67 : 0 ≤ m65.1 69 ∧ m65.1 69 ≤ 1024 := Tm65.1 69
    have g68 : 0 ≤ m65.1 75 ∧ m65.1 75 ≤ 3 := Tm65.1 75
    replace h66 : (m57.1 10) = 0 → (m65.1 75) = 1 ∧ (m65.1 69) = (64 : Int) := h66
    refine T_ld 121 (.ref 189) rfl (fun _ => rfl) ?_
    refine T_ld 122 (.int (i32 1)) rfl (fun _ => rfl) ?_
    refine T_pf (l' := [(71, 1)]) 125 1 rfl rfl rfl rfl rfl rfl ?_
    refine T_ld 126 (.ref 189) rfl (fun _ => rfl) ?_
    refine T_ld 127 (.long (i64 (m.1 12))) rfl (fun _ => rfl) ?_
    refine T_pf (l' := [(71, 1), (72, (m.1 12))]) 130 (m.1 12) rfl rfl rfl rfl rfl rfl ?_
    have g69 : (-9223372036854775808) ≤ (m.1 12) ∧ (m.1 12) ≤ 9223372036854775807 := ⟨by omega, by omega⟩
    refine T_goto 219 rfl (fun _ => rfl) ?_
    refine T_ret rfl (fun _ => rfl) ?_
    exact ⟨(mO m65 [(71, 1), (72, (m.1 12))] []), (Ty_mO Tm65 rfl rfl ⟨⟨(by omega : (0 : Int) ≤ 1), (by omega : (1 : Int) ≤ 1)⟩, g69, trivial⟩ trivial), (fr_m (fr_s Fm65 (fr_m (fr_s Fm57 (fr_m fr_0 rfl rfl) rfl rfl) rfl rfl) rfl rfl) rfl rfl), (show (m65.1 10) = 0 → (m.1 10) = 0 by rewrite [(show (m65.1 10) = (m57.1 10) from (fr1 Fm65 10 rfl))]; omega), (show LxP (m65.1 7) (m65.1 8) (m65.1 9) (m.1 6) (m65.1 10) by rewrite [(show (m65.1 7) = (m57.1 7) from (fr1 Fm65 7 rfl)), (show (m65.1 8) = (m57.1 8) from (fr1 Fm65 8 rfl)), (show (m65.1 9) = (m57.1 9) from (fr1 Fm65 9 rfl)), (show (m65.1 10) = (m57.1 10) from (fr1 Fm65 10 rfl))]; first | (first | exact hLx | exact (fun _ => hLx (by omega)) | (intro h9; exfalso; omega)) | (exfalso; omega)), (fun (h : (m65.1 10) = 0) => absurd ((show (m65.1 10) = (m57.1 10) from (fr1 Fm65 10 rfl)).symm.trans h) (by omega)), rfl⟩
  have J82_71 : ∀ (m70 : mR), Ty m70 → fr [7, 8, 9, 10, 11, 12, 73, 74] [76, 77, 78, 79, 80] (mO m [] []) m70 → (0 ≤ (m.1 8) ∧ (m.1 8) ≤ 4000) → (1 ≤ (m70.1 10)) → TT w D pm_247 (82, [(0, .ref 189), (1, .int (i32 (m.1 8)))], [], (mhp (mO m70 [] []) c, N), 0, 0) (Q_wantUnit m c N B) := by
    intro m70 Tm70 Fm70 ic72 ic73
    have q74_7 : 0 ≤ m70.1 7 ∧ m70.1 7 ≤ 330 := Tm70.1 7
    have q74_8 : 0 ≤ m70.1 8 ∧ m70.1 8 ≤ 4000 := Tm70.1 8
    have q74_9 : 0 ≤ m70.1 9 ∧ m70.1 9 ≤ 4000 := Tm70.1 9
    have q74_10 : 0 ≤ m70.1 10 ∧ m70.1 10 ≤ 8 := Tm70.1 10
    have q74_11 : (-1) ≤ m70.1 11 ∧ m70.1 11 ≤ 4000 := Tm70.1 11
    have q74_12 : (-9223372036854775808) ≤ m70.1 12 ∧ m70.1 12 ≤ 9223372036854775807 := Tm70.1 12
    have q74_73 : 0 ≤ m70.1 73 ∧ m70.1 73 ≤ 60 := Tm70.1 73
    have q74_74 : 0 ≤ m70.1 74 ∧ m70.1 74 ≤ 24 := Tm70.1 74
    refine T_goto 219 rfl (fun _ => rfl) ?_
    refine T_ret rfl (fun _ => rfl) ?_
    exact ⟨(mO m70 [] []), Tm70, (fr_m (fr_s Fm70 (fr_m fr_0 rfl rfl) rfl rfl) rfl rfl), (show (m70.1 10) = 0 → (m.1 10) = 0 by omega), (show LxP (m70.1 7) (m70.1 8) (m70.1 9) (m.1 6) (m70.1 10) by first | (first | exact hLx | exact (fun _ => hLx (by omega)) | (intro h9; exfalso; omega)) | (exfalso; omega)), (fun (h : (m70.1 10) = 0) => absurd h (by omega)), rfl⟩
  have J50_77 : ∀ (m76 : mR), Ty m76 → fr [10, 11] [] (mO m [] []) m76 → (0 ≤ (m.1 8) ∧ (m.1 8) ≤ 4000) → (1 ≤ (m76.1 10)) → TT w D pm_247 (50, [(0, .ref 189), (1, .int (i32 (m.1 8)))], [], (mhp (mO m76 [] []) c, N), 0, 0) (Q_wantUnit m c N B) := by
    intro m76 Tm76 Fm76 ic78 ic79
    have q80_10 : 0 ≤ m76.1 10 ∧ m76.1 10 ≤ 8 := Tm76.1 10
    have q80_11 : (-1) ≤ m76.1 11 ∧ m76.1 11 ≤ 4000 := Tm76.1 11
    refine T_gf 54 (.int (i32 (m76.1 10))) rfl rfl rfl rfl rfl rfl ?_
    refine T_if 58 57 rfl rfl rfl (r32 (by omega) (by omega)) (fun (h82 : (m76.1 10) ≤ 0) => by exfalso; omega) (fun (h82 : ¬ ((m76.1 10) ≤ 0)) => ?_)
    refine T_ret rfl (fun _ => rfl) ?_
    exact ⟨(mO m76 [] []), Tm76, (fr_m (fr_s Fm76 (fr_m fr_0 rfl rfl) rfl rfl) rfl rfl), (show (m76.1 10) = 0 → (m.1 10) = 0 by omega), (show LxP (m76.1 7) (m76.1 8) (m76.1 9) (m.1 6) (m76.1 10) by rewrite [(show (m76.1 7) = (m.1 7) from (fr1 Fm76 7 rfl)), (show (m76.1 8) = (m.1 8) from (fr1 Fm76 8 rfl)), (show (m76.1 9) = (m.1 9) from (fr1 Fm76 9 rfl))]; first | (first | exact hLx | exact (fun _ => hLx (by omega)) | (intro h9; exfalso; omega)) | (exfalso; omega)), (fun (h : (m76.1 10) = 0) => absurd h (by omega)), rfl⟩
  refine T_gf 4 (.int (i32 (m.1 8))) rfl rfl rfl rfl rfl rfl ?_
  refine T_sto 5 [(1, .int (i32 (m.1 8))), (0, .ref 189)] rfl (fun _ => rfl) ?_
  refine T_gf 9 (.int (i32 (m.1 7))) rfl rfl rfl rfl rfl rfl ?_
  refine T_ld 11 (.int (i32 126)) rfl (fun _ => rfl) ?_
  refine T_icmp 32 14 rfl rfl rfl (r32 (by omega) (by omega)) ⟨by decide, by decide⟩ (fun (h83 : (m.1 7) = 126) => ?_) (fun (h83 : ¬ ((m.1 7) = 126)) => ?_)
  · skip
    refine T_gf 36 (.int (i32 (m.1 74))) rfl rfl rfl rfl rfl rfl ?_
    refine T_ld 38 (.int (i32 24)) rfl (fun _ => rfl) ?_
    refine T_icmp 50 41 rfl rfl rfl (r32 (by omega) (by omega)) ⟨by decide, by decide⟩ (fun (h84 : (m.1 74) ≠ 24) => ?_) (fun (h84 : ¬ ((m.1 74) ≠ 24)) => ?_)
    · skip
      refine T_gf 54 (.int (i32 (m.1 10))) rfl rfl rfl rfl rfl rfl ?_
      refine T_if 58 57 rfl rfl rfl (r32 (by omega) (by omega)) (fun (h85 : (m.1 10) ≤ 0) => ?_) (fun (h85 : ¬ ((m.1 10) ≤ 0)) => by exfalso; omega)
      refine T_ld 59 (.ref 189) rfl (fun _ => rfl) ?_
      refine T_ld 60 (.ref 189) rfl (fun _ => rfl) ?_
      refine T_gf1 63 (.int (i32 (m.1 74))) rfl rfl rfl rfl ?_
      refine T_ld 64 (.int (i32 1)) rfl (fun _ => rfl) ?_
      refine T_iadd 65 rfl rfl ?_
      refine T_pf (l' := [(74, (m.1 74) + 1)]) 68 ((m.1 74) + 1) rfl rfl rfl rfl rfl rfl ?_
      have g86 : 0 ≤ (m.1 74) + 1 ∧ (m.1 74) + 1 ≤ 24 := ⟨by omega, by omega⟩
      refine T_ld 69 (.ref 189) rfl (fun _ => rfl) ?_
      refine T_ld 70 (.int (i32 1)) rfl (fun _ => rfl) ?_
      refine T_ld 71 (.int (i32 (m.1 8))) rfl (fun _ => rfl) ?_
      refine T_gf 75 (.int (i32 (m.1 7))) rfl rfl rfl rfl rfl rfl ?_
      refine T_call 78 246 [.ref 189, .int (i32 1), .int (i32 (m.1 8)), .int (i32 (m.1 7))] [] rfl (fun _ => rfl) rfl (c_open w (mO m [(74, (m.1 74) + 1)] []) c N D (by omega) (Ty_mO hT rfl rfl ⟨g86, trivial⟩ trivial) 1 (m.1 8) (m.1 7) ⟨by decide, by decide⟩ (r32 (by omega) (by omega)) (r32 (by omega) (by omega)) (show (m.1 73) ≤ 59 by omega) (show 0 ≤ (1 : Int) ∧ (1 : Int) ≤ 2 by omega) (show 0 ≤ (m.1 8) ∧ (m.1 8) ≤ 4000 by omega) (show 0 ≤ (m.1 7) ∧ (m.1 7) ≤ 330 by omega)) (fun rr87 k88 => ?_)
      obtain ⟨m89, Tm89, Fm89, h90, h91, h92, h93, h94, h95, rfl⟩ := k88
      refine ⟨_, _, rfl, ?_⟩
      refine T_nb (st' := []) rfl ?_
      have g96 : 0 ≤ m89.1 73 ∧ m89.1 73 ≤ 60 := Tm89.1 73
      replace h90 : (m89.1 73) = (m.1 73) + 1 := h90
      have hO0 := h90
      replace h91 : (m89.2 76) = upI (m.2 76) (m.1 73) (1 : Int) := h91
      have hO1 := h91
      replace h92 : (m89.2 78) = upI (m.2 78) (m.1 73) (m.1 7) := h92
      have hO2 := h92
      replace h93 : (m89.2 79) = upI (m.2 79) (m.1 73) 0 := h93
      have hO3 := h93
      replace h94 : ∀ j, j < 9 * (m.1 73) → (m89.2 80) j = (m.2 80) j := h94
      have hW1 := h94
      replace h95 : ∀ j, 9 * (m.1 73) ≤ j → j < 9 * (m.1 73) + 9 → (m89.2 80) j = -1 := h95
      have hW2 := h95
      have u97 : (m.1 8) ≤ (m.1 8) := by omega
      have hAgC : agr (m.2 65) (m.2 65) (m.1 28) := by first | exact agr_r _ _ | exact hAgC | exact agr_t hAgC hAg (by omega)
      have u98 : 1 ≤ (m89.1 73) := by omega
      refine T_ld 79 (.ref 189) rfl (fun _ => rfl) ?_
      refine T_call 82 212 [.ref 189] [] rfl (fun _ => rfl) rfl (d_next w (mO m89 [] []) c N D (by omega) Tm89 (show (m89.1 10) = 0 → (m89.1 8) + (m89.1 9) ≤ (m89.1 6) by rewrite [(show (m89.1 10) = (m.1 10) from (fr1 Fm89 10 rfl)), (show (m89.1 8) = (m.1 8) from (fr1 Fm89 8 rfl)), (show (m89.1 9) = (m.1 9) from (fr1 Fm89 9 rfl)), (show (m89.1 6) = (m.1 6) from (fr1 Fm89 6 rfl))]; first | omega | (intro h9; have h8 := hLx h9; omega))) (fun rr99 k100 => ?_)
      obtain ⟨m101, Tm101, Fm101, h102, h103, h104, h105, rfl⟩ := k100
      refine ⟨_, _, rfl, ?_⟩
      refine T_nb (st' := []) rfl ?_
      have g106 : 0 ≤ m101.1 7 ∧ m101.1 7 ≤ 330 := Tm101.1 7
      have g107 : 0 ≤ m101.1 8 ∧ m101.1 8 ≤ 4000 := Tm101.1 8
      have g108 : 0 ≤ m101.1 9 ∧ m101.1 9 ≤ 4000 := Tm101.1 9
      have g109 : 0 ≤ m101.1 10 ∧ m101.1 10 ≤ 8 := Tm101.1 10
      have g110 : (-1) ≤ m101.1 11 ∧ m101.1 11 ≤ 4000 := Tm101.1 11
      have g111 : (-9223372036854775808) ≤ m101.1 12 ∧ m101.1 12 ≤ 9223372036854775807 := Tm101.1 12
      by_cases hf112 : (m101.1 10) = 0
      · skip
        replace h102 : LxP (m101.1 7) (m101.1 8) (m101.1 9) (m89.1 6) (m101.1 10) := h102
        rewrite [(show (m89.1 6) = (m.1 6) from (fr1 Fm89 6 rfl))] at h102
        have hLx := h102
        replace h103 : (m89.1 10) = 0 := h103 hf112
        rewrite [(show (m89.1 10) = (m.1 10) from (fr1 Fm89 10 rfl))] at h103
        replace h104 : (m89.1 8) ≤ (m101.1 8) := h104
        rewrite [(show (m89.1 8) = (m.1 8) from (fr1 Fm89 8 rfl))] at h104
        replace h105 : (m89.1 8) + (m89.1 9) ≤ (m101.1 8) := h105 hf112
        rewrite [(show (m89.1 8) = (m.1 8) from (fr1 Fm89 8 rfl)), (show (m89.1 9) = (m.1 9) from (fr1 Fm89 9 rfl))] at h105
        have u113 : (m.1 8) + 1 ≤ (m101.1 8) := by omega
        have hAgC : agr (m.2 65) (m.2 65) (m.1 28) := by first | exact agr_r _ _ | exact hAgC | exact agr_t hAgC hAg (by omega)
        have u114 : 1 ≤ (m89.1 73) := by omega
        have hXE : XS (m.2 65) (m.2 67) (m89.2 76) (m89.2 78) (m89.2 79) (m89.2 80) B (m.1 28) (m89.1 73) ((m.1 74) + 1) (um (m.1 75)) := by
          rw [hO0, hO1, hO2, hO3, show um (m.1 75) = 0 from if_pos (by omega)]
          exact XS_pre hXS (by omega) (by omega) hW1 hW2
        refine T_goto 219 rfl (fun _ => rfl) ?_
        refine T_ret rfl (fun _ => rfl) ?_
        exact ⟨(mO m101 [] []), Tm101, (fr_m (fr_s Fm101 (fr_m (fr_s Fm89 (fr_m fr_0 rfl rfl) rfl rfl) rfl rfl) rfl rfl) rfl rfl), (show (m101.1 10) = 0 → (m.1 10) = 0 by omega), (show LxP (m101.1 7) (m101.1 8) (m101.1 9) (m.1 6) (m101.1 10) by first | (first | exact hLx | exact (fun _ => hLx (by omega)) | (intro h9; exfalso; omega)) | (exfalso; omega)), (fun _ => ⟨(show (m.1 8) + 1 ≤ (m101.1 8) by omega), (show (m101.1 75) = 0 ∨ ((m101.1 75) = 1 ∧ (m101.1 69) ≤ 64) by rewrite [(show (m101.1 75) = (m.1 75) from ((fr1 Fm101 75 rfl).trans (fr1 Fm89 75 rfl))), (show (m101.1 69) = (m.1 69) from ((fr1 Fm101 69 rfl).trans (fr1 Fm89 69 rfl)))]; omega), (show 1 ≤ (m101.1 73) by rewrite [(show (m101.1 73) = (m89.1 73) from (fr1 Fm101 73 rfl))]; omega), (show (m.1 28) ≤ (m101.1 28) by rewrite [(show (m101.1 28) = (m.1 28) from ((fr1 Fm101 28 rfl).trans (fr1 Fm89 28 rfl)))]; omega), (show XS (m101.2 65) (m101.2 67) (m101.2 76) (m101.2 78) (m101.2 79) (m101.2 80) B (m101.1 28) (m101.1 73) (m101.1 74) (um (m101.1 75)) by rewrite [(show (m101.2 65) = (m.2 65) from ((fr2 Fm101 65 rfl).trans (fr2 Fm89 65 rfl))), (show (m101.2 67) = (m.2 67) from ((fr2 Fm101 67 rfl).trans (fr2 Fm89 67 rfl))), (show (m101.2 76) = (m89.2 76) from (fr2 Fm101 76 rfl)), (show (m101.2 78) = (m89.2 78) from (fr2 Fm101 78 rfl)), (show (m101.2 79) = (m89.2 79) from (fr2 Fm101 79 rfl)), (show (m101.2 80) = (m89.2 80) from (fr2 Fm101 80 rfl)), (show (m101.1 28) = (m.1 28) from ((fr1 Fm101 28 rfl).trans (fr1 Fm89 28 rfl))), (show (m101.1 73) = (m89.1 73) from (fr1 Fm101 73 rfl)), (show (m101.1 74) = ((m.1 74) + 1) from ((fr1 Fm101 74 rfl).trans (fr1 Fm89 74 rfl))), (show (m101.1 75) = (m.1 75) from ((fr1 Fm101 75 rfl).trans (fr1 Fm89 75 rfl)))]; first | (exact hXE) | (exfalso; omega)), (show agr (m.2 65) (m101.2 65) (m.1 28) by rewrite [(show (m101.2 65) = (m.2 65) from ((fr2 Fm101 65 rfl).trans (fr2 Fm89 65 rfl)))]; first | (exact hAgC) | (exfalso; omega))⟩), rfl⟩
      · skip
        replace h102 : LxP (m101.1 7) (m101.1 8) (m101.1 9) (m89.1 6) (m101.1 10) := h102
        rewrite [(show (m89.1 6) = (m.1 6) from (fr1 Fm89 6 rfl))] at h102
        have hLx := h102
        clear h103
        replace h104 : (m89.1 8) ≤ (m101.1 8) := h104
        rewrite [(show (m89.1 8) = (m.1 8) from (fr1 Fm89 8 rfl))] at h104
        clear h105
        have hf115 : 1 ≤ (m101.1 10) := by omega
        refine Tm_lv (a := [(0, .ref 189), (1, .int (i32 (m.1 8)))]) rfl rfl ⟨rfl, rfl, trivial⟩ ?_
        exact J82_71 (mO m101 [] []) Tm101 (fr_m (fr_s Fm101 (fr_m (fr_s Fm89 (fr_m fr_0 rfl rfl) rfl rfl) rfl rfl) rfl rfl) rfl rfl) (show 0 ≤ (m.1 8) ∧ (m.1 8) ≤ 4000 by omega) (show 1 ≤ (m101.1 10) by omega)
    · skip
      refine T_ld 42 (.ref 189) rfl (fun _ => rfl) ?_
      refine T_ld 43 (.int (i32 4)) rfl (fun _ => rfl) ?_
      refine T_gf 47 (.int (i32 (m.1 8))) rfl rfl rfl rfl rfl rfl ?_
      refine T_call 50 222 [.ref 189, .int (i32 4), .int (i32 (m.1 8))] [] rfl (fun _ => rfl) rfl (d_wrong w (mO m [] []) c N D (by omega) hT 4 (m.1 8) ⟨by decide, by decide⟩ (r32 (by omega) (by omega)) (show 1 ≤ (4 : Int) ∧ (4 : Int) ≤ 8 by omega) (show 0 ≤ (m.1 8) ∧ (m.1 8) ≤ 4000 by omega)) (fun rr116 k117 => ?_)
      obtain ⟨m118, Tm118, Fm118, h119, rfl⟩ := k117
      refine ⟨_, _, rfl, ?_⟩
      refine T_nb (st' := []) rfl ?_
      have g120 : 0 ≤ m118.1 10 ∧ m118.1 10 ≤ 8 := Tm118.1 10
      have g121 : (-1) ≤ m118.1 11 ∧ m118.1 11 ≤ 4000 := Tm118.1 11
      replace h119 : (0 < (m.1 10) → (m118.1 10) = (m.1 10) ∧ (m118.1 11) = (m.1 11)) ∧ ((m.1 10) ≤ 0 → (m118.1 10) = (4 : Int) ∧ (m118.1 11) = (m.1 8)) := h119
      have hf122 : 1 ≤ (m118.1 10) := by omega
      refine Tm_lv (a := [(0, .ref 189), (1, .int (i32 (m.1 8)))]) rfl rfl ⟨rfl, rfl, trivial⟩ ?_
      exact J50_77 (mO m118 [] []) Tm118 (fr_m (fr_s Fm118 (fr_m fr_0 rfl rfl) rfl rfl) rfl rfl) (show 0 ≤ (m.1 8) ∧ (m.1 8) ≤ 4000 by omega) (show 1 ≤ (m118.1 10) by omega)
  · skip
    refine T_gf 18 (.int (i32 (m.1 7))) rfl rfl rfl rfl rfl rfl ?_
    refine T_ld 20 (.int (i32 33)) rfl (fun _ => rfl) ?_
    refine T_icmp 32 23 rfl rfl rfl (r32 (by omega) (by omega)) ⟨by decide, by decide⟩ (fun (h123 : (m.1 7) = 33) => ?_) (fun (h123 : ¬ ((m.1 7) = 33)) => ?_)
    · skip
      refine T_gf 36 (.int (i32 (m.1 74))) rfl rfl rfl rfl rfl rfl ?_
      refine T_ld 38 (.int (i32 24)) rfl (fun _ => rfl) ?_
      refine T_icmp 50 41 rfl rfl rfl (r32 (by omega) (by omega)) ⟨by decide, by decide⟩ (fun (h124 : (m.1 74) ≠ 24) => ?_) (fun (h124 : ¬ ((m.1 74) ≠ 24)) => ?_)
      · skip
        refine T_gf 54 (.int (i32 (m.1 10))) rfl rfl rfl rfl rfl rfl ?_
        refine T_if 58 57 rfl rfl rfl (r32 (by omega) (by omega)) (fun (h125 : (m.1 10) ≤ 0) => ?_) (fun (h125 : ¬ ((m.1 10) ≤ 0)) => by exfalso; omega)
        refine T_ld 59 (.ref 189) rfl (fun _ => rfl) ?_
        refine T_ld 60 (.ref 189) rfl (fun _ => rfl) ?_
        refine T_gf1 63 (.int (i32 (m.1 74))) rfl rfl rfl rfl ?_
        refine T_ld 64 (.int (i32 1)) rfl (fun _ => rfl) ?_
        refine T_iadd 65 rfl rfl ?_
        refine T_pf (l' := [(74, (m.1 74) + 1)]) 68 ((m.1 74) + 1) rfl rfl rfl rfl rfl rfl ?_
        have g126 : 0 ≤ (m.1 74) + 1 ∧ (m.1 74) + 1 ≤ 24 := ⟨by omega, by omega⟩
        refine T_ld 69 (.ref 189) rfl (fun _ => rfl) ?_
        refine T_ld 70 (.int (i32 1)) rfl (fun _ => rfl) ?_
        refine T_ld 71 (.int (i32 (m.1 8))) rfl (fun _ => rfl) ?_
        refine T_gf 75 (.int (i32 (m.1 7))) rfl rfl rfl rfl rfl rfl ?_
        refine T_call 78 246 [.ref 189, .int (i32 1), .int (i32 (m.1 8)), .int (i32 (m.1 7))] [] rfl (fun _ => rfl) rfl (c_open w (mO m [(74, (m.1 74) + 1)] []) c N D (by omega) (Ty_mO hT rfl rfl ⟨g126, trivial⟩ trivial) 1 (m.1 8) (m.1 7) ⟨by decide, by decide⟩ (r32 (by omega) (by omega)) (r32 (by omega) (by omega)) (show (m.1 73) ≤ 59 by omega) (show 0 ≤ (1 : Int) ∧ (1 : Int) ≤ 2 by omega) (show 0 ≤ (m.1 8) ∧ (m.1 8) ≤ 4000 by omega) (show 0 ≤ (m.1 7) ∧ (m.1 7) ≤ 330 by omega)) (fun rr127 k128 => ?_)
        obtain ⟨m129, Tm129, Fm129, h130, h131, h132, h133, h134, h135, rfl⟩ := k128
        refine ⟨_, _, rfl, ?_⟩
        refine T_nb (st' := []) rfl ?_
        have g136 : 0 ≤ m129.1 73 ∧ m129.1 73 ≤ 60 := Tm129.1 73
        replace h130 : (m129.1 73) = (m.1 73) + 1 := h130
        have hO0 := h130
        replace h131 : (m129.2 76) = upI (m.2 76) (m.1 73) (1 : Int) := h131
        have hO1 := h131
        replace h132 : (m129.2 78) = upI (m.2 78) (m.1 73) (m.1 7) := h132
        have hO2 := h132
        replace h133 : (m129.2 79) = upI (m.2 79) (m.1 73) 0 := h133
        have hO3 := h133
        replace h134 : ∀ j, j < 9 * (m.1 73) → (m129.2 80) j = (m.2 80) j := h134
        have hW1 := h134
        replace h135 : ∀ j, 9 * (m.1 73) ≤ j → j < 9 * (m.1 73) + 9 → (m129.2 80) j = -1 := h135
        have hW2 := h135
        have u137 : (m.1 8) ≤ (m.1 8) := by omega
        have hAgC : agr (m.2 65) (m.2 65) (m.1 28) := by first | exact agr_r _ _ | exact hAgC | exact agr_t hAgC hAg (by omega)
        have u138 : 1 ≤ (m129.1 73) := by omega
        refine T_ld 79 (.ref 189) rfl (fun _ => rfl) ?_
        refine T_call 82 212 [.ref 189] [] rfl (fun _ => rfl) rfl (d_next w (mO m129 [] []) c N D (by omega) Tm129 (show (m129.1 10) = 0 → (m129.1 8) + (m129.1 9) ≤ (m129.1 6) by rewrite [(show (m129.1 10) = (m.1 10) from (fr1 Fm129 10 rfl)), (show (m129.1 8) = (m.1 8) from (fr1 Fm129 8 rfl)), (show (m129.1 9) = (m.1 9) from (fr1 Fm129 9 rfl)), (show (m129.1 6) = (m.1 6) from (fr1 Fm129 6 rfl))]; first | omega | (intro h9; have h8 := hLx h9; omega))) (fun rr139 k140 => ?_)
        obtain ⟨m141, Tm141, Fm141, h142, h143, h144, h145, rfl⟩ := k140
        refine ⟨_, _, rfl, ?_⟩
        refine T_nb (st' := []) rfl ?_
        have g146 : 0 ≤ m141.1 7 ∧ m141.1 7 ≤ 330 := Tm141.1 7
        have g147 : 0 ≤ m141.1 8 ∧ m141.1 8 ≤ 4000 := Tm141.1 8
        have g148 : 0 ≤ m141.1 9 ∧ m141.1 9 ≤ 4000 := Tm141.1 9
        have g149 : 0 ≤ m141.1 10 ∧ m141.1 10 ≤ 8 := Tm141.1 10
        have g150 : (-1) ≤ m141.1 11 ∧ m141.1 11 ≤ 4000 := Tm141.1 11
        have g151 : (-9223372036854775808) ≤ m141.1 12 ∧ m141.1 12 ≤ 9223372036854775807 := Tm141.1 12
        by_cases hf152 : (m141.1 10) = 0
        · skip
          replace h142 : LxP (m141.1 7) (m141.1 8) (m141.1 9) (m129.1 6) (m141.1 10) := h142
          rewrite [(show (m129.1 6) = (m.1 6) from (fr1 Fm129 6 rfl))] at h142
          have hLx := h142
          replace h143 : (m129.1 10) = 0 := h143 hf152
          rewrite [(show (m129.1 10) = (m.1 10) from (fr1 Fm129 10 rfl))] at h143
          replace h144 : (m129.1 8) ≤ (m141.1 8) := h144
          rewrite [(show (m129.1 8) = (m.1 8) from (fr1 Fm129 8 rfl))] at h144
          replace h145 : (m129.1 8) + (m129.1 9) ≤ (m141.1 8) := h145 hf152
          rewrite [(show (m129.1 8) = (m.1 8) from (fr1 Fm129 8 rfl)), (show (m129.1 9) = (m.1 9) from (fr1 Fm129 9 rfl))] at h145
          have u153 : (m.1 8) + 1 ≤ (m141.1 8) := by omega
          have hAgC : agr (m.2 65) (m.2 65) (m.1 28) := by first | exact agr_r _ _ | exact hAgC | exact agr_t hAgC hAg (by omega)
          have u154 : 1 ≤ (m129.1 73) := by omega
          have hXE : XS (m.2 65) (m.2 67) (m129.2 76) (m129.2 78) (m129.2 79) (m129.2 80) B (m.1 28) (m129.1 73) ((m.1 74) + 1) (um (m.1 75)) := by
            rw [hO0, hO1, hO2, hO3, show um (m.1 75) = 0 from if_pos (by omega)]
            exact XS_pre hXS (by omega) (by omega) hW1 hW2
          refine T_goto 219 rfl (fun _ => rfl) ?_
          refine T_ret rfl (fun _ => rfl) ?_
          exact ⟨(mO m141 [] []), Tm141, (fr_m (fr_s Fm141 (fr_m (fr_s Fm129 (fr_m fr_0 rfl rfl) rfl rfl) rfl rfl) rfl rfl) rfl rfl), (show (m141.1 10) = 0 → (m.1 10) = 0 by omega), (show LxP (m141.1 7) (m141.1 8) (m141.1 9) (m.1 6) (m141.1 10) by first | (first | exact hLx | exact (fun _ => hLx (by omega)) | (intro h9; exfalso; omega)) | (exfalso; omega)), (fun _ => ⟨(show (m.1 8) + 1 ≤ (m141.1 8) by omega), (show (m141.1 75) = 0 ∨ ((m141.1 75) = 1 ∧ (m141.1 69) ≤ 64) by rewrite [(show (m141.1 75) = (m.1 75) from ((fr1 Fm141 75 rfl).trans (fr1 Fm129 75 rfl))), (show (m141.1 69) = (m.1 69) from ((fr1 Fm141 69 rfl).trans (fr1 Fm129 69 rfl)))]; omega), (show 1 ≤ (m141.1 73) by rewrite [(show (m141.1 73) = (m129.1 73) from (fr1 Fm141 73 rfl))]; omega), (show (m.1 28) ≤ (m141.1 28) by rewrite [(show (m141.1 28) = (m.1 28) from ((fr1 Fm141 28 rfl).trans (fr1 Fm129 28 rfl)))]; omega), (show XS (m141.2 65) (m141.2 67) (m141.2 76) (m141.2 78) (m141.2 79) (m141.2 80) B (m141.1 28) (m141.1 73) (m141.1 74) (um (m141.1 75)) by rewrite [(show (m141.2 65) = (m.2 65) from ((fr2 Fm141 65 rfl).trans (fr2 Fm129 65 rfl))), (show (m141.2 67) = (m.2 67) from ((fr2 Fm141 67 rfl).trans (fr2 Fm129 67 rfl))), (show (m141.2 76) = (m129.2 76) from (fr2 Fm141 76 rfl)), (show (m141.2 78) = (m129.2 78) from (fr2 Fm141 78 rfl)), (show (m141.2 79) = (m129.2 79) from (fr2 Fm141 79 rfl)), (show (m141.2 80) = (m129.2 80) from (fr2 Fm141 80 rfl)), (show (m141.1 28) = (m.1 28) from ((fr1 Fm141 28 rfl).trans (fr1 Fm129 28 rfl))), (show (m141.1 73) = (m129.1 73) from (fr1 Fm141 73 rfl)), (show (m141.1 74) = ((m.1 74) + 1) from ((fr1 Fm141 74 rfl).trans (fr1 Fm129 74 rfl))), (show (m141.1 75) = (m.1 75) from ((fr1 Fm141 75 rfl).trans (fr1 Fm129 75 rfl)))]; first | (exact hXE) | (exfalso; omega)), (show agr (m.2 65) (m141.2 65) (m.1 28) by rewrite [(show (m141.2 65) = (m.2 65) from ((fr2 Fm141 65 rfl).trans (fr2 Fm129 65 rfl)))]; first | (exact hAgC) | (exfalso; omega))⟩), rfl⟩
        · skip
          replace h142 : LxP (m141.1 7) (m141.1 8) (m141.1 9) (m129.1 6) (m141.1 10) := h142
          rewrite [(show (m129.1 6) = (m.1 6) from (fr1 Fm129 6 rfl))] at h142
          have hLx := h142
          clear h143
          replace h144 : (m129.1 8) ≤ (m141.1 8) := h144
          rewrite [(show (m129.1 8) = (m.1 8) from (fr1 Fm129 8 rfl))] at h144
          clear h145
          have hf155 : 1 ≤ (m141.1 10) := by omega
          refine Tm_lv (a := [(0, .ref 189), (1, .int (i32 (m.1 8)))]) rfl rfl ⟨rfl, rfl, trivial⟩ ?_
          exact J82_71 (mO m141 [] []) Tm141 (fr_m (fr_s Fm141 (fr_m (fr_s Fm129 (fr_m fr_0 rfl rfl) rfl rfl) rfl rfl) rfl rfl) rfl rfl) (show 0 ≤ (m.1 8) ∧ (m.1 8) ≤ 4000 by omega) (show 1 ≤ (m141.1 10) by omega)
      · skip
        refine T_ld 42 (.ref 189) rfl (fun _ => rfl) ?_
        refine T_ld 43 (.int (i32 4)) rfl (fun _ => rfl) ?_
        refine T_gf 47 (.int (i32 (m.1 8))) rfl rfl rfl rfl rfl rfl ?_
        refine T_call 50 222 [.ref 189, .int (i32 4), .int (i32 (m.1 8))] [] rfl (fun _ => rfl) rfl (d_wrong w (mO m [] []) c N D (by omega) hT 4 (m.1 8) ⟨by decide, by decide⟩ (r32 (by omega) (by omega)) (show 1 ≤ (4 : Int) ∧ (4 : Int) ≤ 8 by omega) (show 0 ≤ (m.1 8) ∧ (m.1 8) ≤ 4000 by omega)) (fun rr156 k157 => ?_)
        obtain ⟨m158, Tm158, Fm158, h159, rfl⟩ := k157
        refine ⟨_, _, rfl, ?_⟩
        refine T_nb (st' := []) rfl ?_
        have g160 : 0 ≤ m158.1 10 ∧ m158.1 10 ≤ 8 := Tm158.1 10
        have g161 : (-1) ≤ m158.1 11 ∧ m158.1 11 ≤ 4000 := Tm158.1 11
        replace h159 : (0 < (m.1 10) → (m158.1 10) = (m.1 10) ∧ (m158.1 11) = (m.1 11)) ∧ ((m.1 10) ≤ 0 → (m158.1 10) = (4 : Int) ∧ (m158.1 11) = (m.1 8)) := h159
        have hf162 : 1 ≤ (m158.1 10) := by omega
        refine Tm_lv (a := [(0, .ref 189), (1, .int (i32 (m.1 8)))]) rfl rfl ⟨rfl, rfl, trivial⟩ ?_
        exact J50_77 (mO m158 [] []) Tm158 (fr_m (fr_s Fm158 (fr_m fr_0 rfl rfl) rfl rfl) rfl rfl) (show 0 ≤ (m.1 8) ∧ (m.1 8) ≤ 4000 by omega) (show 1 ≤ (m158.1 10) by omega)
    · skip
      refine T_gf 27 (.int (i32 (m.1 7))) rfl rfl rfl rfl rfl rfl ?_
      refine T_ld 29 (.int (i32 45)) rfl (fun _ => rfl) ?_
      refine T_icmp 85 32 rfl rfl rfl (r32 (by omega) (by omega)) ⟨by decide, by decide⟩ (fun (h163 : (m.1 7) ≠ 45) => ?_) (fun (h163 : ¬ ((m.1 7) ≠ 45)) => ?_)
      · skip
        refine T_gf 89 (.int (i32 (m.1 7))) rfl rfl rfl rfl rfl rfl ?_
        refine T_ld 90 (.int (i32 2)) rfl (fun _ => rfl) ?_
        refine T_icmp 133 93 rfl rfl rfl (r32 (by omega) (by omega)) ⟨by decide, by decide⟩ (fun (h164 : (m.1 7) ≠ 2) => ?_) (fun (h164 : ¬ ((m.1 7) ≠ 2)) => ?_)
        · skip
          refine T_gf 137 (.int (i32 (m.1 7))) rfl rfl rfl rfl rfl rfl ?_
          refine T_ld 138 (.int (i32 1)) rfl (fun _ => rfl) ?_
          refine T_icmp 149 141 rfl rfl rfl (r32 (by omega) (by omega)) ⟨by decide, by decide⟩ (fun (h165 : (m.1 7) ≠ 1) => ?_) (fun (h165 : ¬ ((m.1 7) ≠ 1)) => ?_)
          · skip
            refine T_gf 153 (.int (i32 (m.1 7))) rfl rfl rfl rfl rfl rfl ?_
            refine T_ld 156 (.int (i32 329)) rfl (fun _ => rfl) ?_
            refine T_icmp 188 159 rfl rfl rfl (r32 (by omega) (by omega)) ⟨by decide, by decide⟩ (fun (h166 : (m.1 7) ≠ 329) => ?_) (fun (h166 : ¬ ((m.1 7) ≠ 329)) => ?_)
            · skip
              refine T_gf 192 (.int (i32 (m.1 7))) rfl rfl rfl rfl rfl rfl ?_
              refine T_ld 194 (.int (i32 40)) rfl (fun _ => rfl) ?_
              refine T_icmp 215 197 rfl rfl rfl (r32 (by omega) (by omega)) ⟨by decide, by decide⟩ (fun (h167 : (m.1 7) ≠ 40) => ?_) (fun (h167 : ¬ ((m.1 7) ≠ 40)) => ?_)
              · skip
                refine T_ld 216 (.ref 189) rfl (fun _ => rfl) ?_
                refine T_call 219 226 [.ref 189] [] rfl (fun _ => rfl) rfl (d_bad w (mO m [] []) c N D (by omega) hT ) (fun rr168 k169 => ?_)
                obtain ⟨m170, Tm170, Fm170, h171, rfl⟩ := k169
                refine ⟨_, _, rfl, ?_⟩
                refine T_nb (st' := []) rfl ?_
                have g172 : 0 ≤ m170.1 10 ∧ m170.1 10 ≤ 8 := Tm170.1 10
                have g173 : (-1) ≤ m170.1 11 ∧ m170.1 11 ≤ 4000 := Tm170.1 11
                replace h171 : (0 < (m.1 10) → (m170.1 10) = (m.1 10) ∧ (m170.1 11) = (m.1 11)) ∧ ((m.1 10) ≤ 0 → (m170.1 10) = 1 ∧ (m170.1 11) = (m.1 8)) := h171
                have hf174 : 1 ≤ (m170.1 10) := by omega
                refine T_ret rfl (fun _ => rfl) ?_
                exact ⟨(mO m170 [] []), Tm170, (fr_m (fr_s Fm170 (fr_m fr_0 rfl rfl) rfl rfl) rfl rfl), (show (m170.1 10) = 0 → (m.1 10) = 0 by omega), (show LxP (m170.1 7) (m170.1 8) (m170.1 9) (m.1 6) (m170.1 10) by rewrite [(show (m170.1 7) = (m.1 7) from (fr1 Fm170 7 rfl)), (show (m170.1 8) = (m.1 8) from (fr1 Fm170 8 rfl)), (show (m170.1 9) = (m.1 9) from (fr1 Fm170 9 rfl))]; first | (first | exact hLx | exact (fun _ => hLx (by omega)) | (intro h9; exfalso; omega)) | (exfalso; omega)), (fun (h : (m170.1 10) = 0) => absurd h (by omega)), rfl⟩
              · skip
                refine T_ld 198 (.ref 189) rfl (fun _ => rfl) ?_
                refine T_ld 199 (.int (i32 2)) rfl (fun _ => rfl) ?_
                refine T_ld 200 (.int (i32 (m.1 8))) rfl (fun _ => rfl) ?_
                refine T_ld 201 (.int (i32 0)) rfl (fun _ => rfl) ?_
                refine T_call 204 246 [.ref 189, .int (i32 2), .int (i32 (m.1 8)), .int (i32 0)] [] rfl (fun _ => rfl) rfl (c_open w (mO m [] []) c N D (by omega) hT 2 (m.1 8) 0 ⟨by decide, by decide⟩ (r32 (by omega) (by omega)) ⟨by decide, by decide⟩ (show (m.1 73) ≤ 59 by omega) (show 0 ≤ (2 : Int) ∧ (2 : Int) ≤ 2 by omega) (show 0 ≤ (m.1 8) ∧ (m.1 8) ≤ 4000 by omega) (show 0 ≤ (0 : Int) ∧ (0 : Int) ≤ 330 by omega)) (fun rr175 k176 => ?_)
                obtain ⟨m177, Tm177, Fm177, h178, h179, h180, h181, h182, h183, rfl⟩ := k176
                refine ⟨_, _, rfl, ?_⟩
                refine T_nb (st' := []) rfl ?_
                have g184 : 0 ≤ m177.1 73 ∧ m177.1 73 ≤ 60 := Tm177.1 73
                replace h178 : (m177.1 73) = (m.1 73) + 1 := h178
                have hO0 := h178
                replace h179 : (m177.2 76) = upI (m.2 76) (m.1 73) (2 : Int) := h179
                have hO1 := h179
                replace h180 : (m177.2 78) = upI (m.2 78) (m.1 73) (0 : Int) := h180
                have hO2 := h180
                replace h181 : (m177.2 79) = upI (m.2 79) (m.1 73) 0 := h181
                have hO3 := h181
                replace h182 : ∀ j, j < 9 * (m.1 73) → (m177.2 80) j = (m.2 80) j := h182
                have hW1 := h182
                replace h183 : ∀ j, 9 * (m.1 73) ≤ j → j < 9 * (m.1 73) + 9 → (m177.2 80) j = -1 := h183
                have hW2 := h183
                have u185 : (m.1 8) ≤ (m.1 8) := by omega
                have hAgC : agr (m.2 65) (m.2 65) (m.1 28) := by first | exact agr_r _ _ | exact hAgC | exact agr_t hAgC hAg (by omega)
                have u186 : 1 ≤ (m177.1 73) := by omega
                refine T_ld 205 (.ref 189) rfl (fun _ => rfl) ?_
                refine T_call 208 212 [.ref 189] [] rfl (fun _ => rfl) rfl (d_next w (mO m177 [] []) c N D (by omega) Tm177 (show (m177.1 10) = 0 → (m177.1 8) + (m177.1 9) ≤ (m177.1 6) by rewrite [(show (m177.1 10) = (m.1 10) from (fr1 Fm177 10 rfl)), (show (m177.1 8) = (m.1 8) from (fr1 Fm177 8 rfl)), (show (m177.1 9) = (m.1 9) from (fr1 Fm177 9 rfl)), (show (m177.1 6) = (m.1 6) from (fr1 Fm177 6 rfl))]; first | omega | (intro h9; have h8 := hLx h9; omega))) (fun rr187 k188 => ?_)
                obtain ⟨m189, Tm189, Fm189, h190, h191, h192, h193, rfl⟩ := k188
                refine ⟨_, _, rfl, ?_⟩
                refine T_nb (st' := []) rfl ?_
                have g194 : 0 ≤ m189.1 7 ∧ m189.1 7 ≤ 330 := Tm189.1 7
                have g195 : 0 ≤ m189.1 8 ∧ m189.1 8 ≤ 4000 := Tm189.1 8
                have g196 : 0 ≤ m189.1 9 ∧ m189.1 9 ≤ 4000 := Tm189.1 9
                have g197 : 0 ≤ m189.1 10 ∧ m189.1 10 ≤ 8 := Tm189.1 10
                have g198 : (-1) ≤ m189.1 11 ∧ m189.1 11 ≤ 4000 := Tm189.1 11
                have g199 : (-9223372036854775808) ≤ m189.1 12 ∧ m189.1 12 ≤ 9223372036854775807 := Tm189.1 12
                by_cases hf200 : (m189.1 10) = 0
                · skip
                  replace h190 : LxP (m189.1 7) (m189.1 8) (m189.1 9) (m177.1 6) (m189.1 10) := h190
                  rewrite [(show (m177.1 6) = (m.1 6) from (fr1 Fm177 6 rfl))] at h190
                  have hLx := h190
                  replace h191 : (m177.1 10) = 0 := h191 hf200
                  rewrite [(show (m177.1 10) = (m.1 10) from (fr1 Fm177 10 rfl))] at h191
                  replace h192 : (m177.1 8) ≤ (m189.1 8) := h192
                  rewrite [(show (m177.1 8) = (m.1 8) from (fr1 Fm177 8 rfl))] at h192
                  replace h193 : (m177.1 8) + (m177.1 9) ≤ (m189.1 8) := h193 hf200
                  rewrite [(show (m177.1 8) = (m.1 8) from (fr1 Fm177 8 rfl)), (show (m177.1 9) = (m.1 9) from (fr1 Fm177 9 rfl))] at h193
                  have u201 : (m.1 8) + 1 ≤ (m189.1 8) := by omega
                  have hAgC : agr (m.2 65) (m.2 65) (m.1 28) := by first | exact agr_r _ _ | exact hAgC | exact agr_t hAgC hAg (by omega)
                  have u202 : 1 ≤ (m177.1 73) := by omega
                  have hXT : XT (m.2 65) (m.2 67) (m177.2 76) (m177.2 78) (m177.2 79) (m177.2 80) B (m.1 28) (m177.1 73) (m.1 74) 0 := by
                    rw [hO0, hO1, hO2, hO3]
                    exact XT_bra hXS (by omega) hW1 hW2
                  have hTop : (m177.1 73) = 0 ∨ (m177.2 76) ((m177.1 73) - 1) = 2 ∨ ((m177.2 76) ((m177.1 73) - 1) = 0 ∧ (m177.2 79) ((m177.1 73) - 1) = 2) := Or.inr (Or.inl (by rw [show (m177.1 73) - 1 = (m.1 73) by omega, hO1, upI_s]))
                  refine T_ld 209 (.ref 189) rfl (fun _ => rfl) ?_
                  refine T_call 212 245 [.ref 189] [] rfl (fun _ => rfl) rfl (c_beginChoice w (mO m189 [] []) c N D (by omega) Tm189 B 0 (fun _ => ⟨(show XT (m189.2 65) (m189.2 67) (m189.2 76) (m189.2 78) (m189.2 79) (m189.2 80) B (m189.1 28) (m189.1 73) (m189.1 74) 0 by rewrite [(show (m189.2 65) = (m.2 65) from ((fr2 Fm189 65 rfl).trans (fr2 Fm177 65 rfl))), (show (m189.2 67) = (m.2 67) from ((fr2 Fm189 67 rfl).trans (fr2 Fm177 67 rfl))), (show (m189.2 76) = (m177.2 76) from (fr2 Fm189 76 rfl)), (show (m189.2 78) = (m177.2 78) from (fr2 Fm189 78 rfl)), (show (m189.2 79) = (m177.2 79) from (fr2 Fm189 79 rfl)), (show (m189.2 80) = (m177.2 80) from (fr2 Fm189 80 rfl)), (show (m189.1 28) = (m.1 28) from ((fr1 Fm189 28 rfl).trans (fr1 Fm177 28 rfl))), (show (m189.1 73) = (m177.1 73) from (fr1 Fm189 73 rfl)), (show (m189.1 74) = (m.1 74) from ((fr1 Fm189 74 rfl).trans (fr1 Fm177 74 rfl)))]; first | exact hXT | exact hXS.1), (show (m189.1 73) = 0 ∨ (m189.2 76) ((m189.1 73) - 1) = 2 ∨ ((m189.2 76) ((m189.1 73) - 1) = 0 ∧ (m189.2 79) ((m189.1 73) - 1) = 2) by rewrite [(show (m189.1 73) = (m177.1 73) from (fr1 Fm189 73 rfl)), (show (m189.2 76) = (m177.2 76) from (fr2 Fm189 76 rfl)), (show (m189.2 79) = (m177.2 79) from (fr2 Fm189 79 rfl))]; first | exact hTop | omega)⟩)) (fun rr203 k204 => ?_)
                  obtain ⟨m205, Tm205, Fm205, h206, c207, rfl⟩ := k204
                  refine ⟨_, _, rfl, ?_⟩
                  refine T_nb (st' := []) rfl ?_
                  have g208 : 0 ≤ m205.1 10 ∧ m205.1 10 ≤ 8 := Tm205.1 10
                  have g209 : (-1) ≤ m205.1 11 ∧ m205.1 11 ≤ 4000 := Tm205.1 11
                  have g210 : 0 ≤ m205.1 73 ∧ m205.1 73 ≤ 60 := Tm205.1 73
                  have g211 : 0 ≤ m205.1 74 ∧ m205.1 74 ≤ 24 := Tm205.1 74
                  have g212 : 0 ≤ m205.1 75 ∧ m205.1 75 ≤ 3 := Tm205.1 75
                  by_cases hf213 : (m205.1 10) = 0
                  · skip
                    replace h206 : (m189.1 10) = 0 := h206 hf213
                    obtain ⟨c214, c215, c216⟩ := c207 hf213
                    replace c214 : XS (m189.2 65) (m189.2 67) (m205.2 76) (m205.2 78) (m205.2 79) (m205.2 80) B (m189.1 28) (m205.1 73) (m205.1 74) 0 := c214
                    rewrite [(show (m189.2 65) = (m.2 65) from ((fr2 Fm189 65 rfl).trans (fr2 Fm177 65 rfl))), (show (m189.2 67) = (m.2 67) from ((fr2 Fm189 67 rfl).trans (fr2 Fm177 67 rfl))), (show (m189.1 28) = (m.1 28) from ((fr1 Fm189 28 rfl).trans (fr1 Fm177 28 rfl)))] at c214
                    have hXS := c214
                    replace c215 : (m205.1 73) = (m189.1 73) + 1 := c215
                    rewrite [(show (m189.1 73) = (m177.1 73) from (fr1 Fm189 73 rfl))] at c215
                    replace c216 : (m205.1 75) = 0 := c216
                    clear c207
                    have u217 : (m.1 8) + 1 ≤ (m189.1 8) := by omega
                    have hAgC : agr (m.2 65) (m.2 65) (m.1 28) := by first | exact agr_r _ _ | exact hAgC | exact agr_t hAgC hAg (by omega)
                    have u218 : 1 ≤ (m205.1 73) := by omega
                    clear g184 h178 h179 h180 h181 h182 h183 u186 g197 g198 h190 u202 h206 c215
                    have hXE : XS (m.2 65) (m.2 67) (m205.2 76) (m205.2 78) (m205.2 79) (m205.2 80) B (m.1 28) (m205.1 73) (m205.1 74) (um (m205.1 75)) := by
                      rw [show um (m205.1 75) = 0 from if_pos (by omega)]
                      exact hXS
                    refine T_goto 219 rfl (fun _ => rfl) ?_
                    refine T_ret rfl (fun _ => rfl) ?_
                    exact ⟨(mO m205 [] []), Tm205, (fr_m (fr_s Fm205 (fr_m (fr_s Fm189 (fr_m (fr_s Fm177 (fr_m fr_0 rfl rfl) rfl rfl) rfl rfl) rfl rfl) rfl rfl) rfl rfl) rfl rfl), (show (m205.1 10) = 0 → (m.1 10) = 0 by omega), (show LxP (m205.1 7) (m205.1 8) (m205.1 9) (m.1 6) (m205.1 10) by rewrite [(show (m205.1 7) = (m189.1 7) from (fr1 Fm205 7 rfl)), (show (m205.1 8) = (m189.1 8) from (fr1 Fm205 8 rfl)), (show (m205.1 9) = (m189.1 9) from (fr1 Fm205 9 rfl))]; first | (first | exact hLx | exact (fun _ => hLx (by omega)) | (intro h9; exfalso; omega)) | (exfalso; omega)), (fun _ => ⟨(show (m.1 8) + 1 ≤ (m205.1 8) by rewrite [(show (m205.1 8) = (m189.1 8) from (fr1 Fm205 8 rfl))]; omega), (show (m205.1 75) = 0 ∨ ((m205.1 75) = 1 ∧ (m205.1 69) ≤ 64) by rewrite [(show (m205.1 69) = (m.1 69) from ((fr1 Fm205 69 rfl).trans ((fr1 Fm189 69 rfl).trans (fr1 Fm177 69 rfl))))]; omega), (show 1 ≤ (m205.1 73) by omega), (show (m.1 28) ≤ (m205.1 28) by rewrite [(show (m205.1 28) = (m.1 28) from ((fr1 Fm205 28 rfl).trans ((fr1 Fm189 28 rfl).trans (fr1 Fm177 28 rfl))))]; omega), (show XS (m205.2 65) (m205.2 67) (m205.2 76) (m205.2 78) (m205.2 79) (m205.2 80) B (m205.1 28) (m205.1 73) (m205.1 74) (um (m205.1 75)) by rewrite [(show (m205.2 65) = (m.2 65) from ((fr2 Fm205 65 rfl).trans ((fr2 Fm189 65 rfl).trans (fr2 Fm177 65 rfl)))), (show (m205.2 67) = (m.2 67) from ((fr2 Fm205 67 rfl).trans ((fr2 Fm189 67 rfl).trans (fr2 Fm177 67 rfl)))), (show (m205.1 28) = (m.1 28) from ((fr1 Fm205 28 rfl).trans ((fr1 Fm189 28 rfl).trans (fr1 Fm177 28 rfl))))]; first | (exact hXE) | (exfalso; omega)), (show agr (m.2 65) (m205.2 65) (m.1 28) by rewrite [(show (m205.2 65) = (m.2 65) from ((fr2 Fm205 65 rfl).trans ((fr2 Fm189 65 rfl).trans (fr2 Fm177 65 rfl))))]; first | (exact hAgC) | (exfalso; omega))⟩), rfl⟩
                  · skip
                    clear c207
                    clear h206
                    have hf219 : 1 ≤ (m205.1 10) := by omega
                    clear g184 h178 h179 h180 h181 h182 h183 u186 g197 g198 h190 u202
                    refine Tm_lv (a := [(0, .ref 189), (1, .int (i32 (m.1 8)))]) rfl rfl ⟨rfl, rfl, trivial⟩ ?_
                    exact J212_17 (mO m205 [] []) Tm205 (fr_m (fr_s Fm205 (fr_m (fr_s Fm189 (fr_m (fr_s Fm177 (fr_m fr_0 rfl rfl) rfl rfl) rfl rfl) rfl rfl) rfl rfl) rfl rfl) rfl rfl) (show 0 ≤ (m.1 8) ∧ (m.1 8) ≤ 4000 by omega) (show 1 ≤ (m205.1 10) by omega)
                · skip
                  replace h190 : LxP (m189.1 7) (m189.1 8) (m189.1 9) (m177.1 6) (m189.1 10) := h190
                  rewrite [(show (m177.1 6) = (m.1 6) from (fr1 Fm177 6 rfl))] at h190
                  have hLx := h190
                  clear h191
                  replace h192 : (m177.1 8) ≤ (m189.1 8) := h192
                  rewrite [(show (m177.1 8) = (m.1 8) from (fr1 Fm177 8 rfl))] at h192
                  clear h193
                  have hf220 : 1 ≤ (m189.1 10) := by omega
                  refine T_ld 209 (.ref 189) rfl (fun _ => rfl) ?_
                  refine T_call 212 245 [.ref 189] [] rfl (fun _ => rfl) rfl (c_beginChoice w (mO m189 [] []) c N D (by omega) Tm189 B 0 (fun (h : (m189.1 10) = 0) => absurd h (by omega))) (fun rr221 k222 => ?_)
                  obtain ⟨m223, Tm223, Fm223, h224, c225, rfl⟩ := k222
                  refine ⟨_, _, rfl, ?_⟩
                  refine T_nb (st' := []) rfl ?_
                  have g226 : 0 ≤ m223.1 10 ∧ m223.1 10 ≤ 8 := Tm223.1 10
                  have g227 : (-1) ≤ m223.1 11 ∧ m223.1 11 ≤ 4000 := Tm223.1 11
                  have g228 : 0 ≤ m223.1 73 ∧ m223.1 73 ≤ 60 := Tm223.1 73
                  have g229 : 0 ≤ m223.1 74 ∧ m223.1 74 ≤ 24 := Tm223.1 74
                  have g230 : 0 ≤ m223.1 75 ∧ m223.1 75 ≤ 3 := Tm223.1 75
                  replace h224 : (m223.1 10) = 0 → (m189.1 10) = 0 := h224
                  have hf231 : 1 ≤ (m223.1 10) := by omega
                  clear c225
                  clear h224
                  clear g184 h178 h179 h180 h181 h182 h183 u186 g197 g198 h190 hf220
                  refine Tm_lv (a := [(0, .ref 189), (1, .int (i32 (m.1 8)))]) rfl rfl ⟨rfl, rfl, trivial⟩ ?_
                  exact J212_17 (mO m223 [] []) Tm223 (fr_m (fr_s Fm223 (fr_m (fr_s Fm189 (fr_m (fr_s Fm177 (fr_m fr_0 rfl rfl) rfl rfl) rfl rfl) rfl rfl) rfl rfl) rfl rfl) rfl rfl) (show 0 ≤ (m.1 8) ∧ (m.1 8) ≤ 4000 by omega) (show 1 ≤ (m223.1 10) by omega)
            · skip
              refine T_ld 160 (.ref 189) rfl (fun _ => rfl) ?_
              refine T_call 163 212 [.ref 189] [] rfl (fun _ => rfl) rfl (d_next w (mO m [] []) c N D (by omega) hT (show (m.1 10) = 0 → (m.1 8) + (m.1 9) ≤ (m.1 6) by first | omega | (intro h9; have h8 := hLx h9; omega))) (fun rr232 k233 => ?_)
              obtain ⟨m234, Tm234, Fm234, h235, h236, h237, h238, rfl⟩ := k233
              refine ⟨_, _, rfl, ?_⟩
              refine T_nb (st' := []) rfl ?_
              have g239 : 0 ≤ m234.1 7 ∧ m234.1 7 ≤ 330 := Tm234.1 7
              have g240 : 0 ≤ m234.1 8 ∧ m234.1 8 ≤ 4000 := Tm234.1 8
              have g241 : 0 ≤ m234.1 9 ∧ m234.1 9 ≤ 4000 := Tm234.1 9
              have g242 : 0 ≤ m234.1 10 ∧ m234.1 10 ≤ 8 := Tm234.1 10
              have g243 : (-1) ≤ m234.1 11 ∧ m234.1 11 ≤ 4000 := Tm234.1 11
              have g244 : (-9223372036854775808) ≤ m234.1 12 ∧ m234.1 12 ≤ 9223372036854775807 := Tm234.1 12
              by_cases hf245 : (m234.1 10) = 0
              · skip
                replace h235 : LxP (m234.1 7) (m234.1 8) (m234.1 9) (m.1 6) (m234.1 10) := h235
                have hLx := h235
                replace h236 : (m.1 10) = 0 := h236 hf245
                replace h237 : (m.1 8) ≤ (m234.1 8) := h237
                replace h238 : (m.1 8) + (m.1 9) ≤ (m234.1 8) := h238 hf245
                have u246 : (m.1 8) + 1 ≤ (m234.1 8) := by omega
                have hAgC : agr (m.2 65) (m.2 65) (m.1 28) := by first | exact agr_r _ _ | exact hAgC | exact agr_t hAgC hAg (by omega)
                have u247 : 1 ≤ (m.1 73) := by omega
                refine T_ld 164 (.ref 189) rfl (fun _ => rfl) ?_
                refine T_ld 165 (.int (i32 2)) rfl (fun _ => rfl) ?_
                have hOL : (m234.1 10) = 0 → ∀ k, 0 ≤ k → k < (m.1 13) → (m.2 16) k = 2 → 0 ≤ (m.2 17) k ∧ (m.2 17) k < 12 := fun _ k h1 h2 h3 => by
                  have h4 := PNl_2 pPN k h1 h2 h3
                  omega
                refine T_call 168 236 [.ref 189, .int (i32 2)] [] rfl (fun _ => rfl) rfl (d_oldName w (mO m234 [] []) c N D (by omega) Tm234 2 12 ⟨by decide, by decide⟩ (show LxP (m234.1 7) (m234.1 8) (m234.1 9) (m234.1 6) (m234.1 10) by rewrite [(show (m234.1 6) = (m.1 6) from (fr1 Fm234 6 rfl))]; first | exact hLx | (intro h9; exfalso; omega) | (intro h9; have h8 := hLx (by omega); omega)) (show ∀ k, (m234.2 14) k + (m234.2 15) k ≤ 4000 by rewrite [(show (m234.2 14) = (m.2 14) from (fr2 Fm234 14 rfl)), (show (m234.2 15) = (m.2 15) from (fr2 Fm234 15 rfl))]; first | exact p1 | exact hNM) (show 1 ≤ (2 : Int) ∧ (2 : Int) ≤ 7 ∧ (2 : Int) ≠ 5 by omega) (show 12 ≤ 16 by omega) (show (m234.1 10) = 0 → ∀ k, 0 ≤ k → k < (m234.1 13) → (m234.2 16) k = (2 : Int) → 0 ≤ (m234.2 17) k ∧ (m234.2 17) k < 12 by rewrite [(show (m234.1 13) = (m.1 13) from (fr1 Fm234 13 rfl)), (show (m234.2 16) = (m.2 16) from (fr2 Fm234 16 rfl)), (show (m234.2 17) = (m.2 17) from (fr2 Fm234 17 rfl))]; first | exact hOL | (intro h; exfalso; omega)) (show (2 : Int) = 3 → 3 ≤ 12 by omega)) (fun rr248 k249 => ?_)
                obtain ⟨m250, oo, Tm250, Fm250, g251, h252, h253, h254, h255, h256, h257, rfl⟩ := k249
                refine ⟨_, _, rfl, ?_⟩
                refine T_nb (st' := [.int (i32 oo)]) rfl ?_
                obtain ⟨g251a, g251b⟩ := g251
                have g258 : 0 ≤ m250.1 7 ∧ m250.1 7 ≤ 330 := Tm250.1 7
                have g259 : 0 ≤ m250.1 8 ∧ m250.1 8 ≤ 4000 := Tm250.1 8
                have g260 : 0 ≤ m250.1 9 ∧ m250.1 9 ≤ 4000 := Tm250.1 9
                have g261 : 0 ≤ m250.1 10 ∧ m250.1 10 ≤ 8 := Tm250.1 10
                have g262 : (-1) ≤ m250.1 11 ∧ m250.1 11 ≤ 4000 := Tm250.1 11
                have g263 : (-9223372036854775808) ≤ m250.1 12 ∧ m250.1 12 ≤ 9223372036854775807 := Tm250.1 12
                by_cases hf264 : (m250.1 10) = 0
                · skip
                  replace h252 : LxP (m250.1 7) (m250.1 8) (m250.1 9) (m234.1 6) (m250.1 10) := h252
                  rewrite [(show (m234.1 6) = (m.1 6) from (fr1 Fm234 6 rfl))] at h252
                  have hLx := h252
                  replace h253 : (m234.1 8) ≤ (m250.1 8) := h253
                  replace h254 : (m234.1 10) = 0 ∧ (m234.1 8) + (m234.1 9) ≤ (m250.1 8) := h254 hf264
                  replace h255 : (m234.1 7) = 1 := h255 hf264
                  replace h256 : 0 ≤ oo ∧ (oo < 12 ∨ oo = 0) := h256
                  replace h257 : oo < 12 := h257 hf264
                  have u265 : (m.1 8) + 1 ≤ (m250.1 8) := by omega
                  have hAgC : agr (m.2 65) (m.2 65) (m.1 28) := by first | exact agr_r _ _ | exact hAgC | exact agr_t hAgC hAg (by omega)
                  have u266 : 1 ≤ (m.1 73) := by omega
                  clear g239 g240 g241 g242 g243 g244 h235 h237 h238 u246 h253 h254 h255
                  refine T_sto 169 [(2, .int (i32 oo)), (1, .int (i32 (m.1 8))), (0, .ref 189)] rfl (fun _ => rfl) ?_
                  have hAr : ar 404 ≤ 0 + lh (m.2 79) (m.2 80) (m.1 73) := by rw [show ar 404 = 0 from rfl]; omega
                  have hCk : CNk 404 oo := by refine ⟨?_, ?_, ?_, ?_⟩ <;> omega
                  refine T_ld 170 (.ref 189) rfl (fun _ => rfl) ?_
                  refine T_ld 173 (.int (i32 404)) rfl (fun _ => rfl) ?_
                  refine T_ld 174 (.int (i32 1)) rfl (fun _ => rfl) ?_
                  refine T_ld 175 (.int (i32 oo)) rfl (fun _ => rfl) ?_
                  refine T_ld 176 (.long (i64 0)) rfl (fun _ => rfl) ?_
                  refine T_call 179 248 [.ref 189, .int (i32 404), .int (i32 1), .int (i32 oo), .long (i64 0)] [] rfl (fun _ => rfl) rfl (c_node w (mO m250 [] []) c N D (by omega) Tm250 404 1 oo 0 B (0 + lh (m.2 79) (m.2 80) (m.1 73)) ⟨by decide, by decide⟩ ⟨by decide, by decide⟩ (r32 (by omega) (by omega)) ⟨by decide, by decide⟩ (fun _ => ⟨(show 0 ≤ (404 : Int) ∧ (404 : Int) ≤ 408 by first | omega | decide), (show 0 ≤ (1 : Int) ∧ (1 : Int) ≤ 64 by first | omega | decide), (show 0 ≤ oo ∧ oo ≤ 191 by first | omega | decide), (show CNk (404 : Int) oo by first | exact hCk | (refine ⟨?_, ?_, ?_, ?_⟩ <;> omega)), (show ar (404 : Int) ≤ (0 + lh (m.2 79) (m.2 80) (m.1 73)) by first | exact hAr | omega), (show EX (m250.2 65) (m250.2 67) B (m250.1 28) (0 + lh (m.2 79) (m.2 80) (m.1 73)) by rewrite [(show (m250.2 65) = (m.2 65) from ((fr2 Fm250 65 rfl).trans (fr2 Fm234 65 rfl))), (show (m250.2 67) = (m.2 67) from ((fr2 Fm250 67 rfl).trans (fr2 Fm234 67 rfl))), (show (m250.1 28) = (m.1 28) from ((fr1 Fm250 28 rfl).trans (fr1 Fm234 28 rfl)))]; first | exact hEX | assumption)⟩)) (fun rr267 k268 => ?_)
                  obtain ⟨m269, Tm269, Fm269, h270, c271, rfl⟩ := k268
                  refine ⟨_, _, rfl, ?_⟩
                  refine T_nb (st' := []) rfl ?_
                  have g272 : 0 ≤ m269.1 10 ∧ m269.1 10 ≤ 8 := Tm269.1 10
                  have g273 : (-1) ≤ m269.1 11 ∧ m269.1 11 ≤ 4000 := Tm269.1 11
                  have g274 : 0 ≤ m269.1 28 ∧ m269.1 28 ≤ 800 := Tm269.1 28
                  by_cases hf275 : (m269.1 10) = 0
                  · skip
                    replace h270 : (m250.1 10) = 0 := h270 hf275
                    obtain ⟨c276, c277, c278⟩ := c271 hf275
                    replace c276 : (m269.1 28) = (m250.1 28) + 1 := c276
                    rewrite [(show (m250.1 28) = (m.1 28) from ((fr1 Fm250 28 rfl).trans (fr1 Fm234 28 rfl)))] at c276
                    replace c277 : EX (m269.2 65) (m269.2 67) B (m269.1 28) ((0 + lh (m.2 79) (m.2 80) (m.1 73)) + 1 - ar (404 : Int)) := c277
                    have hEX := c277
                    replace c278 : agr (m250.2 65) (m269.2 65) (m250.1 28) := c278
                    rewrite [(show (m250.2 65) = (m.2 65) from ((fr2 Fm250 65 rfl).trans (fr2 Fm234 65 rfl))), (show (m250.1 28) = (m.1 28) from ((fr1 Fm250 28 rfl).trans (fr1 Fm234 28 rfl)))] at c278
                    have hAg := c278
                    clear c271
                    have u279 : (m.1 8) + 1 ≤ (m250.1 8) := by omega
                    have hAgC : agr (m.2 65) (m269.2 65) (m.1 28) := by first | exact agr_r _ _ | exact hAgC | exact agr_t hAgC hAg (by omega)
                    have u280 : 1 ≤ (m.1 73) := by omega
                    clear g261 g262 h252 h270
                    refine T_ld 180 (.ref 189) rfl (fun _ => rfl) ?_
                    refine T_ld 181 (.int (i32 1)) rfl (fun _ => rfl) ?_
                    refine T_ld 182 (.int (i32 (m.1 8))) rfl (fun _ => rfl) ?_
                    refine T_call 185 249 [.ref 189, .int (i32 1), .int (i32 (m.1 8))] [] rfl (fun _ => rfl) rfl (c_atom w (mO m269 [] []) c N D (by omega) Tm269 1 (m.1 8) ⟨by decide, by decide⟩ (r32 (by omega) (by omega)) (show 0 ≤ (1 : Int) ∧ (1 : Int) ≤ 64 by omega) (show 0 ≤ (m.1 8) ∧ (m.1 8) ≤ 4000 by omega)) (fun rr281 k282 => ?_)
                    obtain ⟨m283, Tm283, Fm283, h284, rfl⟩ := k282
                    refine ⟨_, _, rfl, ?_⟩
                    refine T_nb (st' := []) rfl ?_
                    have g285 : 0 ≤ m283.1 69 ∧ m283.1 69 ≤ 1024 := Tm283.1 69
                    have g286 : 0 ≤ m283.1 75 ∧ m283.1 75 ≤ 3 := Tm283.1 75
                    replace h284 : (m269.1 10) = 0 → (m283.1 75) = 1 ∧ (m283.1 69) = (1 : Int) := h284
                    have u287 : (m.1 8) + 1 ≤ (m250.1 8) := by omega
                    have hAgC : agr (m.2 65) (m269.2 65) (m.1 28) := by first | exact agr_r _ _ | exact hAgC | exact agr_t hAgC hAg (by omega)
                    have u288 : 1 ≤ (m.1 73) := by omega
                    have hXE : XS (m269.2 65) (m269.2 67) (m.2 76) (m.2 78) (m.2 79) (m.2 80) B (m269.1 28) (m.1 73) (m.1 74) (um (m283.1 75)) := by
                      rw [show um (m283.1 75) = 1 from if_neg (by omega)]
                      exact XS_of hXS hEX (by rw [show ar 404 = 0 from rfl]; omega)
                    refine T_goto 219 rfl (fun _ => rfl) ?_
                    refine T_ret rfl (fun _ => rfl) ?_
                    exact ⟨(mO m283 [] []), Tm283, (fr_m (fr_s Fm283 (fr_m (fr_s Fm269 (fr_m (fr_s Fm250 (fr_m (fr_s Fm234 (fr_m fr_0 rfl rfl) rfl rfl) rfl rfl) rfl rfl) rfl rfl) rfl rfl) rfl rfl) rfl rfl) rfl rfl), (show (m283.1 10) = 0 → (m.1 10) = 0 by rewrite [(show (m283.1 10) = (m269.1 10) from (fr1 Fm283 10 rfl))]; omega), (show LxP (m283.1 7) (m283.1 8) (m283.1 9) (m.1 6) (m283.1 10) by rewrite [(show (m283.1 7) = (m250.1 7) from ((fr1 Fm283 7 rfl).trans (fr1 Fm269 7 rfl))), (show (m283.1 8) = (m250.1 8) from ((fr1 Fm283 8 rfl).trans (fr1 Fm269 8 rfl))), (show (m283.1 9) = (m250.1 9) from ((fr1 Fm283 9 rfl).trans (fr1 Fm269 9 rfl))), (show (m283.1 10) = (m269.1 10) from (fr1 Fm283 10 rfl))]; first | (first | exact hLx | exact (fun _ => hLx (by omega)) | (intro h9; exfalso; omega)) | (exfalso; omega)), (fun _ => ⟨(show (m.1 8) + 1 ≤ (m283.1 8) by rewrite [(show (m283.1 8) = (m250.1 8) from ((fr1 Fm283 8 rfl).trans (fr1 Fm269 8 rfl)))]; omega), (show (m283.1 75) = 0 ∨ ((m283.1 75) = 1 ∧ (m283.1 69) ≤ 64) by omega), (show 1 ≤ (m283.1 73) by rewrite [(show (m283.1 73) = (m.1 73) from ((fr1 Fm283 73 rfl).trans ((fr1 Fm269 73 rfl).trans ((fr1 Fm250 73 rfl).trans (fr1 Fm234 73 rfl)))))]; omega), (show (m.1 28) ≤ (m283.1 28) by rewrite [(show (m283.1 28) = (m269.1 28) from (fr1 Fm283 28 rfl))]; omega), (show XS (m283.2 65) (m283.2 67) (m283.2 76) (m283.2 78) (m283.2 79) (m283.2 80) B (m283.1 28) (m283.1 73) (m283.1 74) (um (m283.1 75)) by rewrite [(show (m283.2 65) = (m269.2 65) from (fr2 Fm283 65 rfl)), (show (m283.2 67) = (m269.2 67) from (fr2 Fm283 67 rfl)), (show (m283.2 76) = (m.2 76) from ((fr2 Fm283 76 rfl).trans ((fr2 Fm269 76 rfl).trans ((fr2 Fm250 76 rfl).trans (fr2 Fm234 76 rfl))))), (show (m283.2 78) = (m.2 78) from ((fr2 Fm283 78 rfl).trans ((fr2 Fm269 78 rfl).trans ((fr2 Fm250 78 rfl).trans (fr2 Fm234 78 rfl))))), (show (m283.2 79) = (m.2 79) from ((fr2 Fm283 79 rfl).trans ((fr2 Fm269 79 rfl).trans ((fr2 Fm250 79 rfl).trans (fr2 Fm234 79 rfl))))), (show (m283.2 80) = (m.2 80) from ((fr2 Fm283 80 rfl).trans ((fr2 Fm269 80 rfl).trans ((fr2 Fm250 80 rfl).trans (fr2 Fm234 80 rfl))))), (show (m283.1 28) = (m269.1 28) from (fr1 Fm283 28 rfl)), (show (m283.1 73) = (m.1 73) from ((fr1 Fm283 73 rfl).trans ((fr1 Fm269 73 rfl).trans ((fr1 Fm250 73 rfl).trans (fr1 Fm234 73 rfl))))), (show (m283.1 74) = (m.1 74) from ((fr1 Fm283 74 rfl).trans ((fr1 Fm269 74 rfl).trans ((fr1 Fm250 74 rfl).trans (fr1 Fm234 74 rfl)))))]; first | (exact hXE) | (exfalso; omega)), (show agr (m.2 65) (m283.2 65) (m.1 28) by rewrite [(show (m283.2 65) = (m269.2 65) from (fr2 Fm283 65 rfl))]; first | (exact hAgC) | (exfalso; omega))⟩), rfl⟩
                  · skip
                    clear c271
                    clear h270
                    have hf289 : 1 ≤ (m269.1 10) := by omega
                    clear g261 g262 h252
                    refine Tm_lv (a := [(0, .ref 189), (1, .int (i32 (m.1 8))), (2, .int (i32 oo))]) rfl rfl ⟨rfl, rfl, rfl, trivial⟩ ?_
                    exact J179_24 oo (mO m269 [] []) (r32 (by omega) (by omega)) Tm269 (fr_m (fr_s Fm269 (fr_m (fr_s Fm250 (fr_m (fr_s Fm234 (fr_m fr_0 rfl rfl) rfl rfl) rfl rfl) rfl rfl) rfl rfl) rfl rfl) rfl rfl) (show 0 ≤ oo by omega) (show oo ≤ 11 by omega) (show 0 ≤ (m.1 8) ∧ (m.1 8) ≤ 4000 by omega) (show 1 ≤ (m269.1 10) by omega)
                · skip
                  replace h252 : LxP (m250.1 7) (m250.1 8) (m250.1 9) (m234.1 6) (m250.1 10) := h252
                  rewrite [(show (m234.1 6) = (m.1 6) from (fr1 Fm234 6 rfl))] at h252
                  have hLx := h252
                  replace h253 : (m234.1 8) ≤ (m250.1 8) := h253
                  clear h254
                  clear h255
                  replace h256 : 0 ≤ oo ∧ (oo < 12 ∨ oo = 0) := h256
                  clear h257
                  have hf290 : 1 ≤ (m250.1 10) := by omega
                  clear g239 g240 g241 g242 g243 g244 h235 h237 h238 u246 h253
                  refine Tm_lv (a := [(0, .ref 189), (1, .int (i32 (m.1 8)))]) rfl rfl ⟨rfl, rfl, trivial⟩ ?_
                  exact J168_40 oo (mO m250 [] []) (r32 (by omega) (by omega)) Tm250 (fr_m (fr_s Fm250 (fr_m (fr_s Fm234 (fr_m fr_0 rfl rfl) rfl rfl) rfl rfl) rfl rfl) rfl rfl) (show 0 ≤ oo by omega) (show oo ≤ 11 by omega) (show 0 ≤ (m.1 8) ∧ (m.1 8) ≤ 4000 by omega) (show 1 ≤ (m250.1 10) by omega)
              · skip
                replace h235 : LxP (m234.1 7) (m234.1 8) (m234.1 9) (m.1 6) (m234.1 10) := h235
                have hLx := h235
                clear h236
                replace h237 : (m.1 8) ≤ (m234.1 8) := h237
                clear h238
                have hf291 : 1 ≤ (m234.1 10) := by omega
                refine T_ld 164 (.ref 189) rfl (fun _ => rfl) ?_
                refine T_ld 165 (.int (i32 2)) rfl (fun _ => rfl) ?_
                refine T_call 168 236 [.ref 189, .int (i32 2)] [] rfl (fun _ => rfl) rfl (d_oldName w (mO m234 [] []) c N D (by omega) Tm234 2 12 ⟨by decide, by decide⟩ (show LxP (m234.1 7) (m234.1 8) (m234.1 9) (m234.1 6) (m234.1 10) by rewrite [(show (m234.1 6) = (m.1 6) from (fr1 Fm234 6 rfl))]; first | exact hLx | (intro h9; exfalso; omega) | (intro h9; have h8 := hLx (by omega); omega)) (show ∀ k, (m234.2 14) k + (m234.2 15) k ≤ 4000 by rewrite [(show (m234.2 14) = (m.2 14) from (fr2 Fm234 14 rfl)), (show (m234.2 15) = (m.2 15) from (fr2 Fm234 15 rfl))]; first | exact p1 | exact hNM) (show 1 ≤ (2 : Int) ∧ (2 : Int) ≤ 7 ∧ (2 : Int) ≠ 5 by omega) (show 12 ≤ 16 by omega) (show (m234.1 10) = 0 → ∀ k, 0 ≤ k → k < (m234.1 13) → (m234.2 16) k = (2 : Int) → 0 ≤ (m234.2 17) k ∧ (m234.2 17) k < 12 by rewrite [(show (m234.1 13) = (m.1 13) from (fr1 Fm234 13 rfl)), (show (m234.2 16) = (m.2 16) from (fr2 Fm234 16 rfl)), (show (m234.2 17) = (m.2 17) from (fr2 Fm234 17 rfl))]; first | exact hOL | (intro h; exfalso; omega)) (show (2 : Int) = 3 → 3 ≤ 12 by omega)) (fun rr292 k293 => ?_)
                obtain ⟨m294, oo, Tm294, Fm294, g295, h296, h297, h298, h299, h300, h301, rfl⟩ := k293
                refine ⟨_, _, rfl, ?_⟩
                refine T_nb (st' := [.int (i32 oo)]) rfl ?_
                obtain ⟨g295a, g295b⟩ := g295
                have g302 : 0 ≤ m294.1 7 ∧ m294.1 7 ≤ 330 := Tm294.1 7
                have g303 : 0 ≤ m294.1 8 ∧ m294.1 8 ≤ 4000 := Tm294.1 8
                have g304 : 0 ≤ m294.1 9 ∧ m294.1 9 ≤ 4000 := Tm294.1 9
                have g305 : 0 ≤ m294.1 10 ∧ m294.1 10 ≤ 8 := Tm294.1 10
                have g306 : (-1) ≤ m294.1 11 ∧ m294.1 11 ≤ 4000 := Tm294.1 11
                have g307 : (-9223372036854775808) ≤ m294.1 12 ∧ m294.1 12 ≤ 9223372036854775807 := Tm294.1 12
                replace h296 : LxP (m294.1 7) (m294.1 8) (m294.1 9) (m234.1 6) (m294.1 10) := h296
                rewrite [(show (m234.1 6) = (m.1 6) from (fr1 Fm234 6 rfl))] at h296
                replace h297 : (m234.1 8) ≤ (m294.1 8) := h297
                replace h298 : (m294.1 10) = 0 → (m234.1 10) = 0 ∧ (m234.1 8) + (m234.1 9) ≤ (m294.1 8) := h298
                replace h299 : (m294.1 10) = 0 → (m234.1 7) = 1 := h299
                replace h300 : 0 ≤ oo ∧ (oo < 12 ∨ oo = 0) := h300
                replace h301 : (m294.1 10) = 0 → oo < 12 := h301
                have hf308 : 1 ≤ (m294.1 10) := by omega
                clear h298
                clear h299
                clear h301
                have hLx := h296
                clear g239 g240 g241 g242 g243 g244 h235 h237 hf291 h297
                refine Tm_lv (a := [(0, .ref 189), (1, .int (i32 (m.1 8)))]) rfl rfl ⟨rfl, rfl, trivial⟩ ?_
                exact J168_40 oo (mO m294 [] []) (r32 (by omega) (by omega)) Tm294 (fr_m (fr_s Fm294 (fr_m (fr_s Fm234 (fr_m fr_0 rfl rfl) rfl rfl) rfl rfl) rfl rfl) rfl rfl) (show 0 ≤ oo by omega) (show oo ≤ 11 by omega) (show 0 ≤ (m.1 8) ∧ (m.1 8) ≤ 4000 by omega) (show 1 ≤ (m294.1 10) by omega)
          · skip
            refine T_ld 142 (.ref 189) rfl (fun _ => rfl) ?_
            refine T_ld 143 (.int (i32 (m.1 8))) rfl (fun _ => rfl) ?_
            refine T_call 146 251 [.ref 189, .int (i32 (m.1 8))] [] rfl (fun _ => rfl) rfl (c_takeName w (mO m [] []) c N D (by omega) hT (m.1 8) B (0 + lh (m.2 79) (m.2 80) (m.1 73)) (r32 (by omega) (by omega)) (show LxP (m.1 7) (m.1 8) (m.1 9) (m.1 6) (m.1 10) by first | exact hLx | exact (fun _ => hLx (by omega)) | (intro h9; exfalso; omega)) (show ∀ k, (m.2 14) k + (m.2 15) k ≤ 4000 by assumption) (show ∀ k, (m.2 31) k + (m.2 32) k ≤ 4000 by assumption) (show ∀ k, (m.2 47) k + (m.2 48) k ≤ 4000 by assumption) (show 0 ≤ (m.1 8) ∧ (m.1 8) ≤ 4000 by omega) (show (m.1 10) = 0 by omega) ⟨(show PN (m.1 13) (m.1 19) (m.1 20) (m.1 21) (m.1 22) (m.1 23) (m.1 25) (m.1 26) (m.2 16) (m.2 17) by assumption), (show (m.1 7) = 1 by omega), (show EX (m.2 65) (m.2 67) B (m.1 28) (0 + lh (m.2 79) (m.2 80) (m.1 73)) by exact hEX), (show 0 ≤ (0 + lh (m.2 79) (m.2 80) (m.1 73)) by omega)⟩) (fun rr309 k310 => ?_)
            obtain ⟨m311, Tm311, Fm311, h312, h313, c314, rfl⟩ := k310
            refine ⟨_, _, rfl, ?_⟩
            refine T_nb (st' := []) rfl ?_
            have g315 : 0 ≤ m311.1 7 ∧ m311.1 7 ≤ 330 := Tm311.1 7
            have g316 : 0 ≤ m311.1 8 ∧ m311.1 8 ≤ 4000 := Tm311.1 8
            have g317 : 0 ≤ m311.1 9 ∧ m311.1 9 ≤ 4000 := Tm311.1 9
            have g318 : 0 ≤ m311.1 10 ∧ m311.1 10 ≤ 8 := Tm311.1 10
            have g319 : (-1) ≤ m311.1 11 ∧ m311.1 11 ≤ 4000 := Tm311.1 11
            have g320 : (-9223372036854775808) ≤ m311.1 12 ∧ m311.1 12 ≤ 9223372036854775807 := Tm311.1 12
            have g321 : 0 ≤ m311.1 28 ∧ m311.1 28 ≤ 800 := Tm311.1 28
            have g322 : 0 ≤ m311.1 69 ∧ m311.1 69 ≤ 1024 := Tm311.1 69
            have g323 : 0 ≤ m311.1 75 ∧ m311.1 75 ≤ 3 := Tm311.1 75
            by_cases hf324 : (m311.1 10) = 0
            · skip
              replace h312 : (m.1 10) = 0 := h312 hf324
              replace h313 : LxP (m311.1 7) (m311.1 8) (m311.1 9) (m.1 6) (m311.1 10) := h313
              have hLx := h313
              obtain ⟨c325, c326, c327, c328, c329, c330⟩ := c314 hf324
              replace c325 : (m.1 8) + 1 ≤ (m311.1 8) := c325
              replace c326 : (m311.1 75) = 1 := c326
              replace c327 : (m311.1 69) ≤ 64 := c327
              replace c328 : (m311.1 28) = (m.1 28) + 1 := c328
              replace c329 : EX (m311.2 65) (m311.2 67) B (m311.1 28) ((0 + lh (m.2 79) (m.2 80) (m.1 73)) + 1) := c329
              have hEX := c329
              replace c330 : agr (m.2 65) (m311.2 65) (m.1 28) := c330
              have hAg := c330
              clear c314
              have u331 : (m.1 8) + 1 ≤ (m311.1 8) := by omega
              have hAgC : agr (m.2 65) (m311.2 65) (m.1 28) := by first | exact agr_r _ _ | exact hAgC | exact agr_t hAgC hAg (by omega)
              have u332 : 1 ≤ (m.1 73) := by omega
              have hXE : XS (m311.2 65) (m311.2 67) (m.2 76) (m.2 78) (m.2 79) (m.2 80) B (m311.1 28) (m.1 73) (m.1 74) (um (m311.1 75)) := by
                rw [show um (m311.1 75) = 1 from if_neg (by omega)]
                exact XS_of hXS hEX (by omega)
              refine T_goto 219 rfl (fun _ => rfl) ?_
              refine T_ret rfl (fun _ => rfl) ?_
              exact ⟨(mO m311 [] []), Tm311, (fr_m (fr_s Fm311 (fr_m fr_0 rfl rfl) rfl rfl) rfl rfl), (show (m311.1 10) = 0 → (m.1 10) = 0 by omega), (show LxP (m311.1 7) (m311.1 8) (m311.1 9) (m.1 6) (m311.1 10) by first | (first | exact hLx | exact (fun _ => hLx (by omega)) | (intro h9; exfalso; omega)) | (exfalso; omega)), (fun _ => ⟨(show (m.1 8) + 1 ≤ (m311.1 8) by omega), (show (m311.1 75) = 0 ∨ ((m311.1 75) = 1 ∧ (m311.1 69) ≤ 64) by omega), (show 1 ≤ (m311.1 73) by rewrite [(show (m311.1 73) = (m.1 73) from (fr1 Fm311 73 rfl))]; omega), (show (m.1 28) ≤ (m311.1 28) by omega), (show XS (m311.2 65) (m311.2 67) (m311.2 76) (m311.2 78) (m311.2 79) (m311.2 80) B (m311.1 28) (m311.1 73) (m311.1 74) (um (m311.1 75)) by rewrite [(show (m311.2 76) = (m.2 76) from (fr2 Fm311 76 rfl)), (show (m311.2 78) = (m.2 78) from (fr2 Fm311 78 rfl)), (show (m311.2 79) = (m.2 79) from (fr2 Fm311 79 rfl)), (show (m311.2 80) = (m.2 80) from (fr2 Fm311 80 rfl)), (show (m311.1 73) = (m.1 73) from (fr1 Fm311 73 rfl)), (show (m311.1 74) = (m.1 74) from (fr1 Fm311 74 rfl))]; first | (exact hXE) | (exfalso; omega)), (show agr (m.2 65) (m311.2 65) (m.1 28) by first | (exact hAgC) | (exfalso; omega))⟩), rfl⟩
            · skip
              clear c314
              clear h312
              replace h313 : LxP (m311.1 7) (m311.1 8) (m311.1 9) (m.1 6) (m311.1 10) := h313
              have hLx := h313
              have hf333 : 1 ≤ (m311.1 10) := by omega
              refine T_goto 219 rfl (fun _ => rfl) ?_
              refine T_ret rfl (fun _ => rfl) ?_
              exact ⟨(mO m311 [] []), Tm311, (fr_m (fr_s Fm311 (fr_m fr_0 rfl rfl) rfl rfl) rfl rfl), (show (m311.1 10) = 0 → (m.1 10) = 0 by omega), (show LxP (m311.1 7) (m311.1 8) (m311.1 9) (m.1 6) (m311.1 10) by first | (first | exact hLx | exact (fun _ => hLx (by omega)) | (intro h9; exfalso; omega)) | (exfalso; omega)), (fun (h : (m311.1 10) = 0) => absurd h (by omega)), rfl⟩
        · skip
          refine T_gf 97 (.long (i64 (m.1 12))) rfl rfl rfl rfl rfl rfl ?_
          refine T_sto 98 [(2, .long (i64 (m.1 12))), (1, .int (i32 (m.1 8))), (0, .ref 189)] rfl (fun _ => rfl) ?_
          refine T_ld 99 (.ref 189) rfl (fun _ => rfl) ?_
          refine T_call 102 212 [.ref 189] [] rfl (fun _ => rfl) rfl (d_next w (mO m [] []) c N D (by omega) hT (show (m.1 10) = 0 → (m.1 8) + (m.1 9) ≤ (m.1 6) by first | omega | (intro h9; have h8 := hLx h9; omega))) (fun rr334 k335 => ?_)
          obtain ⟨m336, Tm336, Fm336, h337, h338, h339, h340, rfl⟩ := k335
          refine ⟨_, _, rfl, ?_⟩
          refine T_nb (st' := []) rfl ?_
          have g341 : 0 ≤ m336.1 7 ∧ m336.1 7 ≤ 330 := Tm336.1 7
          have g342 : 0 ≤ m336.1 8 ∧ m336.1 8 ≤ 4000 := Tm336.1 8
          have g343 : 0 ≤ m336.1 9 ∧ m336.1 9 ≤ 4000 := Tm336.1 9
          have g344 : 0 ≤ m336.1 10 ∧ m336.1 10 ≤ 8 := Tm336.1 10
          have g345 : (-1) ≤ m336.1 11 ∧ m336.1 11 ≤ 4000 := Tm336.1 11
          have g346 : (-9223372036854775808) ≤ m336.1 12 ∧ m336.1 12 ≤ 9223372036854775807 := Tm336.1 12
          by_cases hf347 : (m336.1 10) = 0
          · skip
            replace h337 : LxP (m336.1 7) (m336.1 8) (m336.1 9) (m.1 6) (m336.1 10) := h337
            have hLx := h337
            replace h338 : (m.1 10) = 0 := h338 hf347
            replace h339 : (m.1 8) ≤ (m336.1 8) := h339
            replace h340 : (m.1 8) + (m.1 9) ≤ (m336.1 8) := h340 hf347
            have u348 : (m.1 8) + 1 ≤ (m336.1 8) := by omega
            have hAgC : agr (m.2 65) (m.2 65) (m.1 28) := by first | exact agr_r _ _ | exact hAgC | exact agr_t hAgC hAg (by omega)
            have u349 : 1 ≤ (m.1 73) := by omega
            have hAr : ar 400 ≤ 0 + lh (m.2 79) (m.2 80) (m.1 73) := by rw [show ar 400 = 0 from rfl]; omega
            have hCk : CNk 400 0 := by refine ⟨?_, ?_, ?_, ?_⟩ <;> omega
            refine T_ld 103 (.ref 189) rfl (fun _ => rfl) ?_
            refine T_ld 106 (.int (i32 400)) rfl (fun _ => rfl) ?_
            refine T_ld 108 (.int (i32 64)) rfl (fun _ => rfl) ?_
            refine T_ld 109 (.int (i32 0)) rfl (fun _ => rfl) ?_
            refine T_ld 110 (.long (i64 (m.1 12))) rfl (fun _ => rfl) ?_
            refine T_call 113 248 [.ref 189, .int (i32 400), .int (i32 64), .int (i32 0), .long (i64 (m.1 12))] [] rfl (fun _ => rfl) rfl (c_node w (mO m336 [] []) c N D (by omega) Tm336 400 64 0 (m.1 12) B (0 + lh (m.2 79) (m.2 80) (m.1 73)) ⟨by decide, by decide⟩ ⟨by decide, by decide⟩ ⟨by decide, by decide⟩ (r64 (by omega) (by omega)) (fun _ => ⟨(show 0 ≤ (400 : Int) ∧ (400 : Int) ≤ 408 by first | omega | decide), (show 0 ≤ (64 : Int) ∧ (64 : Int) ≤ 64 by first | omega | decide), (show 0 ≤ (0 : Int) ∧ (0 : Int) ≤ 191 by first | omega | decide), (show CNk (400 : Int) (0 : Int) by first | exact hCk | (refine ⟨?_, ?_, ?_, ?_⟩ <;> omega)), (show ar (400 : Int) ≤ (0 + lh (m.2 79) (m.2 80) (m.1 73)) by first | exact hAr | omega), (show EX (m336.2 65) (m336.2 67) B (m336.1 28) (0 + lh (m.2 79) (m.2 80) (m.1 73)) by rewrite [(show (m336.2 65) = (m.2 65) from (fr2 Fm336 65 rfl)), (show (m336.2 67) = (m.2 67) from (fr2 Fm336 67 rfl)), (show (m336.1 28) = (m.1 28) from (fr1 Fm336 28 rfl))]; first | exact hEX | assumption)⟩)) (fun rr350 k351 => ?_)
            obtain ⟨m352, Tm352, Fm352, h353, c354, rfl⟩ := k351
            refine ⟨_, _, rfl, ?_⟩
            refine T_nb (st' := []) rfl ?_
            have g355 : 0 ≤ m352.1 10 ∧ m352.1 10 ≤ 8 := Tm352.1 10
            have g356 : (-1) ≤ m352.1 11 ∧ m352.1 11 ≤ 4000 := Tm352.1 11
            have g357 : 0 ≤ m352.1 28 ∧ m352.1 28 ≤ 800 := Tm352.1 28
            by_cases hf358 : (m352.1 10) = 0
            · skip
              replace h353 : (m336.1 10) = 0 := h353 hf358
              obtain ⟨c359, c360, c361⟩ := c354 hf358
              replace c359 : (m352.1 28) = (m336.1 28) + 1 := c359
              rewrite [(show (m336.1 28) = (m.1 28) from (fr1 Fm336 28 rfl))] at c359
              replace c360 : EX (m352.2 65) (m352.2 67) B (m352.1 28) ((0 + lh (m.2 79) (m.2 80) (m.1 73)) + 1 - ar (400 : Int)) := c360
              have hEX := c360
              replace c361 : agr (m336.2 65) (m352.2 65) (m336.1 28) := c361
              rewrite [(show (m336.2 65) = (m.2 65) from (fr2 Fm336 65 rfl)), (show (m336.1 28) = (m.1 28) from (fr1 Fm336 28 rfl))] at c361
              have hAg := c361
              clear c354
              have u362 : (m.1 8) + 1 ≤ (m336.1 8) := by omega
              have hAgC : agr (m.2 65) (m352.2 65) (m.1 28) := by first | exact agr_r _ _ | exact hAgC | exact agr_t hAgC hAg (by omega)
              have u363 : 1 ≤ (m.1 73) := by omega
              clear g344 g345 h337 h353
              refine T_ld 114 (.ref 189) rfl (fun _ => rfl) ?_
              refine T_ld 116 (.int (i32 64)) rfl (fun _ => rfl) ?_
              refine T_ld 117 (.int (i32 (m.1 8))) rfl (fun _ => rfl) ?_
              refine T_call 120 249 [.ref 189, .int (i32 64), .int (i32 (m.1 8))] [] rfl (fun _ => rfl) rfl (c_atom w (mO m352 [] []) c N D (by omega) Tm352 64 (m.1 8) ⟨by decide, by decide⟩ (r32 (by omega) (by omega)) (show 0 ≤ (64 : Int) ∧ (64 : Int) ≤ 64 by omega) (show 0 ≤ (m.1 8) ∧ (m.1 8) ≤ 4000 by omega)) (fun rr364 k365 => ?_)
              obtain ⟨m366, Tm366, Fm366, h367, rfl⟩ := k365
              refine ⟨_, _, rfl, ?_⟩
              refine T_nb (st' := []) rfl ?_
              have g368 : 0 ≤ m366.1 69 ∧ m366.1 69 ≤ 1024 := Tm366.1 69
              have g369 : 0 ≤ m366.1 75 ∧ m366.1 75 ≤ 3 := Tm366.1 75
              replace h367 : (m352.1 10) = 0 → (m366.1 75) = 1 ∧ (m366.1 69) = (64 : Int) := h367
              have u370 : (m.1 8) + 1 ≤ (m336.1 8) := by omega
              have hAgC : agr (m.2 65) (m352.2 65) (m.1 28) := by first | exact agr_r _ _ | exact hAgC | exact agr_t hAgC hAg (by omega)
              have u371 : 1 ≤ (m.1 73) := by omega
              refine T_ld 121 (.ref 189) rfl (fun _ => rfl) ?_
              refine T_ld 122 (.int (i32 1)) rfl (fun _ => rfl) ?_
              refine T_pf (l' := [(71, 1)]) 125 1 rfl rfl rfl rfl rfl rfl ?_
              refine T_ld 126 (.ref 189) rfl (fun _ => rfl) ?_
              refine T_ld 127 (.long (i64 (m.1 12))) rfl (fun _ => rfl) ?_
              refine T_pf (l' := [(71, 1), (72, (m.1 12))]) 130 (m.1 12) rfl rfl rfl rfl rfl rfl ?_
              have g372 : (-9223372036854775808) ≤ (m.1 12) ∧ (m.1 12) ≤ 9223372036854775807 := ⟨by omega, by omega⟩
              have hXE : XS (m352.2 65) (m352.2 67) (m.2 76) (m.2 78) (m.2 79) (m.2 80) B (m352.1 28) (m.1 73) (m.1 74) (um (m366.1 75)) := by
                rw [show um (m366.1 75) = 1 from if_neg (by omega)]
                exact XS_of hXS hEX (by rw [show ar 400 = 0 from rfl]; omega)
              refine T_goto 219 rfl (fun _ => rfl) ?_
              refine T_ret rfl (fun _ => rfl) ?_
              exact ⟨(mO m366 [(71, 1), (72, (m.1 12))] []), (Ty_mO Tm366 rfl rfl ⟨⟨(by omega : (0 : Int) ≤ 1), (by omega : (1 : Int) ≤ 1)⟩, g372, trivial⟩ trivial), (fr_m (fr_s Fm366 (fr_m (fr_s Fm352 (fr_m (fr_s Fm336 (fr_m fr_0 rfl rfl) rfl rfl) rfl rfl) rfl rfl) rfl rfl) rfl rfl) rfl rfl), (show (m366.1 10) = 0 → (m.1 10) = 0 by rewrite [(show (m366.1 10) = (m352.1 10) from (fr1 Fm366 10 rfl))]; omega), (show LxP (m366.1 7) (m366.1 8) (m366.1 9) (m.1 6) (m366.1 10) by rewrite [(show (m366.1 7) = (m336.1 7) from ((fr1 Fm366 7 rfl).trans (fr1 Fm352 7 rfl))), (show (m366.1 8) = (m336.1 8) from ((fr1 Fm366 8 rfl).trans (fr1 Fm352 8 rfl))), (show (m366.1 9) = (m336.1 9) from ((fr1 Fm366 9 rfl).trans (fr1 Fm352 9 rfl))), (show (m366.1 10) = (m352.1 10) from (fr1 Fm366 10 rfl))]; first | (first | exact hLx | exact (fun _ => hLx (by omega)) | (intro h9; exfalso; omega)) | (exfalso; omega)), (fun _ => ⟨(show (m.1 8) + 1 ≤ (m366.1 8) by rewrite [(show (m366.1 8) = (m336.1 8) from ((fr1 Fm366 8 rfl).trans (fr1 Fm352 8 rfl)))]; omega), (show (m366.1 75) = 0 ∨ ((m366.1 75) = 1 ∧ (m366.1 69) ≤ 64) by omega), (show 1 ≤ (m366.1 73) by rewrite [(show (m366.1 73) = (m.1 73) from ((fr1 Fm366 73 rfl).trans ((fr1 Fm352 73 rfl).trans (fr1 Fm336 73 rfl))))]; omega), (show (m.1 28) ≤ (m366.1 28) by rewrite [(show (m366.1 28) = (m352.1 28) from (fr1 Fm366 28 rfl))]; omega), (show XS (m366.2 65) (m366.2 67) (m366.2 76) (m366.2 78) (m366.2 79) (m366.2 80) B (m366.1 28) (m366.1 73) (m366.1 74) (um (m366.1 75)) by rewrite [(show (m366.2 65) = (m352.2 65) from (fr2 Fm366 65 rfl)), (show (m366.2 67) = (m352.2 67) from (fr2 Fm366 67 rfl)), (show (m366.2 76) = (m.2 76) from ((fr2 Fm366 76 rfl).trans ((fr2 Fm352 76 rfl).trans (fr2 Fm336 76 rfl)))), (show (m366.2 78) = (m.2 78) from ((fr2 Fm366 78 rfl).trans ((fr2 Fm352 78 rfl).trans (fr2 Fm336 78 rfl)))), (show (m366.2 79) = (m.2 79) from ((fr2 Fm366 79 rfl).trans ((fr2 Fm352 79 rfl).trans (fr2 Fm336 79 rfl)))), (show (m366.2 80) = (m.2 80) from ((fr2 Fm366 80 rfl).trans ((fr2 Fm352 80 rfl).trans (fr2 Fm336 80 rfl)))), (show (m366.1 28) = (m352.1 28) from (fr1 Fm366 28 rfl)), (show (m366.1 73) = (m.1 73) from ((fr1 Fm366 73 rfl).trans ((fr1 Fm352 73 rfl).trans (fr1 Fm336 73 rfl)))), (show (m366.1 74) = (m.1 74) from ((fr1 Fm366 74 rfl).trans ((fr1 Fm352 74 rfl).trans (fr1 Fm336 74 rfl))))]; first | (exact hXE) | (exfalso; omega)), (show agr (m.2 65) (m366.2 65) (m.1 28) by rewrite [(show (m366.2 65) = (m352.2 65) from (fr2 Fm366 65 rfl))]; first | (exact hAgC) | (exfalso; omega))⟩), rfl⟩
            · skip
              clear c354
              clear h353
              have hf373 : 1 ≤ (m352.1 10) := by omega
              clear g344 g345 h337
              refine Tm_lv (a := [(0, .ref 189), (1, .int (i32 (m.1 8))), (2, .long (i64 (m.1 12)))]) rfl rfl ⟨rfl, rfl, rfl, trivial⟩ ?_
              exact J113_58 (mO m352 [] []) Tm352 (fr_m (fr_s Fm352 (fr_m (fr_s Fm336 (fr_m fr_0 rfl rfl) rfl rfl) rfl rfl) rfl rfl) rfl rfl) (show 0 ≤ (m.1 8) ∧ (m.1 8) ≤ 4000 by omega) (show 1 ≤ (m352.1 10) by omega)
          · skip
            replace h337 : LxP (m336.1 7) (m336.1 8) (m336.1 9) (m.1 6) (m336.1 10) := h337
            have hLx := h337
            clear h338
            replace h339 : (m.1 8) ≤ (m336.1 8) := h339
            clear h340
            have hf374 : 1 ≤ (m336.1 10) := by omega
            refine T_ld 103 (.ref 189) rfl (fun _ => rfl) ?_
            refine T_ld 106 (.int (i32 400)) rfl (fun _ => rfl) ?_
            refine T_ld 108 (.int (i32 64)) rfl (fun _ => rfl) ?_
            refine T_ld 109 (.int (i32 0)) rfl (fun _ => rfl) ?_
            refine T_ld 110 (.long (i64 (m.1 12))) rfl (fun _ => rfl) ?_
            refine T_call 113 248 [.ref 189, .int (i32 400), .int (i32 64), .int (i32 0), .long (i64 (m.1 12))] [] rfl (fun _ => rfl) rfl (c_node w (mO m336 [] []) c N D (by omega) Tm336 400 64 0 (m.1 12) B (0 + lh (m.2 79) (m.2 80) (m.1 73)) ⟨by decide, by decide⟩ ⟨by decide, by decide⟩ ⟨by decide, by decide⟩ (r64 (by omega) (by omega)) (fun (h : (m336.1 10) = 0) => absurd h (by omega))) (fun rr375 k376 => ?_)
            obtain ⟨m377, Tm377, Fm377, h378, c379, rfl⟩ := k376
            refine ⟨_, _, rfl, ?_⟩
            refine T_nb (st' := []) rfl ?_
            have g380 : 0 ≤ m377.1 10 ∧ m377.1 10 ≤ 8 := Tm377.1 10
            have g381 : (-1) ≤ m377.1 11 ∧ m377.1 11 ≤ 4000 := Tm377.1 11
            have g382 : 0 ≤ m377.1 28 ∧ m377.1 28 ≤ 800 := Tm377.1 28
            replace h378 : (m377.1 10) = 0 → (m336.1 10) = 0 := h378
            have hf383 : 1 ≤ (m377.1 10) := by omega
            clear c379
            clear h378
            clear g344 g345 h337 hf374
            refine Tm_lv (a := [(0, .ref 189), (1, .int (i32 (m.1 8))), (2, .long (i64 (m.1 12)))]) rfl rfl ⟨rfl, rfl, rfl, trivial⟩ ?_
            exact J113_58 (mO m377 [] []) Tm377 (fr_m (fr_s Fm377 (fr_m (fr_s Fm336 (fr_m fr_0 rfl rfl) rfl rfl) rfl rfl) rfl rfl) rfl rfl) (show 0 ≤ (m.1 8) ∧ (m.1 8) ≤ 4000 by omega) (show 1 ≤ (m377.1 10) by omega)
      · skip
        refine T_gf 36 (.int (i32 (m.1 74))) rfl rfl rfl rfl rfl rfl ?_
        refine T_ld 38 (.int (i32 24)) rfl (fun _ => rfl) ?_
        refine T_icmp 50 41 rfl rfl rfl (r32 (by omega) (by omega)) ⟨by decide, by decide⟩ (fun (h384 : (m.1 74) ≠ 24) => ?_) (fun (h384 : ¬ ((m.1 74) ≠ 24)) => ?_)
        · skip
          refine T_gf 54 (.int (i32 (m.1 10))) rfl rfl rfl rfl rfl rfl ?_
          refine T_if 58 57 rfl rfl rfl (r32 (by omega) (by omega)) (fun (h385 : (m.1 10) ≤ 0) => ?_) (fun (h385 : ¬ ((m.1 10) ≤ 0)) => by exfalso; omega)
          refine T_ld 59 (.ref 189) rfl (fun _ => rfl) ?_
          refine T_ld 60 (.ref 189) rfl (fun _ => rfl) ?_
          refine T_gf1 63 (.int (i32 (m.1 74))) rfl rfl rfl rfl ?_
          refine T_ld 64 (.int (i32 1)) rfl (fun _ => rfl) ?_
          refine T_iadd 65 rfl rfl ?_
          refine T_pf (l' := [(74, (m.1 74) + 1)]) 68 ((m.1 74) + 1) rfl rfl rfl rfl rfl rfl ?_
          have g386 : 0 ≤ (m.1 74) + 1 ∧ (m.1 74) + 1 ≤ 24 := ⟨by omega, by omega⟩
          refine T_ld 69 (.ref 189) rfl (fun _ => rfl) ?_
          refine T_ld 70 (.int (i32 1)) rfl (fun _ => rfl) ?_
          refine T_ld 71 (.int (i32 (m.1 8))) rfl (fun _ => rfl) ?_
          refine T_gf 75 (.int (i32 (m.1 7))) rfl rfl rfl rfl rfl rfl ?_
          refine T_call 78 246 [.ref 189, .int (i32 1), .int (i32 (m.1 8)), .int (i32 (m.1 7))] [] rfl (fun _ => rfl) rfl (c_open w (mO m [(74, (m.1 74) + 1)] []) c N D (by omega) (Ty_mO hT rfl rfl ⟨g386, trivial⟩ trivial) 1 (m.1 8) (m.1 7) ⟨by decide, by decide⟩ (r32 (by omega) (by omega)) (r32 (by omega) (by omega)) (show (m.1 73) ≤ 59 by omega) (show 0 ≤ (1 : Int) ∧ (1 : Int) ≤ 2 by omega) (show 0 ≤ (m.1 8) ∧ (m.1 8) ≤ 4000 by omega) (show 0 ≤ (m.1 7) ∧ (m.1 7) ≤ 330 by omega)) (fun rr387 k388 => ?_)
          obtain ⟨m389, Tm389, Fm389, h390, h391, h392, h393, h394, h395, rfl⟩ := k388
          refine ⟨_, _, rfl, ?_⟩
          refine T_nb (st' := []) rfl ?_
          have g396 : 0 ≤ m389.1 73 ∧ m389.1 73 ≤ 60 := Tm389.1 73
          replace h390 : (m389.1 73) = (m.1 73) + 1 := h390
          have hO0 := h390
          replace h391 : (m389.2 76) = upI (m.2 76) (m.1 73) (1 : Int) := h391
          have hO1 := h391
          replace h392 : (m389.2 78) = upI (m.2 78) (m.1 73) (m.1 7) := h392
          have hO2 := h392
          replace h393 : (m389.2 79) = upI (m.2 79) (m.1 73) 0 := h393
          have hO3 := h393
          replace h394 : ∀ j, j < 9 * (m.1 73) → (m389.2 80) j = (m.2 80) j := h394
          have hW1 := h394
          replace h395 : ∀ j, 9 * (m.1 73) ≤ j → j < 9 * (m.1 73) + 9 → (m389.2 80) j = -1 := h395
          have hW2 := h395
          have u397 : (m.1 8) ≤ (m.1 8) := by omega
          have hAgC : agr (m.2 65) (m.2 65) (m.1 28) := by first | exact agr_r _ _ | exact hAgC | exact agr_t hAgC hAg (by omega)
          have u398 : 1 ≤ (m389.1 73) := by omega
          refine T_ld 79 (.ref 189) rfl (fun _ => rfl) ?_
          refine T_call 82 212 [.ref 189] [] rfl (fun _ => rfl) rfl (d_next w (mO m389 [] []) c N D (by omega) Tm389 (show (m389.1 10) = 0 → (m389.1 8) + (m389.1 9) ≤ (m389.1 6) by rewrite [(show (m389.1 10) = (m.1 10) from (fr1 Fm389 10 rfl)), (show (m389.1 8) = (m.1 8) from (fr1 Fm389 8 rfl)), (show (m389.1 9) = (m.1 9) from (fr1 Fm389 9 rfl)), (show (m389.1 6) = (m.1 6) from (fr1 Fm389 6 rfl))]; first | omega | (intro h9; have h8 := hLx h9; omega))) (fun rr399 k400 => ?_)
          obtain ⟨m401, Tm401, Fm401, h402, h403, h404, h405, rfl⟩ := k400
          refine ⟨_, _, rfl, ?_⟩
          refine T_nb (st' := []) rfl ?_
          have g406 : 0 ≤ m401.1 7 ∧ m401.1 7 ≤ 330 := Tm401.1 7
          have g407 : 0 ≤ m401.1 8 ∧ m401.1 8 ≤ 4000 := Tm401.1 8
          have g408 : 0 ≤ m401.1 9 ∧ m401.1 9 ≤ 4000 := Tm401.1 9
          have g409 : 0 ≤ m401.1 10 ∧ m401.1 10 ≤ 8 := Tm401.1 10
          have g410 : (-1) ≤ m401.1 11 ∧ m401.1 11 ≤ 4000 := Tm401.1 11
          have g411 : (-9223372036854775808) ≤ m401.1 12 ∧ m401.1 12 ≤ 9223372036854775807 := Tm401.1 12
          by_cases hf412 : (m401.1 10) = 0
          · skip
            replace h402 : LxP (m401.1 7) (m401.1 8) (m401.1 9) (m389.1 6) (m401.1 10) := h402
            rewrite [(show (m389.1 6) = (m.1 6) from (fr1 Fm389 6 rfl))] at h402
            have hLx := h402
            replace h403 : (m389.1 10) = 0 := h403 hf412
            rewrite [(show (m389.1 10) = (m.1 10) from (fr1 Fm389 10 rfl))] at h403
            replace h404 : (m389.1 8) ≤ (m401.1 8) := h404
            rewrite [(show (m389.1 8) = (m.1 8) from (fr1 Fm389 8 rfl))] at h404
            replace h405 : (m389.1 8) + (m389.1 9) ≤ (m401.1 8) := h405 hf412
            rewrite [(show (m389.1 8) = (m.1 8) from (fr1 Fm389 8 rfl)), (show (m389.1 9) = (m.1 9) from (fr1 Fm389 9 rfl))] at h405
            have u413 : (m.1 8) + 1 ≤ (m401.1 8) := by omega
            have hAgC : agr (m.2 65) (m.2 65) (m.1 28) := by first | exact agr_r _ _ | exact hAgC | exact agr_t hAgC hAg (by omega)
            have u414 : 1 ≤ (m389.1 73) := by omega
            have hXE : XS (m.2 65) (m.2 67) (m389.2 76) (m389.2 78) (m389.2 79) (m389.2 80) B (m.1 28) (m389.1 73) ((m.1 74) + 1) (um (m.1 75)) := by
              rw [hO0, hO1, hO2, hO3, show um (m.1 75) = 0 from if_pos (by omega)]
              exact XS_pre hXS (by omega) (by omega) hW1 hW2
            refine T_goto 219 rfl (fun _ => rfl) ?_
            refine T_ret rfl (fun _ => rfl) ?_
            exact ⟨(mO m401 [] []), Tm401, (fr_m (fr_s Fm401 (fr_m (fr_s Fm389 (fr_m fr_0 rfl rfl) rfl rfl) rfl rfl) rfl rfl) rfl rfl), (show (m401.1 10) = 0 → (m.1 10) = 0 by omega), (show LxP (m401.1 7) (m401.1 8) (m401.1 9) (m.1 6) (m401.1 10) by first | (first | exact hLx | exact (fun _ => hLx (by omega)) | (intro h9; exfalso; omega)) | (exfalso; omega)), (fun _ => ⟨(show (m.1 8) + 1 ≤ (m401.1 8) by omega), (show (m401.1 75) = 0 ∨ ((m401.1 75) = 1 ∧ (m401.1 69) ≤ 64) by rewrite [(show (m401.1 75) = (m.1 75) from ((fr1 Fm401 75 rfl).trans (fr1 Fm389 75 rfl))), (show (m401.1 69) = (m.1 69) from ((fr1 Fm401 69 rfl).trans (fr1 Fm389 69 rfl)))]; omega), (show 1 ≤ (m401.1 73) by rewrite [(show (m401.1 73) = (m389.1 73) from (fr1 Fm401 73 rfl))]; omega), (show (m.1 28) ≤ (m401.1 28) by rewrite [(show (m401.1 28) = (m.1 28) from ((fr1 Fm401 28 rfl).trans (fr1 Fm389 28 rfl)))]; omega), (show XS (m401.2 65) (m401.2 67) (m401.2 76) (m401.2 78) (m401.2 79) (m401.2 80) B (m401.1 28) (m401.1 73) (m401.1 74) (um (m401.1 75)) by rewrite [(show (m401.2 65) = (m.2 65) from ((fr2 Fm401 65 rfl).trans (fr2 Fm389 65 rfl))), (show (m401.2 67) = (m.2 67) from ((fr2 Fm401 67 rfl).trans (fr2 Fm389 67 rfl))), (show (m401.2 76) = (m389.2 76) from (fr2 Fm401 76 rfl)), (show (m401.2 78) = (m389.2 78) from (fr2 Fm401 78 rfl)), (show (m401.2 79) = (m389.2 79) from (fr2 Fm401 79 rfl)), (show (m401.2 80) = (m389.2 80) from (fr2 Fm401 80 rfl)), (show (m401.1 28) = (m.1 28) from ((fr1 Fm401 28 rfl).trans (fr1 Fm389 28 rfl))), (show (m401.1 73) = (m389.1 73) from (fr1 Fm401 73 rfl)), (show (m401.1 74) = ((m.1 74) + 1) from ((fr1 Fm401 74 rfl).trans (fr1 Fm389 74 rfl))), (show (m401.1 75) = (m.1 75) from ((fr1 Fm401 75 rfl).trans (fr1 Fm389 75 rfl)))]; first | (exact hXE) | (exfalso; omega)), (show agr (m.2 65) (m401.2 65) (m.1 28) by rewrite [(show (m401.2 65) = (m.2 65) from ((fr2 Fm401 65 rfl).trans (fr2 Fm389 65 rfl)))]; first | (exact hAgC) | (exfalso; omega))⟩), rfl⟩
          · skip
            replace h402 : LxP (m401.1 7) (m401.1 8) (m401.1 9) (m389.1 6) (m401.1 10) := h402
            rewrite [(show (m389.1 6) = (m.1 6) from (fr1 Fm389 6 rfl))] at h402
            have hLx := h402
            clear h403
            replace h404 : (m389.1 8) ≤ (m401.1 8) := h404
            rewrite [(show (m389.1 8) = (m.1 8) from (fr1 Fm389 8 rfl))] at h404
            clear h405
            have hf415 : 1 ≤ (m401.1 10) := by omega
            refine Tm_lv (a := [(0, .ref 189), (1, .int (i32 (m.1 8)))]) rfl rfl ⟨rfl, rfl, trivial⟩ ?_
            exact J82_71 (mO m401 [] []) Tm401 (fr_m (fr_s Fm401 (fr_m (fr_s Fm389 (fr_m fr_0 rfl rfl) rfl rfl) rfl rfl) rfl rfl) rfl rfl) (show 0 ≤ (m.1 8) ∧ (m.1 8) ≤ 4000 by omega) (show 1 ≤ (m401.1 10) by omega)
        · skip
          refine T_ld 42 (.ref 189) rfl (fun _ => rfl) ?_
          refine T_ld 43 (.int (i32 4)) rfl (fun _ => rfl) ?_
          refine T_gf 47 (.int (i32 (m.1 8))) rfl rfl rfl rfl rfl rfl ?_
          refine T_call 50 222 [.ref 189, .int (i32 4), .int (i32 (m.1 8))] [] rfl (fun _ => rfl) rfl (d_wrong w (mO m [] []) c N D (by omega) hT 4 (m.1 8) ⟨by decide, by decide⟩ (r32 (by omega) (by omega)) (show 1 ≤ (4 : Int) ∧ (4 : Int) ≤ 8 by omega) (show 0 ≤ (m.1 8) ∧ (m.1 8) ≤ 4000 by omega)) (fun rr416 k417 => ?_)
          obtain ⟨m418, Tm418, Fm418, h419, rfl⟩ := k417
          refine ⟨_, _, rfl, ?_⟩
          refine T_nb (st' := []) rfl ?_
          have g420 : 0 ≤ m418.1 10 ∧ m418.1 10 ≤ 8 := Tm418.1 10
          have g421 : (-1) ≤ m418.1 11 ∧ m418.1 11 ≤ 4000 := Tm418.1 11
          replace h419 : (0 < (m.1 10) → (m418.1 10) = (m.1 10) ∧ (m418.1 11) = (m.1 11)) ∧ ((m.1 10) ≤ 0 → (m418.1 10) = (4 : Int) ∧ (m418.1 11) = (m.1 8)) := h419
          have hf422 : 1 ≤ (m418.1 10) := by omega
          refine Tm_lv (a := [(0, .ref 189), (1, .int (i32 (m.1 8)))]) rfl rfl ⟨rfl, rfl, trivial⟩ ?_
          exact J50_77 (mO m418 [] []) Tm418 (fr_m (fr_s Fm418 (fr_m fr_0 rfl rfl) rfl rfl) rfl rfl) (show 0 ≤ (m.1 8) ∧ (m.1 8) ≤ 4000 by omega) (show 1 ≤ (m418.1 10) by omega)
