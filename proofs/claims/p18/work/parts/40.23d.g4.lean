def fF_takeName : List Nat := [7, 8, 9, 10, 11, 12, 28, 69, 70, 71, 72, 75]
def fA_takeName : List Nat := [65, 66, 67, 68]
def Q_takeName (m : mR) (c : Nat → Option am_C) (N : Nat) (p : Int) (B : Int) (h : Int) : ag_Re af_T → Prop := fun R => ∃ (M : mR), Ty M ∧ fr fF_takeName fA_takeName m M ∧ ((M.1 10) = 0 → (m.1 10) = 0) ∧ (LxP (M.1 7) (M.1 8) (M.1 9) (m.1 6) (M.1 10)) ∧ (M.1 10 = 0 → ((m.1 8) + 1 ≤ (M.1 8)) ∧ ((M.1 75) = 1) ∧ ((M.1 69) ≤ 64) ∧ ((M.1 28) = (m.1 28) + 1) ∧ (EX (M.2 65) (M.2 67) B (M.1 28) (h + 1)) ∧ (agr (m.2 65) (M.2 65) (m.1 28))) ∧ R = (.inl (none), (mhp M c, N), 0, 0)
set_option maxHeartbeats 3000000 in
theorem c_takeName (w : wX) (m : mR) (c : Nat → Option am_C) (N D : Nat) (hD : 7 ≤ D) (hT : Ty m) (p : Int) (B : Int) (h : Int) (qp : R32 p) (hLx0 : LxP (m.1 7) (m.1 8) (m.1 9) (m.1 6) (m.1 10)) (hNM0 : ∀ k, (m.2 14) k + (m.2 15) k ≤ 4000) (hFA0 : ∀ k, (m.2 31) k + (m.2 32) k ≤ 4000) (hPA0 : ∀ k, (m.2 47) k + (m.2 48) k ≤ 4000) (p4 : 0 ≤ p ∧ p ≤ 4000) (hf0 : m.1 10 = 0) (hC : (PN (m.1 13) (m.1 19) (m.1 20) (m.1 21) (m.1 22) (m.1 23) (m.1 25) (m.1 26) (m.2 16) (m.2 17)) ∧ ((m.1 7) = 1) ∧ (EX (m.2 65) (m.2 67) B (m.1 28) h) ∧ (0 ≤ h)) : TC w D 251 [.ref 189, .int (i32 p)] (mhp m c, N) (Q_takeName m c N p B h) := by
  obtain ⟨D, rfl⟩ : ∃ k, D = k + 1 := ⟨D - 1, by omega⟩
  obtain ⟨qpa, qpb⟩ := id qp
  have hLx := hLx0
  have hNM := hNM0
  have hFA := hFA0
  have hPA := hPA0
  have f7 : 0 ≤ m.1 7 ∧ m.1 7 ≤ 330 := hT.1 7
  have f8 : 0 ≤ m.1 8 ∧ m.1 8 ≤ 4000 := hT.1 8
  have f9 : 0 ≤ m.1 9 ∧ m.1 9 ≤ 4000 := hT.1 9
  have f10 : 0 ≤ m.1 10 ∧ m.1 10 ≤ 8 := hT.1 10
  have f11 : (-1) ≤ m.1 11 ∧ m.1 11 ≤ 4000 := hT.1 11
  have f28 : 0 ≤ m.1 28 ∧ m.1 28 ≤ 800 := hT.1 28
  have f69 : 0 ≤ m.1 69 ∧ m.1 69 ≤ 1024 := hT.1 69
  have f75 : 0 ≤ m.1 75 ∧ m.1 75 ≤ 3 := hT.1 75
  have f25 : 0 ≤ m.1 25 ∧ m.1 25 ≤ 16 := hT.1 25
  have f22 : 0 ≤ m.1 22 ∧ m.1 22 ≤ 8 := hT.1 22
  have f19 : 0 ≤ m.1 19 ∧ m.1 19 ≤ 12 := hT.1 19
  have f20 : 0 ≤ m.1 20 ∧ m.1 20 ≤ 12 := hT.1 20
  have f21 : 0 ≤ m.1 21 ∧ m.1 21 ≤ 16 := hT.1 21
  have f13 : 0 ≤ m.1 13 ∧ m.1 13 ≤ 120 := hT.1 13
  have f6 : 0 ≤ m.1 6 ∧ m.1 6 ≤ 4000 := hT.1 6
  have f23 : 0 ≤ m.1 23 ∧ m.1 23 ≤ 16 := hT.1 23
  have f26 : 0 ≤ m.1 26 ∧ m.1 26 ≤ 8 := hT.1 26
  refine Tc_of rfl ?_
  show TT w D pm_251 (0, [(0, .ref 189), (1, .int (i32 p))], [], (mhp (mO m [] []) c, N), 0, 0) (Q_takeName m c N p B h)
  obtain ⟨pPN, c1, hEX, c2⟩ := hC
  have h7 := hLx (by omega)
  have pmt := pPN.2.1
  have J150_41 : ∀ (v35 : Int) (v36 : Int) (v37 : Int) (v38 : Int) (v39 : Int) (m40 : mR), (R32 v35) → (R32 v36) → (R32 v37) → (R32 v38) → (R32 v39) → Ty m40 → fr [7, 8, 9, 10, 11, 12, 28] [65, 66, 67, 68] (mO m [] []) m40 → ((-2147483648) ≤ v35) → (v35 ≤ 2147483647) → (0 ≤ v37) → (v37 ≤ 64) → (401 ≤ v38) → (v38 ≤ 403) → (1 ≤ (m40.1 10)) → TT w D pm_251 (150, [(0, .ref 189), (1, .int (i32 p)), (2, .int (i32 v35)), (3, .int (i32 v36)), (4, .int (i32 v37)), (5, .int (i32 v38)), (6, .int (i32 v39))], [], (mhp (mO m40 [] []) c, N), 0, 0) (Q_takeName m c N p B h) := by
    intro v35 v36 v37 v38 v39 m40 q49 q50 q51 q52 q53 Tm40 Fm40 ic42 ic43 ic44 ic45 ic46 ic47 ic48
    obtain ⟨q49a, q49b⟩ := id q49
    obtain ⟨q50a, q50b⟩ := id q50
    obtain ⟨q51a, q51b⟩ := id q51
    obtain ⟨q52a, q52b⟩ := id q52
    obtain ⟨q53a, q53b⟩ := id q53
    have q54_7 : 0 ≤ m40.1 7 ∧ m40.1 7 ≤ 330 := Tm40.1 7
    have q54_8 : 0 ≤ m40.1 8 ∧ m40.1 8 ≤ 4000 := Tm40.1 8
    have q54_9 : 0 ≤ m40.1 9 ∧ m40.1 9 ≤ 4000 := Tm40.1 9
    have q54_10 : 0 ≤ m40.1 10 ∧ m40.1 10 ≤ 8 := Tm40.1 10
    have q54_11 : (-1) ≤ m40.1 11 ∧ m40.1 11 ≤ 4000 := Tm40.1 11
    have q54_28 : 0 ≤ m40.1 28 ∧ m40.1 28 ≤ 800 := Tm40.1 28
    refine T_ld 151 (.ref 189) rfl (fun _ => rfl) ?_
    refine T_ld 153 (.int (i32 v37)) rfl (fun _ => rfl) ?_
    refine T_ld 154 (.int (i32 p)) rfl (fun _ => rfl) ?_
    refine T_call 157 249 [.ref 189, .int (i32 v37), .int (i32 p)] [] rfl (fun _ => rfl) rfl (c_atom w (mO m40 [] []) c N D (by omega) Tm40 v37 p (r32 (by omega) (by omega)) (r32 (by omega) (by omega)) (show 0 ≤ v37 ∧ v37 ≤ 64 by omega) (show 0 ≤ p ∧ p ≤ 4000 by omega)) (fun rr57 k58 => ?_)
    obtain ⟨m59, Tm59, Fm59, h60, rfl⟩ := k58
    refine ⟨_, _, rfl, ?_⟩
    refine T_nb (st' := []) rfl ?_
    have g61 : 0 ≤ m59.1 69 ∧ m59.1 69 ≤ 1024 := Tm59.1 69
    have g62 : 0 ≤ m59.1 75 ∧ m59.1 75 ≤ 3 := Tm59.1 75
    replace h60 : (m40.1 10) = 0 → (m59.1 75) = 1 ∧ (m59.1 69) = v37 := h60
    refine T_ret rfl (fun _ => rfl) ?_
    exact ⟨(mO m59 [] []), Tm59, (fr_m (fr_s Fm59 (fr_m (fr_s Fm40 (fr_m fr_0 rfl rfl) rfl rfl) rfl rfl) rfl rfl) rfl rfl), (show (m59.1 10) = 0 → (m.1 10) = 0 by rewrite [(show (m59.1 10) = (m40.1 10) from (fr1 Fm59 10 rfl))]; omega), (show LxP (m59.1 7) (m59.1 8) (m59.1 9) (m.1 6) (m59.1 10) by rewrite [(show (m59.1 7) = (m40.1 7) from (fr1 Fm59 7 rfl)), (show (m59.1 8) = (m40.1 8) from (fr1 Fm59 8 rfl)), (show (m59.1 9) = (m40.1 9) from (fr1 Fm59 9 rfl)), (show (m59.1 10) = (m40.1 10) from (fr1 Fm59 10 rfl))]; first | (first | exact hLx | exact (fun _ => hLx (by omega)) | (intro h9; exfalso; omega)) | (exfalso; omega)), (fun (h : (m59.1 10) = 0) => absurd ((show (m59.1 10) = (m40.1 10) from (fr1 Fm59 10 rfl)).symm.trans h) (by omega)), rfl⟩
  have J109_68 : ∀ (v63 : Int) (v64 : Int) (v65 : Int) (s66 : Int) (m67 : mR), (R32 v63) → (R32 v64) → (R32 v65) → (R32 s66) → Ty m67 → fr [7, 8, 9, 10, 11, 12] [] (mO m [] []) m67 → ((-2147483648) ≤ v63) → (v63 ≤ (-1)) → (2 ≤ v64) → (v64 ≤ 2) → (0 ≤ s66) → (s66 ≤ 191) → (1 ≤ (m67.1 10)) → TT w D pm_251 (109, [(0, .ref 189), (1, .int (i32 p)), (2, .int (i32 v63)), (3, .int (i32 v64)), (4, .int (i32 1)), (5, .int (i32 401)), (6, .int (i32 v65))], [.int (i32 s66)], (mhp (mO m67 [] []) c, N), 0, 0) (Q_takeName m c N p B h) := by
    intro v63 v64 v65 s66 m67 q76 q77 q78 q79 Tm67 Fm67 ic69 ic70 ic71 ic72 ic73 ic74 ic75
    obtain ⟨q76a, q76b⟩ := id q76
    obtain ⟨q77a, q77b⟩ := id q77
    obtain ⟨q78a, q78b⟩ := id q78
    obtain ⟨q79a, q79b⟩ := id q79
    have q80_7 : 0 ≤ m67.1 7 ∧ m67.1 7 ≤ 330 := Tm67.1 7
    have q80_8 : 0 ≤ m67.1 8 ∧ m67.1 8 ≤ 4000 := Tm67.1 8
    have q80_9 : 0 ≤ m67.1 9 ∧ m67.1 9 ≤ 4000 := Tm67.1 9
    have q80_10 : 0 ≤ m67.1 10 ∧ m67.1 10 ≤ 8 := Tm67.1 10
    have q80_11 : (-1) ≤ m67.1 11 ∧ m67.1 11 ≤ 4000 := Tm67.1 11
    refine T_sto 111 [(6, .int (i32 s66)), (0, .ref 189), (1, .int (i32 p)), (2, .int (i32 v63)), (3, .int (i32 v64)), (4, .int (i32 1)), (5, .int (i32 401))] rfl (fun _ => rfl) ?_
    refine T_gf 115 (.int (i32 (m67.1 10))) rfl rfl rfl rfl rfl rfl ?_
    refine T_if 139 118 rfl rfl rfl (r32 (by omega) (by omega)) (fun (h83 : (m67.1 10) ≠ 0) => ?_) (fun (h83 : ¬ ((m67.1 10) ≠ 0)) => by exfalso; omega)
    refine T_ld 140 (.ref 189) rfl (fun _ => rfl) ?_
    refine T_ld 142 (.int (i32 401)) rfl (fun _ => rfl) ?_
    refine T_ld 144 (.int (i32 1)) rfl (fun _ => rfl) ?_
    refine T_ld 146 (.int (i32 s66)) rfl (fun _ => rfl) ?_
    refine T_ld 147 (.long (i64 0)) rfl (fun _ => rfl) ?_
    refine T_call 150 248 [.ref 189, .int (i32 401), .int (i32 1), .int (i32 s66), .long (i64 0)] [] rfl (fun _ => rfl) rfl (c_node w (mO m67 [] []) c N D (by omega) Tm67 401 1 s66 0 B h ⟨by decide, by decide⟩ ⟨by decide, by decide⟩ (r32 (by omega) (by omega)) ⟨by decide, by decide⟩ (fun (h : (m67.1 10) = 0) => absurd h (by omega))) (fun rr84 k85 => ?_)
    obtain ⟨m86, Tm86, Fm86, h87, c88, rfl⟩ := k85
    refine ⟨_, _, rfl, ?_⟩
    refine T_nb (st' := []) rfl ?_
    have g89 : 0 ≤ m86.1 10 ∧ m86.1 10 ≤ 8 := Tm86.1 10
    have g90 : (-1) ≤ m86.1 11 ∧ m86.1 11 ≤ 4000 := Tm86.1 11
    have g91 : 0 ≤ m86.1 28 ∧ m86.1 28 ≤ 800 := Tm86.1 28
    replace h87 : (m86.1 10) = 0 → (m67.1 10) = 0 := h87
    have hf92 : 1 ≤ (m86.1 10) := by omega
    clear c88
    clear h87
    clear q78a q78b q78 q80_10 q80_11 ic75 h83
    refine Tm_lv (a := [(0, .ref 189), (1, .int (i32 p)), (2, .int (i32 v63)), (3, .int (i32 v64)), (4, .int (i32 1)), (5, .int (i32 401)), (6, .int (i32 s66))]) rfl rfl ⟨rfl, rfl, rfl, rfl, rfl, rfl, rfl, trivial⟩ ?_
    exact J150_41 v63 v64 1 401 s66 (mO m86 [] []) (r32 (by omega) (by omega)) (r32 (by omega) (by omega)) ⟨by decide, by decide⟩ ⟨by decide, by decide⟩ (r32 (by omega) (by omega)) Tm86 (fr_m (fr_s Fm86 (fr_m (fr_s Fm67 (fr_m fr_0 rfl rfl) rfl rfl) rfl rfl) rfl rfl) rfl rfl) (show (-2147483648) ≤ v63 by omega) (show v63 ≤ 2147483647 by omega) (show 0 ≤ (1 : Int) by omega) (show (1 : Int) ≤ 64 by omega) (show 401 ≤ (401 : Int) by omega) (show (401 : Int) ≤ 403 by omega) (show 1 ≤ (m86.1 10) by omega)
  have J103_97 : ∀ (v93 : Int) (v94 : Int) (v95 : Int) (m96 : mR), (R32 v93) → (R32 v94) → (R32 v95) → Ty m96 → fr [7, 8, 9, 10, 11, 12] [] (mO m [] []) m96 → ((-2147483648) ≤ v93) → (v93 ≤ (-1)) → (2 ≤ v94) → (v94 ≤ 2) → (0 ≤ v95 ∧ v95 ≤ 11) → (1 ≤ (m96.1 10)) → TT w D pm_251 (103, [(0, .ref 189), (1, .int (i32 p)), (2, .int (i32 v93)), (3, .int (i32 v94)), (4, .int (i32 1)), (5, .int (i32 401)), (6, .int (i32 v95))], [], (mhp (mO m96 [] []) c, N), 0, 0) (Q_takeName m c N p B h) := by
    intro v93 v94 v95 m96 q104 q105 q106 Tm96 Fm96 ic98 ic99 ic100 ic101 ic102 ic103
    obtain ⟨q104a, q104b⟩ := id q104
    obtain ⟨q105a, q105b⟩ := id q105
    obtain ⟨q106a, q106b⟩ := id q106
    have q107_7 : 0 ≤ m96.1 7 ∧ m96.1 7 ≤ 330 := Tm96.1 7
    have q107_8 : 0 ≤ m96.1 8 ∧ m96.1 8 ≤ 4000 := Tm96.1 8
    have q107_9 : 0 ≤ m96.1 9 ∧ m96.1 9 ≤ 4000 := Tm96.1 9
    have q107_10 : 0 ≤ m96.1 10 ∧ m96.1 10 ≤ 8 := Tm96.1 10
    have q107_11 : (-1) ≤ m96.1 11 ∧ m96.1 11 ≤ 4000 := Tm96.1 11
    refine T_ld 104 (.ref 189) rfl (fun _ => rfl) ?_
    refine T_ld 106 (.int (i32 v95)) rfl (fun _ => rfl) ?_
    refine T_call 109 253 [.ref 189, .int (i32 v95)] [] rfl (fun _ => rfl) rfl (c_takeField w (mO m96 [] []) c N D (by omega) Tm96 v95 (r32 (by omega) (by omega)) (show LxP (m96.1 7) (m96.1 8) (m96.1 9) (m96.1 6) (m96.1 10) by rewrite [(show (m96.1 6) = (m.1 6) from (fr1 Fm96 6 rfl))]; first | exact hLx | exact (fun _ => hLx (by omega)) | (intro h9; exfalso; omega)) (show ∀ k, (m96.2 31) k + (m96.2 32) k ≤ 4000 by rewrite [(show (m96.2 31) = (m.2 31) from (fr2 Fm96 31 rfl)), (show (m96.2 32) = (m.2 32) from (fr2 Fm96 32 rfl))]; assumption) (show 0 ≤ v95 ∧ v95 ≤ 11 by omega) (fun (h : (m96.1 10) = 0) => absurd h (by omega))) (fun rr110 k111 => ?_)
    obtain ⟨m112, tf, Tm112, Fm112, g113, h114, h115, c116, rfl⟩ := k111
    refine ⟨_, _, rfl, ?_⟩
    refine T_nb (st' := [.int (i32 tf)]) rfl ?_
    obtain ⟨g113a, g113b⟩ := g113
    have g117 : 0 ≤ m112.1 7 ∧ m112.1 7 ≤ 330 := Tm112.1 7
    have g118 : 0 ≤ m112.1 8 ∧ m112.1 8 ≤ 4000 := Tm112.1 8
    have g119 : 0 ≤ m112.1 9 ∧ m112.1 9 ≤ 4000 := Tm112.1 9
    have g120 : 0 ≤ m112.1 10 ∧ m112.1 10 ≤ 8 := Tm112.1 10
    have g121 : (-1) ≤ m112.1 11 ∧ m112.1 11 ≤ 4000 := Tm112.1 11
    replace h114 : (m112.1 10) = 0 → (m96.1 10) = 0 := h114
    replace h115 : LxP (m112.1 7) (m112.1 8) (m112.1 9) (m96.1 6) (m112.1 10) := h115
    rewrite [(show (m96.1 6) = (m.1 6) from (fr1 Fm96 6 rfl))] at h115
    have hf122 : 1 ≤ (m112.1 10) := by omega
    clear c116
    clear h114
    have hLx := h115
    clear q107_7 q107_8 q107_9 q107_10 q107_11 ic103
    exact J109_68 v93 v94 v95 tf (mO m112 [] []) (r32 (by omega) (by omega)) (r32 (by omega) (by omega)) (r32 (by omega) (by omega)) (r32 (by omega) (by omega)) Tm112 (fr_m (fr_s Fm112 (fr_m (fr_s Fm96 (fr_m fr_0 rfl rfl) rfl rfl) rfl rfl) rfl rfl) rfl rfl) (show (-2147483648) ≤ v93 by omega) (show v93 ≤ (-1) by omega) (show 2 ≤ v94 by omega) (show v94 ≤ 2 by omega) (show 0 ≤ tf by omega) (show tf ≤ 191 by omega) (show 1 ≤ (m112.1 10) by omega)
  refine T_ld 1 (.ref 189) rfl (fun _ => rfl) ?_
  refine T_call 4 252 [.ref 189] [] rfl (fun _ => rfl) rfl (c_parameterHere w (mO m [] []) c N D (by omega) hT (show 1 ≤ (m.1 9) ∧ (m.1 8) + (m.1 9) ≤ (m.1 6) by first | omega | (have h8 := hLx (by omega); omega)) (show ∀ k, (m.2 47) k + (m.2 48) k ≤ 4000 by exact hPA)) (fun rr123 k124 => ?_)
  obtain ⟨pq, g125, h126, rfl⟩ := k124
  refine ⟨_, _, rfl, ?_⟩
  refine T_ns (st' := [.int (i32 pq)]) rfl ?_
  obtain ⟨g125a, g125b⟩ := g125
  replace h126 : -1 ≤ pq ∧ pq ≤ 63 := h126
  have u127 : (m.1 8) ≤ (m.1 8) := by omega
  refine T_sto 5 [(2, .int (i32 pq)), (0, .ref 189), (1, .int (i32 p))] rfl (fun _ => rfl) ?_
  refine T_ld 6 (.ref 189) rfl (fun _ => rfl) ?_
  refine T_call 9 227 [.ref 189] [] rfl (fun _ => rfl) rfl (d_sortHere w (mO m [] []) c N D (by omega) hT (show 1 ≤ (m.1 9) ∧ (m.1 8) + (m.1 9) ≤ (m.1 6) by first | omega | (have h8 := hLx (by omega); omega)) (show ∀ k, (m.2 14) k + (m.2 15) k ≤ 4000 by first | exact hNM | exact p1)) (fun rr128 k129 => ?_)
  obtain ⟨so, g130, h131, h132, rfl⟩ := k129
  refine ⟨_, _, rfl, ?_⟩
  refine T_ns (st' := [.int (i32 so)]) rfl ?_
  obtain ⟨g130a, g130b⟩ := g130
  replace h131 : ∃ g k, isGH (m.2 4) (m.1 8) (m.1 9) g ∧ (g < 0 → isFH (m.2 4) (m.2 14) (m.2 15) (m.1 8) (m.1 9) (m.1 13) k) ∧ so = sortV (m.2 16) g k := h131
  have hSo := h131
  replace h132 : -1 ≤ so ∧ so ≤ 7 := h132
  have u133 : (m.1 8) ≤ (m.1 8) := by omega
  refine T_sto 10 [(3, .int (i32 so)), (2, .int (i32 pq)), (0, .ref 189), (1, .int (i32 p))] rfl (fun _ => rfl) ?_
  refine T_ld 11 (.int (i32 1)) rfl (fun _ => rfl) ?_
  refine T_sto 13 [(4, .int (i32 1)), (3, .int (i32 so)), (2, .int (i32 pq)), (0, .ref 189), (1, .int (i32 p))] rfl (fun _ => rfl) ?_
  refine T_ld 16 (.int (i32 403)) rfl (fun _ => rfl) ?_
  refine T_sto 18 [(5, .int (i32 403)), (4, .int (i32 1)), (3, .int (i32 so)), (2, .int (i32 pq)), (0, .ref 189), (1, .int (i32 p))] rfl (fun _ => rfl) ?_
  refine T_ld 19 (.int (i32 0)) rfl (fun _ => rfl) ?_
  refine T_sto 21 [(6, .int (i32 0)), (5, .int (i32 403)), (4, .int (i32 1)), (3, .int (i32 so)), (2, .int (i32 pq)), (0, .ref 189), (1, .int (i32 p))] rfl (fun _ => rfl) ?_
  refine T_ld 22 (.int (i32 pq)) rfl (fun _ => rfl) ?_
  refine T_if 45 25 rfl rfl rfl (r32 (by omega) (by omega)) (fun (h134 : pq < 0) => ?_) (fun (h134 : ¬ (pq < 0)) => ?_)
  · skip
    refine T_ld 46 (.int (i32 so)) rfl (fun _ => rfl) ?_
    refine T_ld 47 (.int (i32 3)) rfl (fun _ => rfl) ?_
    refine T_icmp 77 50 rfl rfl rfl (r32 (by omega) (by omega)) ⟨by decide, by decide⟩ (fun (h135 : so ≠ 3) => ?_) (fun (h135 : ¬ (so ≠ 3)) => ?_)
    · skip
      refine T_ld 78 (.int (i32 so)) rfl (fun _ => rfl) ?_
      refine T_ld 79 (.int (i32 2)) rfl (fun _ => rfl) ?_
      refine T_icmp 129 82 rfl rfl rfl (r32 (by omega) (by omega)) ⟨by decide, by decide⟩ (fun (h136 : so ≠ 2) => ?_) (fun (h136 : ¬ (so ≠ 2)) => ?_)
      · skip
        refine T_ld 130 (.ref 189) rfl (fun _ => rfl) ?_
        refine T_ld 132 (.int (i32 6)) rfl (fun _ => rfl) ?_
        refine T_gf 136 (.int (i32 (m.1 8))) rfl rfl rfl rfl rfl rfl ?_
        refine T_call 139 222 [.ref 189, .int (i32 6), .int (i32 (m.1 8))] [] rfl (fun _ => rfl) rfl (d_wrong w (mO m [] []) c N D (by omega) hT 6 (m.1 8) ⟨by decide, by decide⟩ (r32 (by omega) (by omega)) (show 1 ≤ (6 : Int) ∧ (6 : Int) ≤ 8 by omega) (show 0 ≤ (m.1 8) ∧ (m.1 8) ≤ 4000 by omega)) (fun rr137 k138 => ?_)
        obtain ⟨m139, Tm139, Fm139, h140, rfl⟩ := k138
        refine ⟨_, _, rfl, ?_⟩
        refine T_nb (st' := []) rfl ?_
        have g141 : 0 ≤ m139.1 10 ∧ m139.1 10 ≤ 8 := Tm139.1 10
        have g142 : (-1) ≤ m139.1 11 ∧ m139.1 11 ≤ 4000 := Tm139.1 11
        replace h140 : (0 < (m.1 10) → (m139.1 10) = (m.1 10) ∧ (m139.1 11) = (m.1 11)) ∧ ((m.1 10) ≤ 0 → (m139.1 10) = (6 : Int) ∧ (m139.1 11) = (m.1 8)) := h140
        have hf143 : 1 ≤ (m139.1 10) := by omega
        refine T_ld 140 (.ref 189) rfl (fun _ => rfl) ?_
        refine T_ld 142 (.int (i32 403)) rfl (fun _ => rfl) ?_
        refine T_ld 144 (.int (i32 1)) rfl (fun _ => rfl) ?_
        refine T_ld 146 (.int (i32 0)) rfl (fun _ => rfl) ?_
        refine T_ld 147 (.long (i64 0)) rfl (fun _ => rfl) ?_
        refine T_call 150 248 [.ref 189, .int (i32 403), .int (i32 1), .int (i32 0), .long (i64 0)] [] rfl (fun _ => rfl) rfl (c_node w (mO m139 [] []) c N D (by omega) Tm139 403 1 0 0 B h ⟨by decide, by decide⟩ ⟨by decide, by decide⟩ ⟨by decide, by decide⟩ ⟨by decide, by decide⟩ (fun (h : (m139.1 10) = 0) => absurd h (by omega))) (fun rr144 k145 => ?_)
        obtain ⟨m146, Tm146, Fm146, h147, c148, rfl⟩ := k145
        refine ⟨_, _, rfl, ?_⟩
        refine T_nb (st' := []) rfl ?_
        have g149 : 0 ≤ m146.1 10 ∧ m146.1 10 ≤ 8 := Tm146.1 10
        have g150 : (-1) ≤ m146.1 11 ∧ m146.1 11 ≤ 4000 := Tm146.1 11
        have g151 : 0 ≤ m146.1 28 ∧ m146.1 28 ≤ 800 := Tm146.1 28
        replace h147 : (m146.1 10) = 0 → (m139.1 10) = 0 := h147
        have hf152 : 1 ≤ (m146.1 10) := by omega
        clear c148
        clear h147
        clear g141 g142 hf143 h140
        refine Tm_lv (a := [(0, .ref 189), (1, .int (i32 p)), (2, .int (i32 pq)), (3, .int (i32 so)), (4, .int (i32 1)), (5, .int (i32 403)), (6, .int (i32 0))]) rfl rfl ⟨rfl, rfl, rfl, rfl, rfl, rfl, rfl, trivial⟩ ?_
        exact J150_41 pq so 1 403 0 (mO m146 [] []) (r32 (by omega) (by omega)) (r32 (by omega) (by omega)) ⟨by decide, by decide⟩ ⟨by decide, by decide⟩ ⟨by decide, by decide⟩ Tm146 (fr_m (fr_s Fm146 (fr_m (fr_s Fm139 (fr_m fr_0 rfl rfl) rfl rfl) rfl rfl) rfl rfl) rfl rfl) (show (-2147483648) ≤ pq by omega) (show pq ≤ 2147483647 by omega) (show 0 ≤ (1 : Int) by omega) (show (1 : Int) ≤ 64 by omega) (show 401 ≤ (403 : Int) by omega) (show (403 : Int) ≤ 403 by omega) (show 1 ≤ (m146.1 10) by omega)
      · skip
        refine T_ld 85 (.int (i32 401)) rfl (fun _ => rfl) ?_
        refine T_sto 87 [(5, .int (i32 401)), (6, .int (i32 0)), (4, .int (i32 1)), (3, .int (i32 so)), (2, .int (i32 pq)), (0, .ref 189), (1, .int (i32 p))] rfl (fun _ => rfl) ?_
        refine T_ld 88 (.ref 189) rfl (fun _ => rfl) ?_
        refine T_call 91 237 [.ref 189] [] rfl (fun _ => rfl) rfl (d_whichHere w (mO m [] []) c N D (by omega) hT (show 1 ≤ (m.1 9) ∧ (m.1 8) + (m.1 9) ≤ (m.1 6) by first | omega | (have h8 := hLx (by omega); omega)) (show ∀ k, (m.2 14) k + (m.2 15) k ≤ 4000 by first | exact hNM | exact p1) (show ∀ g k, isGH (m.2 4) (m.1 8) (m.1 9) g → g < 0 → isFH (m.2 4) (m.2 14) (m.2 15) (m.1 8) (m.1 9) (m.1 13) k → 0 ≤ k by exact old_ok hSo (by omega))) (fun rr153 k154 => ?_)
        obtain ⟨wi, g155, h156, rfl⟩ := k154
        refine ⟨_, _, rfl, ?_⟩
        refine T_ns (st' := [.int (i32 wi)]) rfl ?_
        obtain ⟨g155a, g155b⟩ := g155
        replace h156 : ∃ g k, isGH (m.2 4) (m.1 8) (m.1 9) g ∧ (g < 0 → isFH (m.2 4) (m.2 14) (m.2 15) (m.1 8) (m.1 9) (m.1 13) k) ∧ wi = whichV (m.2 17) g k := h156
        have hWi := h156
        have u157 : (m.1 8) ≤ (m.1 8) := by omega
        obtain ⟨hw0, hw1⟩ : 0 ≤ wi ∧ wi < (m.1 20) := old_rg hSo hWi (by omega) (by omega) (by omega) (PNl_2 pPN) (by omega)
        refine T_sto 93 [(6, .int (i32 wi)), (5, .int (i32 401)), (4, .int (i32 1)), (3, .int (i32 so)), (2, .int (i32 pq)), (0, .ref 189), (1, .int (i32 p))] rfl (fun _ => rfl) ?_
        refine T_ld 94 (.ref 189) rfl (fun _ => rfl) ?_
        refine T_call 97 212 [.ref 189] [] rfl (fun _ => rfl) rfl (d_next w (mO m [] []) c N D (by omega) hT (show (m.1 10) = 0 → (m.1 8) + (m.1 9) ≤ (m.1 6) by first | omega | (intro h9; have h8 := hLx h9; omega))) (fun rr158 k159 => ?_)
        obtain ⟨m160, Tm160, Fm160, h161, h162, h163, h164, rfl⟩ := k159
        refine ⟨_, _, rfl, ?_⟩
        refine T_nb (st' := []) rfl ?_
        have g165 : 0 ≤ m160.1 7 ∧ m160.1 7 ≤ 330 := Tm160.1 7
        have g166 : 0 ≤ m160.1 8 ∧ m160.1 8 ≤ 4000 := Tm160.1 8
        have g167 : 0 ≤ m160.1 9 ∧ m160.1 9 ≤ 4000 := Tm160.1 9
        have g168 : 0 ≤ m160.1 10 ∧ m160.1 10 ≤ 8 := Tm160.1 10
        have g169 : (-1) ≤ m160.1 11 ∧ m160.1 11 ≤ 4000 := Tm160.1 11
        by_cases hf170 : (m160.1 10) = 0
        · skip
          replace h161 : LxP (m160.1 7) (m160.1 8) (m160.1 9) (m.1 6) (m160.1 10) := h161
          have hLx := h161
          replace h162 : (m.1 10) = 0 := h162 hf170
          replace h163 : (m.1 8) ≤ (m160.1 8) := h163
          replace h164 : (m.1 8) + (m.1 9) ≤ (m160.1 8) := h164 hf170
          have u171 : (m.1 8) + 1 ≤ (m160.1 8) := by omega
          refine T_ld 98 (.ref 189) rfl (fun _ => rfl) ?_
          refine T_ld 100 (.int (i32 46)) rfl (fun _ => rfl) ?_
          refine T_call 103 232 [.ref 189, .int (i32 46)] [] rfl (fun _ => rfl) rfl (d_need w (mO m160 [] []) c N D (by omega) Tm160 46 ⟨by decide, by decide⟩ (show 1 ≤ (46 : Int) by omega) (show LxP (m160.1 7) (m160.1 8) (m160.1 9) (m160.1 6) (m160.1 10) by rewrite [(show (m160.1 6) = (m.1 6) from (fr1 Fm160 6 rfl))]; first | exact hLx | (intro h9; exfalso; omega) | (intro h9; have h8 := hLx (by omega); omega))) (fun rr172 k173 => ?_)
          obtain ⟨m174, Tm174, Fm174, h175, h176, h177, h178, rfl⟩ := k173
          refine ⟨_, _, rfl, ?_⟩
          refine T_nb (st' := []) rfl ?_
          have g179 : 0 ≤ m174.1 7 ∧ m174.1 7 ≤ 330 := Tm174.1 7
          have g180 : 0 ≤ m174.1 8 ∧ m174.1 8 ≤ 4000 := Tm174.1 8
          have g181 : 0 ≤ m174.1 9 ∧ m174.1 9 ≤ 4000 := Tm174.1 9
          have g182 : 0 ≤ m174.1 10 ∧ m174.1 10 ≤ 8 := Tm174.1 10
          have g183 : (-1) ≤ m174.1 11 ∧ m174.1 11 ≤ 4000 := Tm174.1 11
          by_cases hf184 : (m174.1 10) = 0
          · skip
            replace h175 : LxP (m174.1 7) (m174.1 8) (m174.1 9) (m160.1 6) (m174.1 10) := h175
            rewrite [(show (m160.1 6) = (m.1 6) from (fr1 Fm160 6 rfl))] at h175
            have hLx := h175
            replace h176 : (m160.1 10) = 0 ∧ (m160.1 7) = (46 : Int) := h176 hf184
            replace h177 : (m160.1 8) ≤ (m174.1 8) := h177
            replace h178 : (m160.1 8) + (m160.1 9) ≤ (m174.1 8) := h178 hf184
            have u185 : (m.1 8) + 1 ≤ (m174.1 8) := by omega
            clear g165 g166 g167 g168 g169 h161 h163 h164 u171 h176 h177 h178
            refine T_ld 104 (.ref 189) rfl (fun _ => rfl) ?_
            refine T_ld 106 (.int (i32 wi)) rfl (fun _ => rfl) ?_
            refine T_call 109 253 [.ref 189, .int (i32 wi)] [] rfl (fun _ => rfl) rfl (c_takeField w (mO m174 [] []) c N D (by omega) Tm174 wi (r32 (by omega) (by omega)) (show LxP (m174.1 7) (m174.1 8) (m174.1 9) (m174.1 6) (m174.1 10) by rewrite [(show (m174.1 6) = (m.1 6) from ((fr1 Fm174 6 rfl).trans (fr1 Fm160 6 rfl)))]; first | exact hLx | exact (fun _ => hLx (by omega)) | (intro h9; exfalso; omega)) (show ∀ k, (m174.2 31) k + (m174.2 32) k ≤ 4000 by rewrite [(show (m174.2 31) = (m.2 31) from ((fr2 Fm174 31 rfl).trans (fr2 Fm160 31 rfl))), (show (m174.2 32) = (m.2 32) from ((fr2 Fm174 32 rfl).trans (fr2 Fm160 32 rfl)))]; assumption) (show 0 ≤ wi ∧ wi ≤ 11 by omega) (fun _ => trivial)) (fun rr186 k187 => ?_)
            obtain ⟨m188, tf, Tm188, Fm188, g189, h190, h191, c192, rfl⟩ := k187
            refine ⟨_, _, rfl, ?_⟩
            refine T_nb (st' := [.int (i32 tf)]) rfl ?_
            obtain ⟨g189a, g189b⟩ := g189
            have g193 : 0 ≤ m188.1 7 ∧ m188.1 7 ≤ 330 := Tm188.1 7
            have g194 : 0 ≤ m188.1 8 ∧ m188.1 8 ≤ 4000 := Tm188.1 8
            have g195 : 0 ≤ m188.1 9 ∧ m188.1 9 ≤ 4000 := Tm188.1 9
            have g196 : 0 ≤ m188.1 10 ∧ m188.1 10 ≤ 8 := Tm188.1 10
            have g197 : (-1) ≤ m188.1 11 ∧ m188.1 11 ≤ 4000 := Tm188.1 11
            by_cases hf198 : (m188.1 10) = 0
            · skip
              replace h190 : (m174.1 10) = 0 := h190 hf198
              replace h191 : LxP (m188.1 7) (m188.1 8) (m188.1 9) (m174.1 6) (m188.1 10) := h191
              rewrite [(show (m174.1 6) = (m.1 6) from ((fr1 Fm174 6 rfl).trans (fr1 Fm160 6 rfl)))] at h191
              have hLx := h191
              obtain ⟨c199, c200⟩ := c192 hf198
              replace c199 : (m174.1 8) + 1 ≤ (m188.1 8) := c199
              replace c200 : (m174.1 7) = 1 := c200
              clear c192
              have u201 : (m.1 8) + 1 ≤ (m188.1 8) := by omega
              clear g179 g180 g181 g182 g183 h175 u185 h190 c199 c200
              refine T_sto 111 [(6, .int (i32 tf)), (5, .int (i32 401)), (4, .int (i32 1)), (3, .int (i32 so)), (2, .int (i32 pq)), (0, .ref 189), (1, .int (i32 p))] rfl (fun _ => rfl) ?_
              refine T_gf 115 (.int (i32 (m188.1 10))) rfl rfl rfl rfl rfl rfl ?_
              refine T_if 139 118 rfl rfl rfl (r32 (by omega) (by omega)) (fun (h202 : (m188.1 10) ≠ 0) => by exfalso; omega) (fun (h202 : ¬ ((m188.1 10) ≠ 0)) => ?_)
              refine T_ld 119 (.ref 189) rfl (fun _ => rfl) ?_
              refine T_ld 121 (.int (i32 tf)) rfl (fun _ => rfl) ?_
              refine T_call 124 254 [.ref 189, .int (i32 tf)] [] rfl (fun _ => rfl) rfl (c_bitsOfField w (mO m188 [] []) c N D (by omega) Tm188 tf (r32 (by omega) (by omega)) (show 0 ≤ tf ∧ tf ≤ 191 by omega)) (fun rr203 k204 => ?_)
              obtain ⟨x205, g206, rfl⟩ := k204
              refine ⟨_, _, rfl, ?_⟩
              refine T_ns (st' := [.int (i32 x205)]) rfl ?_
              obtain ⟨g206a, g206b⟩ := g206
              have u207 : (m.1 8) + 1 ≤ (m188.1 8) := by omega
              clear g155a g155b h156
              refine T_sto 126 [(4, .int (i32 x205)), (6, .int (i32 tf)), (5, .int (i32 401)), (3, .int (i32 so)), (2, .int (i32 pq)), (0, .ref 189), (1, .int (i32 p))] rfl (fun _ => rfl) ?_
              refine T_goto 139 rfl (fun _ => rfl) ?_
              have hA : ar (401 : Int) = 0 := ar_0 (by omega)
              have hAr : ar (401 : Int) ≤ h := by omega
              have hCk : CNk (401 : Int) tf := by refine ⟨?_, ?_, ?_, ?_⟩ <;> omega
              refine T_ld 140 (.ref 189) rfl (fun _ => rfl) ?_
              refine T_ld 142 (.int (i32 401)) rfl (fun _ => rfl) ?_
              refine T_ld 144 (.int (i32 x205)) rfl (fun _ => rfl) ?_
              refine T_ld 146 (.int (i32 tf)) rfl (fun _ => rfl) ?_
              refine T_ld 147 (.long (i64 0)) rfl (fun _ => rfl) ?_
              refine T_call 150 248 [.ref 189, .int (i32 401), .int (i32 x205), .int (i32 tf), .long (i64 0)] [] rfl (fun _ => rfl) rfl (c_node w (mO m188 [] []) c N D (by omega) Tm188 401 x205 tf 0 B h ⟨by decide, by decide⟩ (r32 (by omega) (by omega)) (r32 (by omega) (by omega)) ⟨by decide, by decide⟩ (fun _ => ⟨(show 0 ≤ (401 : Int) ∧ (401 : Int) ≤ 408 by first | omega | decide), (show 0 ≤ x205 ∧ x205 ≤ 64 by first | omega | decide), (show 0 ≤ tf ∧ tf ≤ 191 by first | omega | decide), (show CNk (401 : Int) tf by first | exact hCk | (refine ⟨?_, ?_, ?_, ?_⟩ <;> omega)), (show ar (401 : Int) ≤ h by first | exact hAr | omega), (show EX (m188.2 65) (m188.2 67) B (m188.1 28) h by rewrite [(show (m188.2 65) = (m.2 65) from ((fr2 Fm188 65 rfl).trans ((fr2 Fm174 65 rfl).trans (fr2 Fm160 65 rfl)))), (show (m188.2 67) = (m.2 67) from ((fr2 Fm188 67 rfl).trans ((fr2 Fm174 67 rfl).trans (fr2 Fm160 67 rfl)))), (show (m188.1 28) = (m.1 28) from ((fr1 Fm188 28 rfl).trans ((fr1 Fm174 28 rfl).trans (fr1 Fm160 28 rfl))))]; first | exact hEX | assumption)⟩)) (fun rr208 k209 => ?_)
              obtain ⟨m210, Tm210, Fm210, h211, c212, rfl⟩ := k209
              refine ⟨_, _, rfl, ?_⟩
              refine T_nb (st' := []) rfl ?_
              have g213 : 0 ≤ m210.1 10 ∧ m210.1 10 ≤ 8 := Tm210.1 10
              have g214 : (-1) ≤ m210.1 11 ∧ m210.1 11 ≤ 4000 := Tm210.1 11
              have g215 : 0 ≤ m210.1 28 ∧ m210.1 28 ≤ 800 := Tm210.1 28
              by_cases hf216 : (m210.1 10) = 0
              · skip
                replace h211 : (m188.1 10) = 0 := h211 hf216
                obtain ⟨c217, c218, c219⟩ := c212 hf216
                replace c217 : (m210.1 28) = (m188.1 28) + 1 := c217
                rewrite [(show (m188.1 28) = (m.1 28) from ((fr1 Fm188 28 rfl).trans ((fr1 Fm174 28 rfl).trans (fr1 Fm160 28 rfl))))] at c217
                replace c218 : EX (m210.2 65) (m210.2 67) B (m210.1 28) (h + 1 - ar (401 : Int)) := c218
                have hEX := c218
                replace c219 : agr (m188.2 65) (m210.2 65) (m188.1 28) := c219
                rewrite [(show (m188.2 65) = (m.2 65) from ((fr2 Fm188 65 rfl).trans ((fr2 Fm174 65 rfl).trans (fr2 Fm160 65 rfl)))), (show (m188.1 28) = (m.1 28) from ((fr1 Fm188 28 rfl).trans ((fr1 Fm174 28 rfl).trans (fr1 Fm160 28 rfl))))] at c219
                have hAg := c219
                clear c212
                have u220 : (m.1 8) + 1 ≤ (m188.1 8) := by omega
                clear g196 g197 h191 h202 h211
                refine T_ld 151 (.ref 189) rfl (fun _ => rfl) ?_
                refine T_ld 153 (.int (i32 x205)) rfl (fun _ => rfl) ?_
                refine T_ld 154 (.int (i32 p)) rfl (fun _ => rfl) ?_
                refine T_call 157 249 [.ref 189, .int (i32 x205), .int (i32 p)] [] rfl (fun _ => rfl) rfl (c_atom w (mO m210 [] []) c N D (by omega) Tm210 x205 p (r32 (by omega) (by omega)) (r32 (by omega) (by omega)) (show 0 ≤ x205 ∧ x205 ≤ 64 by omega) (show 0 ≤ p ∧ p ≤ 4000 by omega)) (fun rr221 k222 => ?_)
                obtain ⟨m223, Tm223, Fm223, h224, rfl⟩ := k222
                refine ⟨_, _, rfl, ?_⟩
                refine T_nb (st' := []) rfl ?_
                have g225 : 0 ≤ m223.1 69 ∧ m223.1 69 ≤ 1024 := Tm223.1 69
                have g226 : 0 ≤ m223.1 75 ∧ m223.1 75 ≤ 3 := Tm223.1 75
                replace h224 : (m210.1 10) = 0 → (m223.1 75) = 1 ∧ (m223.1 69) = x205 := h224
                have u227 : (m.1 8) + 1 ≤ (m188.1 8) := by omega
                refine T_ret rfl (fun _ => rfl) ?_
                exact ⟨(mO m223 [] []), Tm223, (fr_m (fr_s Fm223 (fr_m (fr_s Fm210 (fr_m (fr_s Fm188 (fr_m (fr_s Fm174 (fr_m (fr_s Fm160 (fr_m fr_0 rfl rfl) rfl rfl) rfl rfl) rfl rfl) rfl rfl) rfl rfl) rfl rfl) rfl rfl) rfl rfl) rfl rfl) rfl rfl), (show (m223.1 10) = 0 → (m.1 10) = 0 by rewrite [(show (m223.1 10) = (m210.1 10) from (fr1 Fm223 10 rfl))]; omega), (show LxP (m223.1 7) (m223.1 8) (m223.1 9) (m.1 6) (m223.1 10) by rewrite [(show (m223.1 7) = (m188.1 7) from ((fr1 Fm223 7 rfl).trans (fr1 Fm210 7 rfl))), (show (m223.1 8) = (m188.1 8) from ((fr1 Fm223 8 rfl).trans (fr1 Fm210 8 rfl))), (show (m223.1 9) = (m188.1 9) from ((fr1 Fm223 9 rfl).trans (fr1 Fm210 9 rfl))), (show (m223.1 10) = (m210.1 10) from (fr1 Fm223 10 rfl))]; first | (first | exact hLx | exact (fun _ => hLx (by omega)) | (intro h9; exfalso; omega)) | (exfalso; omega)), (fun _ => ⟨(show (m.1 8) + 1 ≤ (m223.1 8) by rewrite [(show (m223.1 8) = (m188.1 8) from ((fr1 Fm223 8 rfl).trans (fr1 Fm210 8 rfl)))]; omega), (show (m223.1 75) = 1 by omega), (show (m223.1 69) ≤ 64 by omega), (show (m223.1 28) = (m.1 28) + 1 by rewrite [(show (m223.1 28) = (m210.1 28) from (fr1 Fm223 28 rfl))]; omega), (show EX (m223.2 65) (m223.2 67) B (m223.1 28) (h + 1) by rewrite [(show (m223.2 65) = (m210.2 65) from (fr2 Fm223 65 rfl)), (show (m223.2 67) = (m210.2 67) from (fr2 Fm223 67 rfl)), (show (m223.1 28) = (m210.1 28) from (fr1 Fm223 28 rfl))]; first | (exact EX_w hEX (by omega)) | (exfalso; omega)), (show agr (m.2 65) (m223.2 65) (m.1 28) by rewrite [(show (m223.2 65) = (m210.2 65) from (fr2 Fm223 65 rfl))]; first | (exact hAg) | (exfalso; omega))⟩), rfl⟩
              · skip
                clear c212
                clear h211
                have hf228 : 1 ≤ (m210.1 10) := by omega
                clear g196 g197 h191 h202
                refine Tm_lv (a := [(0, .ref 189), (1, .int (i32 p)), (2, .int (i32 pq)), (3, .int (i32 so)), (4, .int (i32 x205)), (5, .int (i32 401)), (6, .int (i32 tf))]) rfl rfl ⟨rfl, rfl, rfl, rfl, rfl, rfl, rfl, trivial⟩ ?_
                exact J150_41 pq so x205 401 tf (mO m210 [] []) (r32 (by omega) (by omega)) (r32 (by omega) (by omega)) (r32 (by omega) (by omega)) ⟨by decide, by decide⟩ (r32 (by omega) (by omega)) Tm210 (fr_m (fr_s Fm210 (fr_m (fr_s Fm188 (fr_m (fr_s Fm174 (fr_m (fr_s Fm160 (fr_m fr_0 rfl rfl) rfl rfl) rfl rfl) rfl rfl) rfl rfl) rfl rfl) rfl rfl) rfl rfl) rfl rfl) (show (-2147483648) ≤ pq by omega) (show pq ≤ 2147483647 by omega) (show 0 ≤ x205 by omega) (show x205 ≤ 64 by omega) (show 401 ≤ (401 : Int) by omega) (show (401 : Int) ≤ 403 by omega) (show 1 ≤ (m210.1 10) by omega)
            · skip
              clear c192
              clear h190
              replace h191 : LxP (m188.1 7) (m188.1 8) (m188.1 9) (m174.1 6) (m188.1 10) := h191
              rewrite [(show (m174.1 6) = (m.1 6) from ((fr1 Fm174 6 rfl).trans (fr1 Fm160 6 rfl)))] at h191
              have hLx := h191
              have hf229 : 1 ≤ (m188.1 10) := by omega
              clear g179 g180 g181 g182 g183 h175 u185
              refine Tm_lv (a := [(0, .ref 189), (1, .int (i32 p)), (2, .int (i32 pq)), (3, .int (i32 so)), (4, .int (i32 1)), (5, .int (i32 401)), (6, .int (i32 wi))]) rfl rfl ⟨rfl, rfl, rfl, rfl, rfl, rfl, rfl, trivial⟩ ?_
              exact J109_68 pq so wi tf (mO m188 [] []) (r32 (by omega) (by omega)) (r32 (by omega) (by omega)) (r32 (by omega) (by omega)) (r32 (by omega) (by omega)) Tm188 (fr_m (fr_s Fm188 (fr_m (fr_s Fm174 (fr_m (fr_s Fm160 (fr_m fr_0 rfl rfl) rfl rfl) rfl rfl) rfl rfl) rfl rfl) rfl rfl) rfl rfl) (show (-2147483648) ≤ pq by omega) (show pq ≤ (-1) by omega) (show 2 ≤ so by omega) (show so ≤ 2 by omega) (show 0 ≤ tf by omega) (show tf ≤ 191 by omega) (show 1 ≤ (m188.1 10) by omega)
          · skip
            replace h175 : LxP (m174.1 7) (m174.1 8) (m174.1 9) (m160.1 6) (m174.1 10) := h175
            rewrite [(show (m160.1 6) = (m.1 6) from (fr1 Fm160 6 rfl))] at h175
            have hLx := h175
            clear h176
            replace h177 : (m160.1 8) ≤ (m174.1 8) := h177
            clear h178
            have hf230 : 1 ≤ (m174.1 10) := by omega
            clear g165 g166 g167 g168 g169 h161 h163 h164 u171 h177
            refine Tm_lv (a := [(0, .ref 189), (1, .int (i32 p)), (2, .int (i32 pq)), (3, .int (i32 so)), (4, .int (i32 1)), (5, .int (i32 401)), (6, .int (i32 wi))]) rfl rfl ⟨rfl, rfl, rfl, rfl, rfl, rfl, rfl, trivial⟩ ?_
            exact J103_97 pq so wi (mO m174 [] []) (r32 (by omega) (by omega)) (r32 (by omega) (by omega)) (r32 (by omega) (by omega)) Tm174 (fr_m (fr_s Fm174 (fr_m (fr_s Fm160 (fr_m fr_0 rfl rfl) rfl rfl) rfl rfl) rfl rfl) rfl rfl) (show (-2147483648) ≤ pq by omega) (show pq ≤ (-1) by omega) (show 2 ≤ so by omega) (show so ≤ 2 by omega) (show 0 ≤ wi ∧ wi ≤ 11 by omega) (show 1 ≤ (m174.1 10) by omega)
        · skip
          replace h161 : LxP (m160.1 7) (m160.1 8) (m160.1 9) (m.1 6) (m160.1 10) := h161
          have hLx := h161
          clear h162
          replace h163 : (m.1 8) ≤ (m160.1 8) := h163
          clear h164
          have hf231 : 1 ≤ (m160.1 10) := by omega
          refine T_ld 98 (.ref 189) rfl (fun _ => rfl) ?_
          refine T_ld 100 (.int (i32 46)) rfl (fun _ => rfl) ?_
          refine T_call 103 232 [.ref 189, .int (i32 46)] [] rfl (fun _ => rfl) rfl (d_need w (mO m160 [] []) c N D (by omega) Tm160 46 ⟨by decide, by decide⟩ (show 1 ≤ (46 : Int) by omega) (show LxP (m160.1 7) (m160.1 8) (m160.1 9) (m160.1 6) (m160.1 10) by rewrite [(show (m160.1 6) = (m.1 6) from (fr1 Fm160 6 rfl))]; first | exact hLx | (intro h9; exfalso; omega) | (intro h9; have h8 := hLx (by omega); omega))) (fun rr232 k233 => ?_)
          obtain ⟨m234, Tm234, Fm234, h235, h236, h237, h238, rfl⟩ := k233
          refine ⟨_, _, rfl, ?_⟩
          refine T_nb (st' := []) rfl ?_
          have g239 : 0 ≤ m234.1 7 ∧ m234.1 7 ≤ 330 := Tm234.1 7
          have g240 : 0 ≤ m234.1 8 ∧ m234.1 8 ≤ 4000 := Tm234.1 8
          have g241 : 0 ≤ m234.1 9 ∧ m234.1 9 ≤ 4000 := Tm234.1 9
          have g242 : 0 ≤ m234.1 10 ∧ m234.1 10 ≤ 8 := Tm234.1 10
          have g243 : (-1) ≤ m234.1 11 ∧ m234.1 11 ≤ 4000 := Tm234.1 11
          replace h235 : LxP (m234.1 7) (m234.1 8) (m234.1 9) (m160.1 6) (m234.1 10) := h235
          rewrite [(show (m160.1 6) = (m.1 6) from (fr1 Fm160 6 rfl))] at h235
          replace h236 : (m234.1 10) = 0 → (m160.1 10) = 0 ∧ (m160.1 7) = (46 : Int) := h236
          replace h237 : (m160.1 8) ≤ (m234.1 8) := h237
          replace h238 : (m234.1 10) = 0 → (m160.1 8) + (m160.1 9) ≤ (m234.1 8) := h238
          have hf244 : 1 ≤ (m234.1 10) := by omega
          clear h236
          clear h238
          have hLx := h235
          clear g165 g166 g167 g168 g169 h161 h163 hf231 h237
          refine Tm_lv (a := [(0, .ref 189), (1, .int (i32 p)), (2, .int (i32 pq)), (3, .int (i32 so)), (4, .int (i32 1)), (5, .int (i32 401)), (6, .int (i32 wi))]) rfl rfl ⟨rfl, rfl, rfl, rfl, rfl, rfl, rfl, trivial⟩ ?_
          exact J103_97 pq so wi (mO m234 [] []) (r32 (by omega) (by omega)) (r32 (by omega) (by omega)) (r32 (by omega) (by omega)) Tm234 (fr_m (fr_s Fm234 (fr_m (fr_s Fm160 (fr_m fr_0 rfl rfl) rfl rfl) rfl rfl) rfl rfl) rfl rfl) (show (-2147483648) ≤ pq by omega) (show pq ≤ (-1) by omega) (show 2 ≤ so by omega) (show so ≤ 2 by omega) (show 0 ≤ wi ∧ wi ≤ 11 by omega) (show 1 ≤ (m234.1 10) by omega)
    · skip
      refine T_ld 53 (.int (i32 402)) rfl (fun _ => rfl) ?_
      refine T_sto 55 [(5, .int (i32 402)), (6, .int (i32 0)), (4, .int (i32 1)), (3, .int (i32 so)), (2, .int (i32 pq)), (0, .ref 189), (1, .int (i32 p))] rfl (fun _ => rfl) ?_
      refine T_ld 56 (.ref 189) rfl (fun _ => rfl) ?_
      refine T_call 59 237 [.ref 189] [] rfl (fun _ => rfl) rfl (d_whichHere w (mO m [] []) c N D (by omega) hT (show 1 ≤ (m.1 9) ∧ (m.1 8) + (m.1 9) ≤ (m.1 6) by first | omega | (have h8 := hLx (by omega); omega)) (show ∀ k, (m.2 14) k + (m.2 15) k ≤ 4000 by first | exact hNM | exact p1) (show ∀ g k, isGH (m.2 4) (m.1 8) (m.1 9) g → g < 0 → isFH (m.2 4) (m.2 14) (m.2 15) (m.1 8) (m.1 9) (m.1 13) k → 0 ≤ k by exact old_ok hSo (by omega))) (fun rr245 k246 => ?_)
      obtain ⟨wi, g247, h248, rfl⟩ := k246
      refine ⟨_, _, rfl, ?_⟩
      refine T_ns (st' := [.int (i32 wi)]) rfl ?_
      obtain ⟨g247a, g247b⟩ := g247
      replace h248 : ∃ g k, isGH (m.2 4) (m.1 8) (m.1 9) g ∧ (g < 0 → isFH (m.2 4) (m.2 14) (m.2 15) (m.1 8) (m.1 9) (m.1 13) k) ∧ wi = whichV (m.2 17) g k := h248
      have hWi := h248
      have u249 : (m.1 8) ≤ (m.1 8) := by omega
      obtain ⟨hw0, hw1⟩ : 0 ≤ wi ∧ wi < (m.1 21) := old_rg hSo hWi (by omega) (by omega) (by omega) (PNl_3 pPN) (by omega)
      refine T_sto 61 [(6, .int (i32 wi)), (5, .int (i32 402)), (4, .int (i32 1)), (3, .int (i32 so)), (2, .int (i32 pq)), (0, .ref 189), (1, .int (i32 p))] rfl (fun _ => rfl) ?_
      refine T_gf 65 (.ref 205) rfl rfl rfl rfl rfl rfl ?_
      refine T_ld 67 (.int (i32 wi)) rfl (fun _ => rfl) ?_
      refine T_iald 68 35 (m.2 35) rfl rfl rfl (by omega) (show wi < (16 : Int) by omega) rfl ?_
      have e250 : 0 ≤ m.2 35 wi ∧ m.2 35 wi ≤ 64 := hT.2.1 35 wi
      refine T_sto 70 [(4, .int (i32 ((m.2 35) wi))), (6, .int (i32 wi)), (5, .int (i32 402)), (3, .int (i32 so)), (2, .int (i32 pq)), (0, .ref 189), (1, .int (i32 p))] rfl (fun _ => rfl) ?_
      refine T_ld 71 (.ref 189) rfl (fun _ => rfl) ?_
      refine T_call 74 212 [.ref 189] [] rfl (fun _ => rfl) rfl (d_next w (mO m [] []) c N D (by omega) hT (show (m.1 10) = 0 → (m.1 8) + (m.1 9) ≤ (m.1 6) by first | omega | (intro h9; have h8 := hLx h9; omega))) (fun rr251 k252 => ?_)
      obtain ⟨m253, Tm253, Fm253, h254, h255, h256, h257, rfl⟩ := k252
      refine ⟨_, _, rfl, ?_⟩
      refine T_nb (st' := []) rfl ?_
      have g258 : 0 ≤ m253.1 7 ∧ m253.1 7 ≤ 330 := Tm253.1 7
      have g259 : 0 ≤ m253.1 8 ∧ m253.1 8 ≤ 4000 := Tm253.1 8
      have g260 : 0 ≤ m253.1 9 ∧ m253.1 9 ≤ 4000 := Tm253.1 9
      have g261 : 0 ≤ m253.1 10 ∧ m253.1 10 ≤ 8 := Tm253.1 10
      have g262 : (-1) ≤ m253.1 11 ∧ m253.1 11 ≤ 4000 := Tm253.1 11
      by_cases hf263 : (m253.1 10) = 0
      · skip
        replace h254 : LxP (m253.1 7) (m253.1 8) (m253.1 9) (m.1 6) (m253.1 10) := h254
        have hLx := h254
        replace h255 : (m.1 10) = 0 := h255 hf263
        replace h256 : (m.1 8) ≤ (m253.1 8) := h256
        replace h257 : (m.1 8) + (m.1 9) ≤ (m253.1 8) := h257 hf263
        have u264 : (m.1 8) + 1 ≤ (m253.1 8) := by omega
        refine T_goto 139 rfl (fun _ => rfl) ?_
        have hA : ar (402 : Int) = 0 := ar_0 (by omega)
        have hAr : ar (402 : Int) ≤ h := by omega
        have hCk : CNk (402 : Int) wi := by refine ⟨?_, ?_, ?_, ?_⟩ <;> omega
        refine T_ld 140 (.ref 189) rfl (fun _ => rfl) ?_
        refine T_ld 142 (.int (i32 402)) rfl (fun _ => rfl) ?_
        refine T_ld 144 (.int (i32 ((m.2 35) wi))) rfl (fun _ => rfl) ?_
        refine T_ld 146 (.int (i32 wi)) rfl (fun _ => rfl) ?_
        refine T_ld 147 (.long (i64 0)) rfl (fun _ => rfl) ?_
        refine T_call 150 248 [.ref 189, .int (i32 402), .int (i32 ((m.2 35) wi)), .int (i32 wi), .long (i64 0)] [] rfl (fun _ => rfl) rfl (c_node w (mO m253 [] []) c N D (by omega) Tm253 402 ((m.2 35) wi) wi 0 B h ⟨by decide, by decide⟩ (r32 (by omega) (by omega)) (r32 (by omega) (by omega)) ⟨by decide, by decide⟩ (fun _ => ⟨(show 0 ≤ (402 : Int) ∧ (402 : Int) ≤ 408 by first | omega | decide), (show 0 ≤ ((m.2 35) wi) ∧ ((m.2 35) wi) ≤ 64 by first | omega | decide), (show 0 ≤ wi ∧ wi ≤ 191 by first | omega | decide), (show CNk (402 : Int) wi by first | exact hCk | (refine ⟨?_, ?_, ?_, ?_⟩ <;> omega)), (show ar (402 : Int) ≤ h by first | exact hAr | omega), (show EX (m253.2 65) (m253.2 67) B (m253.1 28) h by rewrite [(show (m253.2 65) = (m.2 65) from (fr2 Fm253 65 rfl)), (show (m253.2 67) = (m.2 67) from (fr2 Fm253 67 rfl)), (show (m253.1 28) = (m.1 28) from (fr1 Fm253 28 rfl))]; first | exact hEX | assumption)⟩)) (fun rr265 k266 => ?_)
        obtain ⟨m267, Tm267, Fm267, h268, c269, rfl⟩ := k266
        refine ⟨_, _, rfl, ?_⟩
        refine T_nb (st' := []) rfl ?_
        have g270 : 0 ≤ m267.1 10 ∧ m267.1 10 ≤ 8 := Tm267.1 10
        have g271 : (-1) ≤ m267.1 11 ∧ m267.1 11 ≤ 4000 := Tm267.1 11
        have g272 : 0 ≤ m267.1 28 ∧ m267.1 28 ≤ 800 := Tm267.1 28
        by_cases hf273 : (m267.1 10) = 0
        · skip
          replace h268 : (m253.1 10) = 0 := h268 hf273
          obtain ⟨c274, c275, c276⟩ := c269 hf273
          replace c274 : (m267.1 28) = (m253.1 28) + 1 := c274
          rewrite [(show (m253.1 28) = (m.1 28) from (fr1 Fm253 28 rfl))] at c274
          replace c275 : EX (m267.2 65) (m267.2 67) B (m267.1 28) (h + 1 - ar (402 : Int)) := c275
          have hEX := c275
          replace c276 : agr (m253.2 65) (m267.2 65) (m253.1 28) := c276
          rewrite [(show (m253.2 65) = (m.2 65) from (fr2 Fm253 65 rfl)), (show (m253.1 28) = (m.1 28) from (fr1 Fm253 28 rfl))] at c276
          have hAg := c276
          clear c269
          have u277 : (m.1 8) + 1 ≤ (m253.1 8) := by omega
          clear g261 g262 h254 h268
          refine T_ld 151 (.ref 189) rfl (fun _ => rfl) ?_
          refine T_ld 153 (.int (i32 ((m.2 35) wi))) rfl (fun _ => rfl) ?_
          refine T_ld 154 (.int (i32 p)) rfl (fun _ => rfl) ?_
          refine T_call 157 249 [.ref 189, .int (i32 ((m.2 35) wi)), .int (i32 p)] [] rfl (fun _ => rfl) rfl (c_atom w (mO m267 [] []) c N D (by omega) Tm267 ((m.2 35) wi) p (r32 (by omega) (by omega)) (r32 (by omega) (by omega)) (show 0 ≤ ((m.2 35) wi) ∧ ((m.2 35) wi) ≤ 64 by omega) (show 0 ≤ p ∧ p ≤ 4000 by omega)) (fun rr278 k279 => ?_)
          obtain ⟨m280, Tm280, Fm280, h281, rfl⟩ := k279
          refine ⟨_, _, rfl, ?_⟩
          refine T_nb (st' := []) rfl ?_
          have g282 : 0 ≤ m280.1 69 ∧ m280.1 69 ≤ 1024 := Tm280.1 69
          have g283 : 0 ≤ m280.1 75 ∧ m280.1 75 ≤ 3 := Tm280.1 75
          replace h281 : (m267.1 10) = 0 → (m280.1 75) = 1 ∧ (m280.1 69) = ((m.2 35) wi) := h281
          have u284 : (m.1 8) + 1 ≤ (m253.1 8) := by omega
          refine T_ret rfl (fun _ => rfl) ?_
          exact ⟨(mO m280 [] []), Tm280, (fr_m (fr_s Fm280 (fr_m (fr_s Fm267 (fr_m (fr_s Fm253 (fr_m fr_0 rfl rfl) rfl rfl) rfl rfl) rfl rfl) rfl rfl) rfl rfl) rfl rfl), (show (m280.1 10) = 0 → (m.1 10) = 0 by rewrite [(show (m280.1 10) = (m267.1 10) from (fr1 Fm280 10 rfl))]; omega), (show LxP (m280.1 7) (m280.1 8) (m280.1 9) (m.1 6) (m280.1 10) by rewrite [(show (m280.1 7) = (m253.1 7) from ((fr1 Fm280 7 rfl).trans (fr1 Fm267 7 rfl))), (show (m280.1 8) = (m253.1 8) from ((fr1 Fm280 8 rfl).trans (fr1 Fm267 8 rfl))), (show (m280.1 9) = (m253.1 9) from ((fr1 Fm280 9 rfl).trans (fr1 Fm267 9 rfl))), (show (m280.1 10) = (m267.1 10) from (fr1 Fm280 10 rfl))]; first | (first | exact hLx | exact (fun _ => hLx (by omega)) | (intro h9; exfalso; omega)) | (exfalso; omega)), (fun _ => ⟨(show (m.1 8) + 1 ≤ (m280.1 8) by rewrite [(show (m280.1 8) = (m253.1 8) from ((fr1 Fm280 8 rfl).trans (fr1 Fm267 8 rfl)))]; omega), (show (m280.1 75) = 1 by omega), (show (m280.1 69) ≤ 64 by omega), (show (m280.1 28) = (m.1 28) + 1 by rewrite [(show (m280.1 28) = (m267.1 28) from (fr1 Fm280 28 rfl))]; omega), (show EX (m280.2 65) (m280.2 67) B (m280.1 28) (h + 1) by rewrite [(show (m280.2 65) = (m267.2 65) from (fr2 Fm280 65 rfl)), (show (m280.2 67) = (m267.2 67) from (fr2 Fm280 67 rfl)), (show (m280.1 28) = (m267.1 28) from (fr1 Fm280 28 rfl))]; first | (exact EX_w hEX (by omega)) | (exfalso; omega)), (show agr (m.2 65) (m280.2 65) (m.1 28) by rewrite [(show (m280.2 65) = (m267.2 65) from (fr2 Fm280 65 rfl))]; first | (exact hAg) | (exfalso; omega))⟩), rfl⟩
        · skip
          clear c269
          clear h268
          have hf285 : 1 ≤ (m267.1 10) := by omega
          clear g261 g262 h254
          refine Tm_lv (a := [(0, .ref 189), (1, .int (i32 p)), (2, .int (i32 pq)), (3, .int (i32 so)), (4, .int (i32 ((m.2 35) wi))), (5, .int (i32 402)), (6, .int (i32 wi))]) rfl rfl ⟨rfl, rfl, rfl, rfl, rfl, rfl, rfl, trivial⟩ ?_
          exact J150_41 pq so ((m.2 35) wi) 402 wi (mO m267 [] []) (r32 (by omega) (by omega)) (r32 (by omega) (by omega)) (r32 (by omega) (by omega)) ⟨by decide, by decide⟩ (r32 (by omega) (by omega)) Tm267 (fr_m (fr_s Fm267 (fr_m (fr_s Fm253 (fr_m fr_0 rfl rfl) rfl rfl) rfl rfl) rfl rfl) rfl rfl) (show (-2147483648) ≤ pq by omega) (show pq ≤ 2147483647 by omega) (show 0 ≤ ((m.2 35) wi) by omega) (show ((m.2 35) wi) ≤ 64 by omega) (show 401 ≤ (402 : Int) by omega) (show (402 : Int) ≤ 403 by omega) (show 1 ≤ (m267.1 10) by omega)
      · skip
        replace h254 : LxP (m253.1 7) (m253.1 8) (m253.1 9) (m.1 6) (m253.1 10) := h254
        have hLx := h254
        clear h255
        replace h256 : (m.1 8) ≤ (m253.1 8) := h256
        clear h257
        have hf286 : 1 ≤ (m253.1 10) := by omega
        refine T_goto 139 rfl (fun _ => rfl) ?_
        refine T_ld 140 (.ref 189) rfl (fun _ => rfl) ?_
        refine T_ld 142 (.int (i32 402)) rfl (fun _ => rfl) ?_
        refine T_ld 144 (.int (i32 ((m.2 35) wi))) rfl (fun _ => rfl) ?_
        refine T_ld 146 (.int (i32 wi)) rfl (fun _ => rfl) ?_
        refine T_ld 147 (.long (i64 0)) rfl (fun _ => rfl) ?_
        refine T_call 150 248 [.ref 189, .int (i32 402), .int (i32 ((m.2 35) wi)), .int (i32 wi), .long (i64 0)] [] rfl (fun _ => rfl) rfl (c_node w (mO m253 [] []) c N D (by omega) Tm253 402 ((m.2 35) wi) wi 0 B h ⟨by decide, by decide⟩ (r32 (by omega) (by omega)) (r32 (by omega) (by omega)) ⟨by decide, by decide⟩ (fun (h : (m253.1 10) = 0) => absurd h (by omega))) (fun rr287 k288 => ?_)
        obtain ⟨m289, Tm289, Fm289, h290, c291, rfl⟩ := k288
        refine ⟨_, _, rfl, ?_⟩
        refine T_nb (st' := []) rfl ?_
        have g292 : 0 ≤ m289.1 10 ∧ m289.1 10 ≤ 8 := Tm289.1 10
        have g293 : (-1) ≤ m289.1 11 ∧ m289.1 11 ≤ 4000 := Tm289.1 11
        have g294 : 0 ≤ m289.1 28 ∧ m289.1 28 ≤ 800 := Tm289.1 28
        replace h290 : (m289.1 10) = 0 → (m253.1 10) = 0 := h290
        have hf295 : 1 ≤ (m289.1 10) := by omega
        clear c291
        clear h290
        clear g261 g262 h254 hf286
        refine Tm_lv (a := [(0, .ref 189), (1, .int (i32 p)), (2, .int (i32 pq)), (3, .int (i32 so)), (4, .int (i32 ((m.2 35) wi))), (5, .int (i32 402)), (6, .int (i32 wi))]) rfl rfl ⟨rfl, rfl, rfl, rfl, rfl, rfl, rfl, trivial⟩ ?_
        exact J150_41 pq so ((m.2 35) wi) 402 wi (mO m289 [] []) (r32 (by omega) (by omega)) (r32 (by omega) (by omega)) (r32 (by omega) (by omega)) ⟨by decide, by decide⟩ (r32 (by omega) (by omega)) Tm289 (fr_m (fr_s Fm289 (fr_m (fr_s Fm253 (fr_m fr_0 rfl rfl) rfl rfl) rfl rfl) rfl rfl) rfl rfl) (show (-2147483648) ≤ pq by omega) (show pq ≤ 2147483647 by omega) (show 0 ≤ ((m.2 35) wi) by omega) (show ((m.2 35) wi) ≤ 64 by omega) (show 401 ≤ (402 : Int) by omega) (show (402 : Int) ≤ 403 by omega) (show 1 ≤ (m289.1 10) by omega)
  · skip
    refine T_gf 29 (.ref 219) rfl rfl rfl rfl rfl rfl ?_
    refine T_ld 30 (.int (i32 pq)) rfl (fun _ => rfl) ?_
    refine T_iald 31 49 (m.2 49) rfl rfl rfl (by omega) (show pq < (64 : Int) by omega) rfl ?_
    have e296 : 0 ≤ m.2 49 pq ∧ m.2 49 pq ≤ 64 := hT.2.1 49 pq
    refine T_sto 33 [(4, .int (i32 ((m.2 49) pq))), (6, .int (i32 0)), (5, .int (i32 403)), (3, .int (i32 so)), (2, .int (i32 pq)), (0, .ref 189), (1, .int (i32 p))] rfl (fun _ => rfl) ?_
    refine T_ld 34 (.int (i32 pq)) rfl (fun _ => rfl) ?_
    refine T_ld 35 (.int (i32 4)) rfl (fun _ => rfl) ?_
    refine T_irem 36 rfl rfl (by omega) (by omega) (by omega) (by omega) ?_
    refine T_sto 38 [(6, .int (i32 (pq % 4))), (4, .int (i32 ((m.2 49) pq))), (5, .int (i32 403)), (3, .int (i32 so)), (2, .int (i32 pq)), (0, .ref 189), (1, .int (i32 p))] rfl (fun _ => rfl) ?_
    refine T_ld 39 (.ref 189) rfl (fun _ => rfl) ?_
    refine T_call 42 212 [.ref 189] [] rfl (fun _ => rfl) rfl (d_next w (mO m [] []) c N D (by omega) hT (show (m.1 10) = 0 → (m.1 8) + (m.1 9) ≤ (m.1 6) by first | omega | (intro h9; have h8 := hLx h9; omega))) (fun rr297 k298 => ?_)
    obtain ⟨m299, Tm299, Fm299, h300, h301, h302, h303, rfl⟩ := k298
    refine ⟨_, _, rfl, ?_⟩
    refine T_nb (st' := []) rfl ?_
    have g304 : 0 ≤ m299.1 7 ∧ m299.1 7 ≤ 330 := Tm299.1 7
    have g305 : 0 ≤ m299.1 8 ∧ m299.1 8 ≤ 4000 := Tm299.1 8
    have g306 : 0 ≤ m299.1 9 ∧ m299.1 9 ≤ 4000 := Tm299.1 9
    have g307 : 0 ≤ m299.1 10 ∧ m299.1 10 ≤ 8 := Tm299.1 10
    have g308 : (-1) ≤ m299.1 11 ∧ m299.1 11 ≤ 4000 := Tm299.1 11
    by_cases hf309 : (m299.1 10) = 0
    · skip
      replace h300 : LxP (m299.1 7) (m299.1 8) (m299.1 9) (m.1 6) (m299.1 10) := h300
      have hLx := h300
      replace h301 : (m.1 10) = 0 := h301 hf309
      replace h302 : (m.1 8) ≤ (m299.1 8) := h302
      replace h303 : (m.1 8) + (m.1 9) ≤ (m299.1 8) := h303 hf309
      have u310 : (m.1 8) + 1 ≤ (m299.1 8) := by omega
      refine T_goto 139 rfl (fun _ => rfl) ?_
      have hA : ar (403 : Int) = 0 := ar_0 (by omega)
      have hAr : ar (403 : Int) ≤ h := by omega
      have hCk : CNk (403 : Int) (pq % 4) := by refine ⟨?_, ?_, ?_, ?_⟩ <;> omega
      refine T_ld 140 (.ref 189) rfl (fun _ => rfl) ?_
      refine T_ld 142 (.int (i32 403)) rfl (fun _ => rfl) ?_
      refine T_ld 144 (.int (i32 ((m.2 49) pq))) rfl (fun _ => rfl) ?_
      refine T_ld 146 (.int (i32 (pq % 4))) rfl (fun _ => rfl) ?_
      refine T_ld 147 (.long (i64 0)) rfl (fun _ => rfl) ?_
      refine T_call 150 248 [.ref 189, .int (i32 403), .int (i32 ((m.2 49) pq)), .int (i32 (pq % 4)), .long (i64 0)] [] rfl (fun _ => rfl) rfl (c_node w (mO m299 [] []) c N D (by omega) Tm299 403 ((m.2 49) pq) (pq % 4) 0 B h ⟨by decide, by decide⟩ (r32 (by omega) (by omega)) (r32 (by omega) (by omega)) ⟨by decide, by decide⟩ (fun _ => ⟨(show 0 ≤ (403 : Int) ∧ (403 : Int) ≤ 408 by first | omega | decide), (show 0 ≤ ((m.2 49) pq) ∧ ((m.2 49) pq) ≤ 64 by first | omega | decide), (show 0 ≤ (pq % 4) ∧ (pq % 4) ≤ 191 by first | omega | decide), (show CNk (403 : Int) (pq % 4) by first | exact hCk | (refine ⟨?_, ?_, ?_, ?_⟩ <;> omega)), (show ar (403 : Int) ≤ h by first | exact hAr | omega), (show EX (m299.2 65) (m299.2 67) B (m299.1 28) h by rewrite [(show (m299.2 65) = (m.2 65) from (fr2 Fm299 65 rfl)), (show (m299.2 67) = (m.2 67) from (fr2 Fm299 67 rfl)), (show (m299.1 28) = (m.1 28) from (fr1 Fm299 28 rfl))]; first | exact hEX | assumption)⟩)) (fun rr311 k312 => ?_)
      obtain ⟨m313, Tm313, Fm313, h314, c315, rfl⟩ := k312
      refine ⟨_, _, rfl, ?_⟩
      refine T_nb (st' := []) rfl ?_
      have g316 : 0 ≤ m313.1 10 ∧ m313.1 10 ≤ 8 := Tm313.1 10
      have g317 : (-1) ≤ m313.1 11 ∧ m313.1 11 ≤ 4000 := Tm313.1 11
      have g318 : 0 ≤ m313.1 28 ∧ m313.1 28 ≤ 800 := Tm313.1 28
      by_cases hf319 : (m313.1 10) = 0
      · skip
        replace h314 : (m299.1 10) = 0 := h314 hf319
        obtain ⟨c320, c321, c322⟩ := c315 hf319
        replace c320 : (m313.1 28) = (m299.1 28) + 1 := c320
        rewrite [(show (m299.1 28) = (m.1 28) from (fr1 Fm299 28 rfl))] at c320
        replace c321 : EX (m313.2 65) (m313.2 67) B (m313.1 28) (h + 1 - ar (403 : Int)) := c321
        have hEX := c321
        replace c322 : agr (m299.2 65) (m313.2 65) (m299.1 28) := c322
        rewrite [(show (m299.2 65) = (m.2 65) from (fr2 Fm299 65 rfl)), (show (m299.1 28) = (m.1 28) from (fr1 Fm299 28 rfl))] at c322
        have hAg := c322
        clear c315
        have u323 : (m.1 8) + 1 ≤ (m299.1 8) := by omega
        clear g307 g308 h300 h314
        refine T_ld 151 (.ref 189) rfl (fun _ => rfl) ?_
        refine T_ld 153 (.int (i32 ((m.2 49) pq))) rfl (fun _ => rfl) ?_
        refine T_ld 154 (.int (i32 p)) rfl (fun _ => rfl) ?_
        refine T_call 157 249 [.ref 189, .int (i32 ((m.2 49) pq)), .int (i32 p)] [] rfl (fun _ => rfl) rfl (c_atom w (mO m313 [] []) c N D (by omega) Tm313 ((m.2 49) pq) p (r32 (by omega) (by omega)) (r32 (by omega) (by omega)) (show 0 ≤ ((m.2 49) pq) ∧ ((m.2 49) pq) ≤ 64 by omega) (show 0 ≤ p ∧ p ≤ 4000 by omega)) (fun rr324 k325 => ?_)
        obtain ⟨m326, Tm326, Fm326, h327, rfl⟩ := k325
        refine ⟨_, _, rfl, ?_⟩
        refine T_nb (st' := []) rfl ?_
        have g328 : 0 ≤ m326.1 69 ∧ m326.1 69 ≤ 1024 := Tm326.1 69
        have g329 : 0 ≤ m326.1 75 ∧ m326.1 75 ≤ 3 := Tm326.1 75
        replace h327 : (m313.1 10) = 0 → (m326.1 75) = 1 ∧ (m326.1 69) = ((m.2 49) pq) := h327
        have u330 : (m.1 8) + 1 ≤ (m299.1 8) := by omega
        refine T_ret rfl (fun _ => rfl) ?_
        exact ⟨(mO m326 [] []), Tm326, (fr_m (fr_s Fm326 (fr_m (fr_s Fm313 (fr_m (fr_s Fm299 (fr_m fr_0 rfl rfl) rfl rfl) rfl rfl) rfl rfl) rfl rfl) rfl rfl) rfl rfl), (show (m326.1 10) = 0 → (m.1 10) = 0 by rewrite [(show (m326.1 10) = (m313.1 10) from (fr1 Fm326 10 rfl))]; omega), (show LxP (m326.1 7) (m326.1 8) (m326.1 9) (m.1 6) (m326.1 10) by rewrite [(show (m326.1 7) = (m299.1 7) from ((fr1 Fm326 7 rfl).trans (fr1 Fm313 7 rfl))), (show (m326.1 8) = (m299.1 8) from ((fr1 Fm326 8 rfl).trans (fr1 Fm313 8 rfl))), (show (m326.1 9) = (m299.1 9) from ((fr1 Fm326 9 rfl).trans (fr1 Fm313 9 rfl))), (show (m326.1 10) = (m313.1 10) from (fr1 Fm326 10 rfl))]; first | (first | exact hLx | exact (fun _ => hLx (by omega)) | (intro h9; exfalso; omega)) | (exfalso; omega)), (fun _ => ⟨(show (m.1 8) + 1 ≤ (m326.1 8) by rewrite [(show (m326.1 8) = (m299.1 8) from ((fr1 Fm326 8 rfl).trans (fr1 Fm313 8 rfl)))]; omega), (show (m326.1 75) = 1 by omega), (show (m326.1 69) ≤ 64 by omega), (show (m326.1 28) = (m.1 28) + 1 by rewrite [(show (m326.1 28) = (m313.1 28) from (fr1 Fm326 28 rfl))]; omega), (show EX (m326.2 65) (m326.2 67) B (m326.1 28) (h + 1) by rewrite [(show (m326.2 65) = (m313.2 65) from (fr2 Fm326 65 rfl)), (show (m326.2 67) = (m313.2 67) from (fr2 Fm326 67 rfl)), (show (m326.1 28) = (m313.1 28) from (fr1 Fm326 28 rfl))]; first | (exact EX_w hEX (by omega)) | (exfalso; omega)), (show agr (m.2 65) (m326.2 65) (m.1 28) by rewrite [(show (m326.2 65) = (m313.2 65) from (fr2 Fm326 65 rfl))]; first | (exact hAg) | (exfalso; omega))⟩), rfl⟩
      · skip
        clear c315
        clear h314
        have hf331 : 1 ≤ (m313.1 10) := by omega
        clear g307 g308 h300
        refine Tm_lv (a := [(0, .ref 189), (1, .int (i32 p)), (2, .int (i32 pq)), (3, .int (i32 so)), (4, .int (i32 ((m.2 49) pq))), (5, .int (i32 403)), (6, .int (i32 (pq % 4)))]) rfl rfl ⟨rfl, rfl, rfl, rfl, rfl, rfl, rfl, trivial⟩ ?_
        exact J150_41 pq so ((m.2 49) pq) 403 (pq % 4) (mO m313 [] []) (r32 (by omega) (by omega)) (r32 (by omega) (by omega)) (r32 (by omega) (by omega)) ⟨by decide, by decide⟩ (r32 (by omega) (by omega)) Tm313 (fr_m (fr_s Fm313 (fr_m (fr_s Fm299 (fr_m fr_0 rfl rfl) rfl rfl) rfl rfl) rfl rfl) rfl rfl) (show (-2147483648) ≤ pq by omega) (show pq ≤ 2147483647 by omega) (show 0 ≤ ((m.2 49) pq) by omega) (show ((m.2 49) pq) ≤ 64 by omega) (show 401 ≤ (403 : Int) by omega) (show (403 : Int) ≤ 403 by omega) (show 1 ≤ (m313.1 10) by omega)
    · skip
      replace h300 : LxP (m299.1 7) (m299.1 8) (m299.1 9) (m.1 6) (m299.1 10) := h300
      have hLx := h300
      clear h301
      replace h302 : (m.1 8) ≤ (m299.1 8) := h302
      clear h303
      have hf332 : 1 ≤ (m299.1 10) := by omega
      refine T_goto 139 rfl (fun _ => rfl) ?_
      refine T_ld 140 (.ref 189) rfl (fun _ => rfl) ?_
      refine T_ld 142 (.int (i32 403)) rfl (fun _ => rfl) ?_
      refine T_ld 144 (.int (i32 ((m.2 49) pq))) rfl (fun _ => rfl) ?_
      refine T_ld 146 (.int (i32 (pq % 4))) rfl (fun _ => rfl) ?_
      refine T_ld 147 (.long (i64 0)) rfl (fun _ => rfl) ?_
      refine T_call 150 248 [.ref 189, .int (i32 403), .int (i32 ((m.2 49) pq)), .int (i32 (pq % 4)), .long (i64 0)] [] rfl (fun _ => rfl) rfl (c_node w (mO m299 [] []) c N D (by omega) Tm299 403 ((m.2 49) pq) (pq % 4) 0 B h ⟨by decide, by decide⟩ (r32 (by omega) (by omega)) (r32 (by omega) (by omega)) ⟨by decide, by decide⟩ (fun (h : (m299.1 10) = 0) => absurd h (by omega))) (fun rr333 k334 => ?_)
      obtain ⟨m335, Tm335, Fm335, h336, c337, rfl⟩ := k334
      refine ⟨_, _, rfl, ?_⟩
      refine T_nb (st' := []) rfl ?_
      have g338 : 0 ≤ m335.1 10 ∧ m335.1 10 ≤ 8 := Tm335.1 10
      have g339 : (-1) ≤ m335.1 11 ∧ m335.1 11 ≤ 4000 := Tm335.1 11
      have g340 : 0 ≤ m335.1 28 ∧ m335.1 28 ≤ 800 := Tm335.1 28
      replace h336 : (m335.1 10) = 0 → (m299.1 10) = 0 := h336
      have hf341 : 1 ≤ (m335.1 10) := by omega
      clear c337
      clear h336
      clear g307 g308 h300 hf332
      refine Tm_lv (a := [(0, .ref 189), (1, .int (i32 p)), (2, .int (i32 pq)), (3, .int (i32 so)), (4, .int (i32 ((m.2 49) pq))), (5, .int (i32 403)), (6, .int (i32 (pq % 4)))]) rfl rfl ⟨rfl, rfl, rfl, rfl, rfl, rfl, rfl, trivial⟩ ?_
      exact J150_41 pq so ((m.2 49) pq) 403 (pq % 4) (mO m335 [] []) (r32 (by omega) (by omega)) (r32 (by omega) (by omega)) (r32 (by omega) (by omega)) ⟨by decide, by decide⟩ (r32 (by omega) (by omega)) Tm335 (fr_m (fr_s Fm335 (fr_m (fr_s Fm299 (fr_m fr_0 rfl rfl) rfl rfl) rfl rfl) rfl rfl) rfl rfl) (show (-2147483648) ≤ pq by omega) (show pq ≤ 2147483647 by omega) (show 0 ≤ ((m.2 49) pq) by omega) (show ((m.2 49) pq) ≤ 64 by omega) (show 401 ≤ (403 : Int) by omega) (show (403 : Int) ≤ 403 by omega) (show 1 ≤ (m335.1 10) by omega)
def fF_wantUnit : List Nat := [7, 8, 9, 10, 11, 12, 28, 69, 70, 71, 72, 73, 74, 75]
def fA_wantUnit : List Nat := [65, 66, 67, 68, 76, 77, 78, 79, 80]
def Q_wantUnit (m : mR) (c : Nat → Option am_C) (N : Nat) (B : Int) : ag_Re af_T → Prop := fun R => ∃ (M : mR), Ty M ∧ fr fF_wantUnit fA_wantUnit m M ∧ ((M.1 10) = 0 → (m.1 10) = 0) ∧ (LxP (M.1 7) (M.1 8) (M.1 9) (m.1 6) (M.1 10)) ∧ (M.1 10 = 0 → ((m.1 8) + 1 ≤ (M.1 8)) ∧ ((M.1 75) = 0 ∨ ((M.1 75) = 1 ∧ (M.1 69) ≤ 64)) ∧ (1 ≤ (M.1 73)) ∧ ((m.1 28) ≤ (M.1 28)) ∧ (XS (M.2 65) (M.2 67) (M.2 76) (M.2 78) (M.2 79) (M.2 80) B (M.1 28) (M.1 73) (M.1 74) (um (M.1 75))) ∧ (agr (m.2 65) (M.2 65) (m.1 28))) ∧ R = (.inl (none), (mhp M c, N), 0, 0)
set_option maxHeartbeats 3000000 in
theorem c_wantUnit (w : wX) (m : mR) (c : Nat → Option am_C) (N D : Nat) (hD : 8 ≤ D) (hT : Ty m) (B : Int) (hLx0 : LxP (m.1 7) (m.1 8) (m.1 9) (m.1 6) (m.1 10)) (hNM0 : ∀ k, (m.2 14) k + (m.2 15) k ≤ 4000) (hFA0 : ∀ k, (m.2 31) k + (m.2 32) k ≤ 4000) (hPA0 : ∀ k, (m.2 47) k + (m.2 48) k ≤ 4000) (hf0 : m.1 10 = 0) (hC : (PN (m.1 13) (m.1 19) (m.1 20) (m.1 21) (m.1 22) (m.1 23) (m.1 25) (m.1 26) (m.2 16) (m.2 17)) ∧ (XS (m.2 65) (m.2 67) (m.2 76) (m.2 78) (m.2 79) (m.2 80) B (m.1 28) (m.1 73) (m.1 74) 0) ∧ (1 ≤ (m.1 73)) ∧ ((m.1 75) = 0)) : TC w D 247 [.ref 189] (mhp m c, N) (Q_wantUnit m c N B) := by
  obtain ⟨D, rfl⟩ : ∃ k, D = k + 1 := ⟨D - 1, by omega⟩
  have hLx := hLx0
  have hNM := hNM0
  have hFA := hFA0
  have hPA := hPA0
  have f7 : 0 ≤ m.1 7 ∧ m.1 7 ≤ 330 := hT.1 7
  have f8 : 0 ≤ m.1 8 ∧ m.1 8 ≤ 4000 := hT.1 8
  have f9 : 0 ≤ m.1 9 ∧ m.1 9 ≤ 4000 := hT.1 9
  have f10 : 0 ≤ m.1 10 ∧ m.1 10 ≤ 8 := hT.1 10
  have f11 : (-1) ≤ m.1 11 ∧ m.1 11 ≤ 4000 := hT.1 11
  have f12 : (-9223372036854775808) ≤ m.1 12 ∧ m.1 12 ≤ 9223372036854775807 := hT.1 12
  have f28 : 0 ≤ m.1 28 ∧ m.1 28 ≤ 800 := hT.1 28
  have f69 : 0 ≤ m.1 69 ∧ m.1 69 ≤ 1024 := hT.1 69
  have f73 : 0 ≤ m.1 73 ∧ m.1 73 ≤ 60 := hT.1 73
  have f74 : 0 ≤ m.1 74 ∧ m.1 74 ≤ 24 := hT.1 74
  have f75 : 0 ≤ m.1 75 ∧ m.1 75 ≤ 3 := hT.1 75
  have f25 : 0 ≤ m.1 25 ∧ m.1 25 ≤ 16 := hT.1 25
  have f22 : 0 ≤ m.1 22 ∧ m.1 22 ≤ 8 := hT.1 22
  have f19 : 0 ≤ m.1 19 ∧ m.1 19 ≤ 12 := hT.1 19
  have f20 : 0 ≤ m.1 20 ∧ m.1 20 ≤ 12 := hT.1 20
  have f21 : 0 ≤ m.1 21 ∧ m.1 21 ≤ 16 := hT.1 21
  have f13 : 0 ≤ m.1 13 ∧ m.1 13 ≤ 120 := hT.1 13
  have f6 : 0 ≤ m.1 6 ∧ m.1 6 ≤ 4000 := hT.1 6
  have f23 : 0 ≤ m.1 23 ∧ m.1 23 ≤ 16 := hT.1 23
  have f26 : 0 ≤ m.1 26 ∧ m.1 26 ≤ 8 := hT.1 26
  refine Tc_of rfl ?_
  show TT w D pm_247 (0, [(0, .ref 189)], [], (mhp (mO m [] []) c, N), 0, 0) (Q_wantUnit m c N B)
  obtain ⟨pPN, hXS, c1, c2⟩ := hC
  have h7 := hLx (by omega)
  have hb := OS_hi hXS.1.2
  have hEX := hXS.1.1
  have hl0 : 0 ≤ lh (m.2 79) (m.2 80) (m.1 73) := lh_0 (hT.2.1 79) _ _
  have hAgC := agr_r (m.2 65) (m.1 28)
  have J212_17 : ∀ (m16 : mR), Ty m16 → fr [7, 8, 9, 10, 11, 12, 73, 74, 75] [76, 77, 78, 79, 80] (mO m [] []) m16 → (0 ≤ (m.1 8) ∧ (m.1 8) ≤ 4000) → (1 ≤ (m16.1 10)) → TT w D pm_247 (212, [(0, .ref 189), (1, .int (i32 (m.1 8)))], [], (mhp (mO m16 [] []) c, N), 0, 0) (Q_wantUnit m c N B) := by
    intro m16 Tm16 Fm16 ic18 ic19
    have q20_7 : 0 ≤ m16.1 7 ∧ m16.1 7 ≤ 330 := Tm16.1 7
    have q20_8 : 0 ≤ m16.1 8 ∧ m16.1 8 ≤ 4000 := Tm16.1 8
    have q20_9 : 0 ≤ m16.1 9 ∧ m16.1 9 ≤ 4000 := Tm16.1 9
    have q20_10 : 0 ≤ m16.1 10 ∧ m16.1 10 ≤ 8 := Tm16.1 10
    have q20_11 : (-1) ≤ m16.1 11 ∧ m16.1 11 ≤ 4000 := Tm16.1 11
    have q20_12 : (-9223372036854775808) ≤ m16.1 12 ∧ m16.1 12 ≤ 9223372036854775807 := Tm16.1 12
    have q20_73 : 0 ≤ m16.1 73 ∧ m16.1 73 ≤ 60 := Tm16.1 73
    have q20_74 : 0 ≤ m16.1 74 ∧ m16.1 74 ≤ 24 := Tm16.1 74
    have q20_75 : 0 ≤ m16.1 75 ∧ m16.1 75 ≤ 3 := Tm16.1 75
    refine T_goto 219 rfl (fun _ => rfl) ?_
    refine T_ret rfl (fun _ => rfl) ?_
    exact ⟨(mO m16 [] []), Tm16, (fr_m (fr_s Fm16 (fr_m fr_0 rfl rfl) rfl rfl) rfl rfl), (show (m16.1 10) = 0 → (m.1 10) = 0 by omega), (show LxP (m16.1 7) (m16.1 8) (m16.1 9) (m.1 6) (m16.1 10) by first | (first | exact hLx | exact (fun _ => hLx (by omega)) | (intro h9; exfalso; omega)) | (exfalso; omega)), (fun (h : (m16.1 10) = 0) => absurd h (by omega)), rfl⟩
  have J179_25 : ∀ (v23 : Int) (m24 : mR), (R32 v23) → Ty m24 → fr [7, 8, 9, 10, 11, 12, 28] [65, 66, 67, 68] (mO m [] []) m24 → (0 ≤ v23) → (v23 ≤ 11) → (0 ≤ (m.1 8) ∧ (m.1 8) ≤ 4000) → (1 ≤ (m24.1 10)) → TT w D pm_247 (179, [(0, .ref 189), (1, .int (i32 (m.1 8))), (2, .int (i32 v23))], [], (mhp (mO m24 [] []) c, N), 0, 0) (Q_wantUnit m c N B) := by
    intro v23 m24 q30 Tm24 Fm24 ic26 ic27 ic28 ic29
    obtain ⟨q30a, q30b⟩ := id q30
    have q31_7 : 0 ≤ m24.1 7 ∧ m24.1 7 ≤ 330 := Tm24.1 7
    have q31_8 : 0 ≤ m24.1 8 ∧ m24.1 8 ≤ 4000 := Tm24.1 8
    have q31_9 : 0 ≤ m24.1 9 ∧ m24.1 9 ≤ 4000 := Tm24.1 9
    have q31_10 : 0 ≤ m24.1 10 ∧ m24.1 10 ≤ 8 := Tm24.1 10
    have q31_11 : (-1) ≤ m24.1 11 ∧ m24.1 11 ≤ 4000 := Tm24.1 11
    have q31_12 : (-9223372036854775808) ≤ m24.1 12 ∧ m24.1 12 ≤ 9223372036854775807 := Tm24.1 12
    have q31_28 : 0 ≤ m24.1 28 ∧ m24.1 28 ≤ 800 := Tm24.1 28
    refine T_ld 180 (.ref 189) rfl (fun _ => rfl) ?_
    refine T_ld 181 (.int (i32 1)) rfl (fun _ => rfl) ?_
    refine T_ld 182 (.int (i32 (m.1 8))) rfl (fun _ => rfl) ?_
    refine T_call 185 249 [.ref 189, .int (i32 1), .int (i32 (m.1 8))] [] rfl (fun _ => rfl) rfl (c_atom w (mO m24 [] []) c N D (by omega) Tm24 1 (m.1 8) ⟨by decide, by decide⟩ (r32 (by omega) (by omega)) (show 0 ≤ (1 : Int) ∧ (1 : Int) ≤ 64 by omega) (show 0 ≤ (m.1 8) ∧ (m.1 8) ≤ 4000 by omega)) (fun rr34 k35 => ?_)
    obtain ⟨m36, Tm36, Fm36, h37, rfl⟩ := k35
    refine ⟨_, _, rfl, ?_⟩
    refine T_nb (st' := []) rfl ?_
    have g38 : 0 ≤ m36.1 69 ∧ m36.1 69 ≤ 1024 := Tm36.1 69
    have g39 : 0 ≤ m36.1 75 ∧ m36.1 75 ≤ 3 := Tm36.1 75
    replace h37 : (m24.1 10) = 0 → (m36.1 75) = 1 ∧ (m36.1 69) = (1 : Int) := h37
    refine T_goto 219 rfl (fun _ => rfl) ?_
    refine T_ret rfl (fun _ => rfl) ?_
    exact ⟨(mO m36 [] []), Tm36, (fr_m (fr_s Fm36 (fr_m (fr_s Fm24 (fr_m fr_0 rfl rfl) rfl rfl) rfl rfl) rfl rfl) rfl rfl), (show (m36.1 10) = 0 → (m.1 10) = 0 by rewrite [(show (m36.1 10) = (m24.1 10) from (fr1 Fm36 10 rfl))]; omega), (show LxP (m36.1 7) (m36.1 8) (m36.1 9) (m.1 6) (m36.1 10) by rewrite [(show (m36.1 7) = (m24.1 7) from (fr1 Fm36 7 rfl)), (show (m36.1 8) = (m24.1 8) from (fr1 Fm36 8 rfl)), (show (m36.1 9) = (m24.1 9) from (fr1 Fm36 9 rfl)), (show (m36.1 10) = (m24.1 10) from (fr1 Fm36 10 rfl))]; first | (first | exact hLx | exact (fun _ => hLx (by omega)) | (intro h9; exfalso; omega)) | (exfalso; omega)), (fun (h : (m36.1 10) = 0) => absurd ((show (m36.1 10) = (m24.1 10) from (fr1 Fm36 10 rfl)).symm.trans h) (by omega)), rfl⟩
  have J168_42 : ∀ (s40 : Int) (m41 : mR), (R32 s40) → Ty m41 → fr [7, 8, 9, 10, 11, 12] [] (mO m [] []) m41 → (0 ≤ s40) → (s40 ≤ 11) → (0 ≤ (m.1 8) ∧ (m.1 8) ≤ 4000) → (1 ≤ (m41.1 10)) → TT w D pm_247 (168, [(0, .ref 189), (1, .int (i32 (m.1 8)))], [.int (i32 s40)], (mhp (mO m41 [] []) c, N), 0, 0) (Q_wantUnit m c N B) := by
    intro s40 m41 q47 Tm41 Fm41 ic43 ic44 ic45 ic46
    obtain ⟨q47a, q47b⟩ := id q47
    have q48_7 : 0 ≤ m41.1 7 ∧ m41.1 7 ≤ 330 := Tm41.1 7
    have q48_8 : 0 ≤ m41.1 8 ∧ m41.1 8 ≤ 4000 := Tm41.1 8
    have q48_9 : 0 ≤ m41.1 9 ∧ m41.1 9 ≤ 4000 := Tm41.1 9
    have q48_10 : 0 ≤ m41.1 10 ∧ m41.1 10 ≤ 8 := Tm41.1 10
    have q48_11 : (-1) ≤ m41.1 11 ∧ m41.1 11 ≤ 4000 := Tm41.1 11
    have q48_12 : (-9223372036854775808) ≤ m41.1 12 ∧ m41.1 12 ≤ 9223372036854775807 := Tm41.1 12
    refine T_sto 169 [(2, .int (i32 s40)), (0, .ref 189), (1, .int (i32 (m.1 8)))] rfl (fun _ => rfl) ?_
    refine T_ld 170 (.ref 189) rfl (fun _ => rfl) ?_
    refine T_ld 173 (.int (i32 404)) rfl (fun _ => rfl) ?_
    refine T_ld 174 (.int (i32 1)) rfl (fun _ => rfl) ?_
    refine T_ld 175 (.int (i32 s40)) rfl (fun _ => rfl) ?_
    refine T_ld 176 (.long (i64 0)) rfl (fun _ => rfl) ?_
    refine T_call 179 248 [.ref 189, .int (i32 404), .int (i32 1), .int (i32 s40), .long (i64 0)] [] rfl (fun _ => rfl) rfl (c_node w (mO m41 [] []) c N D (by omega) Tm41 404 1 s40 0 B (0 + lh (m.2 79) (m.2 80) (m.1 73)) ⟨by decide, by decide⟩ ⟨by decide, by decide⟩ (r32 (by omega) (by omega)) ⟨by decide, by decide⟩ (fun (h : (m41.1 10) = 0) => absurd h (by omega))) (fun rr51 k52 => ?_)
    obtain ⟨m53, Tm53, Fm53, h54, c55, rfl⟩ := k52
    refine ⟨_, _, rfl, ?_⟩
    refine T_nb (st' := []) rfl ?_
    have g56 : 0 ≤ m53.1 10 ∧ m53.1 10 ≤ 8 := Tm53.1 10
    have g57 : (-1) ≤ m53.1 11 ∧ m53.1 11 ≤ 4000 := Tm53.1 11
    have g58 : 0 ≤ m53.1 28 ∧ m53.1 28 ≤ 800 := Tm53.1 28
    replace h54 : (m53.1 10) = 0 → (m41.1 10) = 0 := h54
    have hf59 : 1 ≤ (m53.1 10) := by omega
    clear c55
    clear h54
    clear q48_10 q48_11 ic46
    refine Tm_lv (a := [(0, .ref 189), (1, .int (i32 (m.1 8))), (2, .int (i32 s40))]) rfl rfl ⟨rfl, rfl, rfl, trivial⟩ ?_
    exact J179_25 s40 (mO m53 [] []) (r32 (by omega) (by omega)) Tm53 (fr_m (fr_s Fm53 (fr_m (fr_s Fm41 (fr_m fr_0 rfl rfl) rfl rfl) rfl rfl) rfl rfl) rfl rfl) (show 0 ≤ s40 by omega) (show s40 ≤ 11 by omega) (show 0 ≤ (m.1 8) ∧ (m.1 8) ≤ 4000 by omega) (show 1 ≤ (m53.1 10) by omega)
  have J113_61 : ∀ (m60 : mR), Ty m60 → fr [7, 8, 9, 10, 11, 12, 28] [65, 66, 67, 68] (mO m [] []) m60 → (0 ≤ (m.1 8) ∧ (m.1 8) ≤ 4000) → (1 ≤ (m60.1 10)) → TT w D pm_247 (113, [(0, .ref 189), (1, .int (i32 (m.1 8))), (2, .long (i64 (m.1 12)))], [], (mhp (mO m60 [] []) c, N), 0, 0) (Q_wantUnit m c N B) := by
    intro m60 Tm60 Fm60 ic62 ic63
    have q64_7 : 0 ≤ m60.1 7 ∧ m60.1 7 ≤ 330 := Tm60.1 7
    have q64_8 : 0 ≤ m60.1 8 ∧ m60.1 8 ≤ 4000 := Tm60.1 8
    have q64_9 : 0 ≤ m60.1 9 ∧ m60.1 9 ≤ 4000 := Tm60.1 9
    have q64_10 : 0 ≤ m60.1 10 ∧ m60.1 10 ≤ 8 := Tm60.1 10
    have q64_11 : (-1) ≤ m60.1 11 ∧ m60.1 11 ≤ 4000 := Tm60.1 11
    have q64_12 : (-9223372036854775808) ≤ m60.1 12 ∧ m60.1 12 ≤ 9223372036854775807 := Tm60.1 12
    have q64_28 : 0 ≤ m60.1 28 ∧ m60.1 28 ≤ 800 := Tm60.1 28
    refine T_ld 114 (.ref 189) rfl (fun _ => rfl) ?_
    refine T_ld 116 (.int (i32 64)) rfl (fun _ => rfl) ?_
    refine T_ld 117 (.int (i32 (m.1 8))) rfl (fun _ => rfl) ?_
    refine T_call 120 249 [.ref 189, .int (i32 64), .int (i32 (m.1 8))] [] rfl (fun _ => rfl) rfl (c_atom w (mO m60 [] []) c N D (by omega) Tm60 64 (m.1 8) ⟨by decide, by decide⟩ (r32 (by omega) (by omega)) (show 0 ≤ (64 : Int) ∧ (64 : Int) ≤ 64 by omega) (show 0 ≤ (m.1 8) ∧ (m.1 8) ≤ 4000 by omega)) (fun rr67 k68 => ?_)
    obtain ⟨m69, Tm69, Fm69, h70, rfl⟩ := k68
    refine ⟨_, _, rfl, ?_⟩
    refine T_nb (st' := []) rfl ?_
    have g71 : 0 ≤ m69.1 69 ∧ m69.1 69 ≤ 1024 := Tm69.1 69
    have g72 : 0 ≤ m69.1 75 ∧ m69.1 75 ≤ 3 := Tm69.1 75
    replace h70 : (m60.1 10) = 0 → (m69.1 75) = 1 ∧ (m69.1 69) = (64 : Int) := h70
    refine T_ld 121 (.ref 189) rfl (fun _ => rfl) ?_
    refine T_ld 122 (.int (i32 1)) rfl (fun _ => rfl) ?_
    refine T_pf (l' := [(71, 1)]) 125 1 rfl rfl rfl rfl rfl rfl ?_
    refine T_ld 126 (.ref 189) rfl (fun _ => rfl) ?_
    refine T_ld 127 (.long (i64 (m.1 12))) rfl (fun _ => rfl) ?_
    refine T_pf (l' := [(71, 1), (72, (m.1 12))]) 130 (m.1 12) rfl rfl rfl rfl rfl rfl ?_
    have g73 : (-9223372036854775808) ≤ (m.1 12) ∧ (m.1 12) ≤ 9223372036854775807 := ⟨by omega, by omega⟩
    refine T_goto 219 rfl (fun _ => rfl) ?_
    refine T_ret rfl (fun _ => rfl) ?_
    exact ⟨(mO m69 [(71, 1), (72, (m.1 12))] []), (Ty_mO Tm69 rfl rfl ⟨⟨(by omega : (0 : Int) ≤ 1), (by omega : (1 : Int) ≤ 1)⟩, g73, trivial⟩ trivial), (fr_m (fr_s Fm69 (fr_m (fr_s Fm60 (fr_m fr_0 rfl rfl) rfl rfl) rfl rfl) rfl rfl) rfl rfl), (show (m69.1 10) = 0 → (m.1 10) = 0 by rewrite [(show (m69.1 10) = (m60.1 10) from (fr1 Fm69 10 rfl))]; omega), (show LxP (m69.1 7) (m69.1 8) (m69.1 9) (m.1 6) (m69.1 10) by rewrite [(show (m69.1 7) = (m60.1 7) from (fr1 Fm69 7 rfl)), (show (m69.1 8) = (m60.1 8) from (fr1 Fm69 8 rfl)), (show (m69.1 9) = (m60.1 9) from (fr1 Fm69 9 rfl)), (show (m69.1 10) = (m60.1 10) from (fr1 Fm69 10 rfl))]; first | (first | exact hLx | exact (fun _ => hLx (by omega)) | (intro h9; exfalso; omega)) | (exfalso; omega)), (fun (h : (m69.1 10) = 0) => absurd ((show (m69.1 10) = (m60.1 10) from (fr1 Fm69 10 rfl)).symm.trans h) (by omega)), rfl⟩
  have J82_75 : ∀ (m74 : mR), Ty m74 → fr [7, 8, 9, 10, 11, 12, 73, 74] [76, 77, 78, 79, 80] (mO m [] []) m74 → (0 ≤ (m.1 8) ∧ (m.1 8) ≤ 4000) → (1 ≤ (m74.1 10)) → TT w D pm_247 (82, [(0, .ref 189), (1, .int (i32 (m.1 8)))], [], (mhp (mO m74 [] []) c, N), 0, 0) (Q_wantUnit m c N B) := by
    intro m74 Tm74 Fm74 ic76 ic77
    have q78_7 : 0 ≤ m74.1 7 ∧ m74.1 7 ≤ 330 := Tm74.1 7
    have q78_8 : 0 ≤ m74.1 8 ∧ m74.1 8 ≤ 4000 := Tm74.1 8
    have q78_9 : 0 ≤ m74.1 9 ∧ m74.1 9 ≤ 4000 := Tm74.1 9
    have q78_10 : 0 ≤ m74.1 10 ∧ m74.1 10 ≤ 8 := Tm74.1 10
    have q78_11 : (-1) ≤ m74.1 11 ∧ m74.1 11 ≤ 4000 := Tm74.1 11
    have q78_12 : (-9223372036854775808) ≤ m74.1 12 ∧ m74.1 12 ≤ 9223372036854775807 := Tm74.1 12
    have q78_73 : 0 ≤ m74.1 73 ∧ m74.1 73 ≤ 60 := Tm74.1 73
    have q78_74 : 0 ≤ m74.1 74 ∧ m74.1 74 ≤ 24 := Tm74.1 74
    refine T_goto 219 rfl (fun _ => rfl) ?_
    refine T_ret rfl (fun _ => rfl) ?_
    exact ⟨(mO m74 [] []), Tm74, (fr_m (fr_s Fm74 (fr_m fr_0 rfl rfl) rfl rfl) rfl rfl), (show (m74.1 10) = 0 → (m.1 10) = 0 by omega), (show LxP (m74.1 7) (m74.1 8) (m74.1 9) (m.1 6) (m74.1 10) by first | (first | exact hLx | exact (fun _ => hLx (by omega)) | (intro h9; exfalso; omega)) | (exfalso; omega)), (fun (h : (m74.1 10) = 0) => absurd h (by omega)), rfl⟩
  have J50_82 : ∀ (m81 : mR), Ty m81 → fr [10, 11] [] (mO m [] []) m81 → (0 ≤ (m.1 8) ∧ (m.1 8) ≤ 4000) → (1 ≤ (m81.1 10)) → TT w D pm_247 (50, [(0, .ref 189), (1, .int (i32 (m.1 8)))], [], (mhp (mO m81 [] []) c, N), 0, 0) (Q_wantUnit m c N B) := by
    intro m81 Tm81 Fm81 ic83 ic84
    have q85_10 : 0 ≤ m81.1 10 ∧ m81.1 10 ≤ 8 := Tm81.1 10
    have q85_11 : (-1) ≤ m81.1 11 ∧ m81.1 11 ≤ 4000 := Tm81.1 11
    refine T_gf 54 (.int (i32 (m81.1 10))) rfl rfl rfl rfl rfl rfl ?_
    refine T_if 58 57 rfl rfl rfl (r32 (by omega) (by omega)) (fun (h88 : (m81.1 10) ≤ 0) => by exfalso; omega) (fun (h88 : ¬ ((m81.1 10) ≤ 0)) => ?_)
    refine T_ret rfl (fun _ => rfl) ?_
    exact ⟨(mO m81 [] []), Tm81, (fr_m (fr_s Fm81 (fr_m fr_0 rfl rfl) rfl rfl) rfl rfl), (show (m81.1 10) = 0 → (m.1 10) = 0 by omega), (show LxP (m81.1 7) (m81.1 8) (m81.1 9) (m.1 6) (m81.1 10) by rewrite [(show (m81.1 7) = (m.1 7) from (fr1 Fm81 7 rfl)), (show (m81.1 8) = (m.1 8) from (fr1 Fm81 8 rfl)), (show (m81.1 9) = (m.1 9) from (fr1 Fm81 9 rfl))]; first | (first | exact hLx | exact (fun _ => hLx (by omega)) | (intro h9; exfalso; omega)) | (exfalso; omega)), (fun (h : (m81.1 10) = 0) => absurd h (by omega)), rfl⟩
  refine T_gf 4 (.int (i32 (m.1 8))) rfl rfl rfl rfl rfl rfl ?_
  refine T_sto 5 [(1, .int (i32 (m.1 8))), (0, .ref 189)] rfl (fun _ => rfl) ?_
  refine T_gf 9 (.int (i32 (m.1 7))) rfl rfl rfl rfl rfl rfl ?_
  refine T_ld 11 (.int (i32 126)) rfl (fun _ => rfl) ?_
  refine T_icmp 32 14 rfl rfl rfl (r32 (by omega) (by omega)) ⟨by decide, by decide⟩ (fun (h89 : (m.1 7) = 126) => ?_) (fun (h89 : ¬ ((m.1 7) = 126)) => ?_)
  · skip
    refine T_gf 36 (.int (i32 (m.1 74))) rfl rfl rfl rfl rfl rfl ?_
    refine T_ld 38 (.int (i32 24)) rfl (fun _ => rfl) ?_
    refine T_icmp 50 41 rfl rfl rfl (r32 (by omega) (by omega)) ⟨by decide, by decide⟩ (fun (h90 : (m.1 74) ≠ 24) => ?_) (fun (h90 : ¬ ((m.1 74) ≠ 24)) => ?_)
    · skip
      refine T_gf 54 (.int (i32 (m.1 10))) rfl rfl rfl rfl rfl rfl ?_
      refine T_if 58 57 rfl rfl rfl (r32 (by omega) (by omega)) (fun (h91 : (m.1 10) ≤ 0) => ?_) (fun (h91 : ¬ ((m.1 10) ≤ 0)) => by exfalso; omega)
      refine T_ld 59 (.ref 189) rfl (fun _ => rfl) ?_
      refine T_ld 60 (.ref 189) rfl (fun _ => rfl) ?_
      refine T_gf1 63 (.int (i32 (m.1 74))) rfl rfl rfl rfl ?_
      refine T_ld 64 (.int (i32 1)) rfl (fun _ => rfl) ?_
      refine T_iadd 65 rfl rfl ?_
      refine T_pf (l' := [(74, (m.1 74) + 1)]) 68 ((m.1 74) + 1) rfl rfl rfl rfl rfl rfl ?_
      have g92 : 0 ≤ (m.1 74) + 1 ∧ (m.1 74) + 1 ≤ 24 := ⟨by omega, by omega⟩
      refine T_ld 69 (.ref 189) rfl (fun _ => rfl) ?_
      refine T_ld 70 (.int (i32 1)) rfl (fun _ => rfl) ?_
      refine T_ld 71 (.int (i32 (m.1 8))) rfl (fun _ => rfl) ?_
      refine T_gf 75 (.int (i32 (m.1 7))) rfl rfl rfl rfl rfl rfl ?_
      refine T_call 78 246 [.ref 189, .int (i32 1), .int (i32 (m.1 8)), .int (i32 (m.1 7))] [] rfl (fun _ => rfl) rfl (c_open w (mO m [(74, (m.1 74) + 1)] []) c N D (by omega) (Ty_mO hT rfl rfl ⟨g92, trivial⟩ trivial) 1 (m.1 8) (m.1 7) ⟨by decide, by decide⟩ (r32 (by omega) (by omega)) (r32 (by omega) (by omega)) (show (m.1 73) ≤ 59 by omega) (show 0 ≤ (1 : Int) ∧ (1 : Int) ≤ 2 by omega) (show 0 ≤ (m.1 8) ∧ (m.1 8) ≤ 4000 by omega) (show 0 ≤ (m.1 7) ∧ (m.1 7) ≤ 330 by omega)) (fun rr93 k94 => ?_)
      obtain ⟨m95, Tm95, Fm95, h96, h97, h98, h99, h100, h101, rfl⟩ := k94
      refine ⟨_, _, rfl, ?_⟩
      refine T_nb (st' := []) rfl ?_
      have g102 : 0 ≤ m95.1 73 ∧ m95.1 73 ≤ 60 := Tm95.1 73
      replace h96 : (m95.1 73) = (m.1 73) + 1 := h96
      have hO0 := h96
      replace h97 : (m95.2 76) = upI (m.2 76) (m.1 73) (1 : Int) := h97
      have hO1 := h97
      replace h98 : (m95.2 78) = upI (m.2 78) (m.1 73) (m.1 7) := h98
      have hO2 := h98
      replace h99 : (m95.2 79) = upI (m.2 79) (m.1 73) 0 := h99
      have hO3 := h99
      replace h100 : ∀ j, j < 9 * (m.1 73) → (m95.2 80) j = (m.2 80) j := h100
      have hW1 := h100
      replace h101 : ∀ j, 9 * (m.1 73) ≤ j → j < 9 * (m.1 73) + 9 → (m95.2 80) j = -1 := h101
      have hW2 := h101
      have u103 : (m.1 8) ≤ (m.1 8) := by omega
      have hAgC : agr (m.2 65) (m.2 65) (m.1 28) := by first | exact agr_r _ _ | exact hAgC | exact agr_t hAgC hAg (by omega)
      have u104 : 1 ≤ (m95.1 73) := by omega
      refine T_ld 79 (.ref 189) rfl (fun _ => rfl) ?_
      refine T_call 82 212 [.ref 189] [] rfl (fun _ => rfl) rfl (d_next w (mO m95 [] []) c N D (by omega) Tm95 (show (m95.1 10) = 0 → (m95.1 8) + (m95.1 9) ≤ (m95.1 6) by rewrite [(show (m95.1 10) = (m.1 10) from (fr1 Fm95 10 rfl)), (show (m95.1 8) = (m.1 8) from (fr1 Fm95 8 rfl)), (show (m95.1 9) = (m.1 9) from (fr1 Fm95 9 rfl)), (show (m95.1 6) = (m.1 6) from (fr1 Fm95 6 rfl))]; first | omega | (intro h9; have h8 := hLx h9; omega))) (fun rr105 k106 => ?_)
      obtain ⟨m107, Tm107, Fm107, h108, h109, h110, h111, rfl⟩ := k106
      refine ⟨_, _, rfl, ?_⟩
      refine T_nb (st' := []) rfl ?_
      have g112 : 0 ≤ m107.1 7 ∧ m107.1 7 ≤ 330 := Tm107.1 7
      have g113 : 0 ≤ m107.1 8 ∧ m107.1 8 ≤ 4000 := Tm107.1 8
      have g114 : 0 ≤ m107.1 9 ∧ m107.1 9 ≤ 4000 := Tm107.1 9
      have g115 : 0 ≤ m107.1 10 ∧ m107.1 10 ≤ 8 := Tm107.1 10
      have g116 : (-1) ≤ m107.1 11 ∧ m107.1 11 ≤ 4000 := Tm107.1 11
      have g117 : (-9223372036854775808) ≤ m107.1 12 ∧ m107.1 12 ≤ 9223372036854775807 := Tm107.1 12
      by_cases hf118 : (m107.1 10) = 0
      · skip
        replace h108 : LxP (m107.1 7) (m107.1 8) (m107.1 9) (m95.1 6) (m107.1 10) := h108
        rewrite [(show (m95.1 6) = (m.1 6) from (fr1 Fm95 6 rfl))] at h108
        have hLx := h108
        replace h109 : (m95.1 10) = 0 := h109 hf118
        rewrite [(show (m95.1 10) = (m.1 10) from (fr1 Fm95 10 rfl))] at h109
        replace h110 : (m95.1 8) ≤ (m107.1 8) := h110
        rewrite [(show (m95.1 8) = (m.1 8) from (fr1 Fm95 8 rfl))] at h110
        replace h111 : (m95.1 8) + (m95.1 9) ≤ (m107.1 8) := h111 hf118
        rewrite [(show (m95.1 8) = (m.1 8) from (fr1 Fm95 8 rfl)), (show (m95.1 9) = (m.1 9) from (fr1 Fm95 9 rfl))] at h111
        have u119 : (m.1 8) + 1 ≤ (m107.1 8) := by omega
        have hAgC : agr (m.2 65) (m.2 65) (m.1 28) := by first | exact agr_r _ _ | exact hAgC | exact agr_t hAgC hAg (by omega)
        have u120 : 1 ≤ (m95.1 73) := by omega
        have hXE : XS (m.2 65) (m.2 67) (m95.2 76) (m95.2 78) (m95.2 79) (m95.2 80) B (m.1 28) (m95.1 73) ((m.1 74) + 1) (um (m.1 75)) := by
          rw [hO0, hO1, hO2, hO3, show um (m.1 75) = 0 from if_pos (by omega)]
          exact XS_pre hXS (by omega) (by omega) hW1 hW2
        refine T_goto 219 rfl (fun _ => rfl) ?_
        refine T_ret rfl (fun _ => rfl) ?_
        exact ⟨(mO m107 [] []), Tm107, (fr_m (fr_s Fm107 (fr_m (fr_s Fm95 (fr_m fr_0 rfl rfl) rfl rfl) rfl rfl) rfl rfl) rfl rfl), (show (m107.1 10) = 0 → (m.1 10) = 0 by omega), (show LxP (m107.1 7) (m107.1 8) (m107.1 9) (m.1 6) (m107.1 10) by first | (first | exact hLx | exact (fun _ => hLx (by omega)) | (intro h9; exfalso; omega)) | (exfalso; omega)), (fun _ => ⟨(show (m.1 8) + 1 ≤ (m107.1 8) by omega), (show (m107.1 75) = 0 ∨ ((m107.1 75) = 1 ∧ (m107.1 69) ≤ 64) by rewrite [(show (m107.1 75) = (m.1 75) from ((fr1 Fm107 75 rfl).trans (fr1 Fm95 75 rfl))), (show (m107.1 69) = (m.1 69) from ((fr1 Fm107 69 rfl).trans (fr1 Fm95 69 rfl)))]; omega), (show 1 ≤ (m107.1 73) by rewrite [(show (m107.1 73) = (m95.1 73) from (fr1 Fm107 73 rfl))]; omega), (show (m.1 28) ≤ (m107.1 28) by rewrite [(show (m107.1 28) = (m.1 28) from ((fr1 Fm107 28 rfl).trans (fr1 Fm95 28 rfl)))]; omega), (show XS (m107.2 65) (m107.2 67) (m107.2 76) (m107.2 78) (m107.2 79) (m107.2 80) B (m107.1 28) (m107.1 73) (m107.1 74) (um (m107.1 75)) by rewrite [(show (m107.2 65) = (m.2 65) from ((fr2 Fm107 65 rfl).trans (fr2 Fm95 65 rfl))), (show (m107.2 67) = (m.2 67) from ((fr2 Fm107 67 rfl).trans (fr2 Fm95 67 rfl))), (show (m107.2 76) = (m95.2 76) from (fr2 Fm107 76 rfl)), (show (m107.2 78) = (m95.2 78) from (fr2 Fm107 78 rfl)), (show (m107.2 79) = (m95.2 79) from (fr2 Fm107 79 rfl)), (show (m107.2 80) = (m95.2 80) from (fr2 Fm107 80 rfl)), (show (m107.1 28) = (m.1 28) from ((fr1 Fm107 28 rfl).trans (fr1 Fm95 28 rfl))), (show (m107.1 73) = (m95.1 73) from (fr1 Fm107 73 rfl)), (show (m107.1 74) = ((m.1 74) + 1) from ((fr1 Fm107 74 rfl).trans (fr1 Fm95 74 rfl))), (show (m107.1 75) = (m.1 75) from ((fr1 Fm107 75 rfl).trans (fr1 Fm95 75 rfl)))]; first | (exact hXE) | (exfalso; omega)), (show agr (m.2 65) (m107.2 65) (m.1 28) by rewrite [(show (m107.2 65) = (m.2 65) from ((fr2 Fm107 65 rfl).trans (fr2 Fm95 65 rfl)))]; first | (exact hAgC) | (exfalso; omega))⟩), rfl⟩
      · skip
        replace h108 : LxP (m107.1 7) (m107.1 8) (m107.1 9) (m95.1 6) (m107.1 10) := h108
        rewrite [(show (m95.1 6) = (m.1 6) from (fr1 Fm95 6 rfl))] at h108
        have hLx := h108
        clear h109
        replace h110 : (m95.1 8) ≤ (m107.1 8) := h110
        rewrite [(show (m95.1 8) = (m.1 8) from (fr1 Fm95 8 rfl))] at h110
        clear h111
        have hf121 : 1 ≤ (m107.1 10) := by omega
        refine Tm_lv (a := [(0, .ref 189), (1, .int (i32 (m.1 8)))]) rfl rfl ⟨rfl, rfl, trivial⟩ ?_
        exact J82_75 (mO m107 [] []) Tm107 (fr_m (fr_s Fm107 (fr_m (fr_s Fm95 (fr_m fr_0 rfl rfl) rfl rfl) rfl rfl) rfl rfl) rfl rfl) (show 0 ≤ (m.1 8) ∧ (m.1 8) ≤ 4000 by omega) (show 1 ≤ (m107.1 10) by omega)
    · skip
      refine T_ld 42 (.ref 189) rfl (fun _ => rfl) ?_
      refine T_ld 43 (.int (i32 4)) rfl (fun _ => rfl) ?_
      refine T_gf 47 (.int (i32 (m.1 8))) rfl rfl rfl rfl rfl rfl ?_
      refine T_call 50 222 [.ref 189, .int (i32 4), .int (i32 (m.1 8))] [] rfl (fun _ => rfl) rfl (d_wrong w (mO m [] []) c N D (by omega) hT 4 (m.1 8) ⟨by decide, by decide⟩ (r32 (by omega) (by omega)) (show 1 ≤ (4 : Int) ∧ (4 : Int) ≤ 8 by omega) (show 0 ≤ (m.1 8) ∧ (m.1 8) ≤ 4000 by omega)) (fun rr122 k123 => ?_)
      obtain ⟨m124, Tm124, Fm124, h125, rfl⟩ := k123
      refine ⟨_, _, rfl, ?_⟩
      refine T_nb (st' := []) rfl ?_
      have g126 : 0 ≤ m124.1 10 ∧ m124.1 10 ≤ 8 := Tm124.1 10
      have g127 : (-1) ≤ m124.1 11 ∧ m124.1 11 ≤ 4000 := Tm124.1 11
      replace h125 : (0 < (m.1 10) → (m124.1 10) = (m.1 10) ∧ (m124.1 11) = (m.1 11)) ∧ ((m.1 10) ≤ 0 → (m124.1 10) = (4 : Int) ∧ (m124.1 11) = (m.1 8)) := h125
      have hf128 : 1 ≤ (m124.1 10) := by omega
      refine Tm_lv (a := [(0, .ref 189), (1, .int (i32 (m.1 8)))]) rfl rfl ⟨rfl, rfl, trivial⟩ ?_
      exact J50_82 (mO m124 [] []) Tm124 (fr_m (fr_s Fm124 (fr_m fr_0 rfl rfl) rfl rfl) rfl rfl) (show 0 ≤ (m.1 8) ∧ (m.1 8) ≤ 4000 by omega) (show 1 ≤ (m124.1 10) by omega)
  · skip
    refine T_gf 18 (.int (i32 (m.1 7))) rfl rfl rfl rfl rfl rfl ?_
    refine T_ld 20 (.int (i32 33)) rfl (fun _ => rfl) ?_
    refine T_icmp 32 23 rfl rfl rfl (r32 (by omega) (by omega)) ⟨by decide, by decide⟩ (fun (h129 : (m.1 7) = 33) => ?_) (fun (h129 : ¬ ((m.1 7) = 33)) => ?_)
    · skip
      refine T_gf 36 (.int (i32 (m.1 74))) rfl rfl rfl rfl rfl rfl ?_
      refine T_ld 38 (.int (i32 24)) rfl (fun _ => rfl) ?_
      refine T_icmp 50 41 rfl rfl rfl (r32 (by omega) (by omega)) ⟨by decide, by decide⟩ (fun (h130 : (m.1 74) ≠ 24) => ?_) (fun (h130 : ¬ ((m.1 74) ≠ 24)) => ?_)
      · skip
        refine T_gf 54 (.int (i32 (m.1 10))) rfl rfl rfl rfl rfl rfl ?_
        refine T_if 58 57 rfl rfl rfl (r32 (by omega) (by omega)) (fun (h131 : (m.1 10) ≤ 0) => ?_) (fun (h131 : ¬ ((m.1 10) ≤ 0)) => by exfalso; omega)
        refine T_ld 59 (.ref 189) rfl (fun _ => rfl) ?_
        refine T_ld 60 (.ref 189) rfl (fun _ => rfl) ?_
        refine T_gf1 63 (.int (i32 (m.1 74))) rfl rfl rfl rfl ?_
        refine T_ld 64 (.int (i32 1)) rfl (fun _ => rfl) ?_
        refine T_iadd 65 rfl rfl ?_
        refine T_pf (l' := [(74, (m.1 74) + 1)]) 68 ((m.1 74) + 1) rfl rfl rfl rfl rfl rfl ?_
        have g132 : 0 ≤ (m.1 74) + 1 ∧ (m.1 74) + 1 ≤ 24 := ⟨by omega, by omega⟩
        refine T_ld 69 (.ref 189) rfl (fun _ => rfl) ?_
        refine T_ld 70 (.int (i32 1)) rfl (fun _ => rfl) ?_
        refine T_ld 71 (.int (i32 (m.1 8))) rfl (fun _ => rfl) ?_
        refine T_gf 75 (.int (i32 (m.1 7))) rfl rfl rfl rfl rfl rfl ?_
        refine T_call 78 246 [.ref 189, .int (i32 1), .int (i32 (m.1 8)), .int (i32 (m.1 7))] [] rfl (fun _ => rfl) rfl (c_open w (mO m [(74, (m.1 74) + 1)] []) c N D (by omega) (Ty_mO hT rfl rfl ⟨g132, trivial⟩ trivial) 1 (m.1 8) (m.1 7) ⟨by decide, by decide⟩ (r32 (by omega) (by omega)) (r32 (by omega) (by omega)) (show (m.1 73) ≤ 59 by omega) (show 0 ≤ (1 : Int) ∧ (1 : Int) ≤ 2 by omega) (show 0 ≤ (m.1 8) ∧ (m.1 8) ≤ 4000 by omega) (show 0 ≤ (m.1 7) ∧ (m.1 7) ≤ 330 by omega)) (fun rr133 k134 => ?_)
        obtain ⟨m135, Tm135, Fm135, h136, h137, h138, h139, h140, h141, rfl⟩ := k134
        refine ⟨_, _, rfl, ?_⟩
        refine T_nb (st' := []) rfl ?_
        have g142 : 0 ≤ m135.1 73 ∧ m135.1 73 ≤ 60 := Tm135.1 73
        replace h136 : (m135.1 73) = (m.1 73) + 1 := h136
        have hO0 := h136
        replace h137 : (m135.2 76) = upI (m.2 76) (m.1 73) (1 : Int) := h137
        have hO1 := h137
        replace h138 : (m135.2 78) = upI (m.2 78) (m.1 73) (m.1 7) := h138
        have hO2 := h138
        replace h139 : (m135.2 79) = upI (m.2 79) (m.1 73) 0 := h139
        have hO3 := h139
        replace h140 : ∀ j, j < 9 * (m.1 73) → (m135.2 80) j = (m.2 80) j := h140
        have hW1 := h140
        replace h141 : ∀ j, 9 * (m.1 73) ≤ j → j < 9 * (m.1 73) + 9 → (m135.2 80) j = -1 := h141
        have hW2 := h141
        have u143 : (m.1 8) ≤ (m.1 8) := by omega
        have hAgC : agr (m.2 65) (m.2 65) (m.1 28) := by first | exact agr_r _ _ | exact hAgC | exact agr_t hAgC hAg (by omega)
        have u144 : 1 ≤ (m135.1 73) := by omega
        refine T_ld 79 (.ref 189) rfl (fun _ => rfl) ?_
        refine T_call 82 212 [.ref 189] [] rfl (fun _ => rfl) rfl (d_next w (mO m135 [] []) c N D (by omega) Tm135 (show (m135.1 10) = 0 → (m135.1 8) + (m135.1 9) ≤ (m135.1 6) by rewrite [(show (m135.1 10) = (m.1 10) from (fr1 Fm135 10 rfl)), (show (m135.1 8) = (m.1 8) from (fr1 Fm135 8 rfl)), (show (m135.1 9) = (m.1 9) from (fr1 Fm135 9 rfl)), (show (m135.1 6) = (m.1 6) from (fr1 Fm135 6 rfl))]; first | omega | (intro h9; have h8 := hLx h9; omega))) (fun rr145 k146 => ?_)
        obtain ⟨m147, Tm147, Fm147, h148, h149, h150, h151, rfl⟩ := k146
        refine ⟨_, _, rfl, ?_⟩
        refine T_nb (st' := []) rfl ?_
        have g152 : 0 ≤ m147.1 7 ∧ m147.1 7 ≤ 330 := Tm147.1 7
        have g153 : 0 ≤ m147.1 8 ∧ m147.1 8 ≤ 4000 := Tm147.1 8
        have g154 : 0 ≤ m147.1 9 ∧ m147.1 9 ≤ 4000 := Tm147.1 9
        have g155 : 0 ≤ m147.1 10 ∧ m147.1 10 ≤ 8 := Tm147.1 10
        have g156 : (-1) ≤ m147.1 11 ∧ m147.1 11 ≤ 4000 := Tm147.1 11
        have g157 : (-9223372036854775808) ≤ m147.1 12 ∧ m147.1 12 ≤ 9223372036854775807 := Tm147.1 12
        by_cases hf158 : (m147.1 10) = 0
        · skip
          replace h148 : LxP (m147.1 7) (m147.1 8) (m147.1 9) (m135.1 6) (m147.1 10) := h148
          rewrite [(show (m135.1 6) = (m.1 6) from (fr1 Fm135 6 rfl))] at h148
          have hLx := h148
          replace h149 : (m135.1 10) = 0 := h149 hf158
          rewrite [(show (m135.1 10) = (m.1 10) from (fr1 Fm135 10 rfl))] at h149
          replace h150 : (m135.1 8) ≤ (m147.1 8) := h150
          rewrite [(show (m135.1 8) = (m.1 8) from (fr1 Fm135 8 rfl))] at h150
          replace h151 : (m135.1 8) + (m135.1 9) ≤ (m147.1 8) := h151 hf158
          rewrite [(show (m135.1 8) = (m.1 8) from (fr1 Fm135 8 rfl)), (show (m135.1 9) = (m.1 9) from (fr1 Fm135 9 rfl))] at h151
          have u159 : (m.1 8) + 1 ≤ (m147.1 8) := by omega
          have hAgC : agr (m.2 65) (m.2 65) (m.1 28) := by first | exact agr_r _ _ | exact hAgC | exact agr_t hAgC hAg (by omega)
          have u160 : 1 ≤ (m135.1 73) := by omega
          have hXE : XS (m.2 65) (m.2 67) (m135.2 76) (m135.2 78) (m135.2 79) (m135.2 80) B (m.1 28) (m135.1 73) ((m.1 74) + 1) (um (m.1 75)) := by
            rw [hO0, hO1, hO2, hO3, show um (m.1 75) = 0 from if_pos (by omega)]
            exact XS_pre hXS (by omega) (by omega) hW1 hW2
          refine T_goto 219 rfl (fun _ => rfl) ?_
          refine T_ret rfl (fun _ => rfl) ?_
          exact ⟨(mO m147 [] []), Tm147, (fr_m (fr_s Fm147 (fr_m (fr_s Fm135 (fr_m fr_0 rfl rfl) rfl rfl) rfl rfl) rfl rfl) rfl rfl), (show (m147.1 10) = 0 → (m.1 10) = 0 by omega), (show LxP (m147.1 7) (m147.1 8) (m147.1 9) (m.1 6) (m147.1 10) by first | (first | exact hLx | exact (fun _ => hLx (by omega)) | (intro h9; exfalso; omega)) | (exfalso; omega)), (fun _ => ⟨(show (m.1 8) + 1 ≤ (m147.1 8) by omega), (show (m147.1 75) = 0 ∨ ((m147.1 75) = 1 ∧ (m147.1 69) ≤ 64) by rewrite [(show (m147.1 75) = (m.1 75) from ((fr1 Fm147 75 rfl).trans (fr1 Fm135 75 rfl))), (show (m147.1 69) = (m.1 69) from ((fr1 Fm147 69 rfl).trans (fr1 Fm135 69 rfl)))]; omega), (show 1 ≤ (m147.1 73) by rewrite [(show (m147.1 73) = (m135.1 73) from (fr1 Fm147 73 rfl))]; omega), (show (m.1 28) ≤ (m147.1 28) by rewrite [(show (m147.1 28) = (m.1 28) from ((fr1 Fm147 28 rfl).trans (fr1 Fm135 28 rfl)))]; omega), (show XS (m147.2 65) (m147.2 67) (m147.2 76) (m147.2 78) (m147.2 79) (m147.2 80) B (m147.1 28) (m147.1 73) (m147.1 74) (um (m147.1 75)) by rewrite [(show (m147.2 65) = (m.2 65) from ((fr2 Fm147 65 rfl).trans (fr2 Fm135 65 rfl))), (show (m147.2 67) = (m.2 67) from ((fr2 Fm147 67 rfl).trans (fr2 Fm135 67 rfl))), (show (m147.2 76) = (m135.2 76) from (fr2 Fm147 76 rfl)), (show (m147.2 78) = (m135.2 78) from (fr2 Fm147 78 rfl)), (show (m147.2 79) = (m135.2 79) from (fr2 Fm147 79 rfl)), (show (m147.2 80) = (m135.2 80) from (fr2 Fm147 80 rfl)), (show (m147.1 28) = (m.1 28) from ((fr1 Fm147 28 rfl).trans (fr1 Fm135 28 rfl))), (show (m147.1 73) = (m135.1 73) from (fr1 Fm147 73 rfl)), (show (m147.1 74) = ((m.1 74) + 1) from ((fr1 Fm147 74 rfl).trans (fr1 Fm135 74 rfl))), (show (m147.1 75) = (m.1 75) from ((fr1 Fm147 75 rfl).trans (fr1 Fm135 75 rfl)))]; first | (exact hXE) | (exfalso; omega)), (show agr (m.2 65) (m147.2 65) (m.1 28) by rewrite [(show (m147.2 65) = (m.2 65) from ((fr2 Fm147 65 rfl).trans (fr2 Fm135 65 rfl)))]; first | (exact hAgC) | (exfalso; omega))⟩), rfl⟩
        · skip
          replace h148 : LxP (m147.1 7) (m147.1 8) (m147.1 9) (m135.1 6) (m147.1 10) := h148
          rewrite [(show (m135.1 6) = (m.1 6) from (fr1 Fm135 6 rfl))] at h148
          have hLx := h148
          clear h149
          replace h150 : (m135.1 8) ≤ (m147.1 8) := h150
          rewrite [(show (m135.1 8) = (m.1 8) from (fr1 Fm135 8 rfl))] at h150
          clear h151
          have hf161 : 1 ≤ (m147.1 10) := by omega
          refine Tm_lv (a := [(0, .ref 189), (1, .int (i32 (m.1 8)))]) rfl rfl ⟨rfl, rfl, trivial⟩ ?_
          exact J82_75 (mO m147 [] []) Tm147 (fr_m (fr_s Fm147 (fr_m (fr_s Fm135 (fr_m fr_0 rfl rfl) rfl rfl) rfl rfl) rfl rfl) rfl rfl) (show 0 ≤ (m.1 8) ∧ (m.1 8) ≤ 4000 by omega) (show 1 ≤ (m147.1 10) by omega)
      · skip
        refine T_ld 42 (.ref 189) rfl (fun _ => rfl) ?_
        refine T_ld 43 (.int (i32 4)) rfl (fun _ => rfl) ?_
        refine T_gf 47 (.int (i32 (m.1 8))) rfl rfl rfl rfl rfl rfl ?_
        refine T_call 50 222 [.ref 189, .int (i32 4), .int (i32 (m.1 8))] [] rfl (fun _ => rfl) rfl (d_wrong w (mO m [] []) c N D (by omega) hT 4 (m.1 8) ⟨by decide, by decide⟩ (r32 (by omega) (by omega)) (show 1 ≤ (4 : Int) ∧ (4 : Int) ≤ 8 by omega) (show 0 ≤ (m.1 8) ∧ (m.1 8) ≤ 4000 by omega)) (fun rr162 k163 => ?_)
        obtain ⟨m164, Tm164, Fm164, h165, rfl⟩ := k163
        refine ⟨_, _, rfl, ?_⟩
        refine T_nb (st' := []) rfl ?_
        have g166 : 0 ≤ m164.1 10 ∧ m164.1 10 ≤ 8 := Tm164.1 10
        have g167 : (-1) ≤ m164.1 11 ∧ m164.1 11 ≤ 4000 := Tm164.1 11
        replace h165 : (0 < (m.1 10) → (m164.1 10) = (m.1 10) ∧ (m164.1 11) = (m.1 11)) ∧ ((m.1 10) ≤ 0 → (m164.1 10) = (4 : Int) ∧ (m164.1 11) = (m.1 8)) := h165
        have hf168 : 1 ≤ (m164.1 10) := by omega
        refine Tm_lv (a := [(0, .ref 189), (1, .int (i32 (m.1 8)))]) rfl rfl ⟨rfl, rfl, trivial⟩ ?_
        exact J50_82 (mO m164 [] []) Tm164 (fr_m (fr_s Fm164 (fr_m fr_0 rfl rfl) rfl rfl) rfl rfl) (show 0 ≤ (m.1 8) ∧ (m.1 8) ≤ 4000 by omega) (show 1 ≤ (m164.1 10) by omega)
    · skip
      refine T_gf 27 (.int (i32 (m.1 7))) rfl rfl rfl rfl rfl rfl ?_
      refine T_ld 29 (.int (i32 45)) rfl (fun _ => rfl) ?_
      refine T_icmp 85 32 rfl rfl rfl (r32 (by omega) (by omega)) ⟨by decide, by decide⟩ (fun (h169 : (m.1 7) ≠ 45) => ?_) (fun (h169 : ¬ ((m.1 7) ≠ 45)) => ?_)
      · skip
        refine T_gf 89 (.int (i32 (m.1 7))) rfl rfl rfl rfl rfl rfl ?_
        refine T_ld 90 (.int (i32 2)) rfl (fun _ => rfl) ?_
        refine T_icmp 133 93 rfl rfl rfl (r32 (by omega) (by omega)) ⟨by decide, by decide⟩ (fun (h170 : (m.1 7) ≠ 2) => ?_) (fun (h170 : ¬ ((m.1 7) ≠ 2)) => ?_)
        · skip
          refine T_gf 137 (.int (i32 (m.1 7))) rfl rfl rfl rfl rfl rfl ?_
          refine T_ld 138 (.int (i32 1)) rfl (fun _ => rfl) ?_
          refine T_icmp 149 141 rfl rfl rfl (r32 (by omega) (by omega)) ⟨by decide, by decide⟩ (fun (h171 : (m.1 7) ≠ 1) => ?_) (fun (h171 : ¬ ((m.1 7) ≠ 1)) => ?_)
          · skip
            refine T_gf 153 (.int (i32 (m.1 7))) rfl rfl rfl rfl rfl rfl ?_
            refine T_ld 156 (.int (i32 329)) rfl (fun _ => rfl) ?_
            refine T_icmp 188 159 rfl rfl rfl (r32 (by omega) (by omega)) ⟨by decide, by decide⟩ (fun (h172 : (m.1 7) ≠ 329) => ?_) (fun (h172 : ¬ ((m.1 7) ≠ 329)) => ?_)
            · skip
              refine T_gf 192 (.int (i32 (m.1 7))) rfl rfl rfl rfl rfl rfl ?_
              refine T_ld 194 (.int (i32 40)) rfl (fun _ => rfl) ?_
              refine T_icmp 215 197 rfl rfl rfl (r32 (by omega) (by omega)) ⟨by decide, by decide⟩ (fun (h173 : (m.1 7) ≠ 40) => ?_) (fun (h173 : ¬ ((m.1 7) ≠ 40)) => ?_)
              · skip
                refine T_ld 216 (.ref 189) rfl (fun _ => rfl) ?_
                refine T_call 219 226 [.ref 189] [] rfl (fun _ => rfl) rfl (d_bad w (mO m [] []) c N D (by omega) hT ) (fun rr174 k175 => ?_)
                obtain ⟨m176, Tm176, Fm176, h177, rfl⟩ := k175
                refine ⟨_, _, rfl, ?_⟩
                refine T_nb (st' := []) rfl ?_
                have g178 : 0 ≤ m176.1 10 ∧ m176.1 10 ≤ 8 := Tm176.1 10
                have g179 : (-1) ≤ m176.1 11 ∧ m176.1 11 ≤ 4000 := Tm176.1 11
                replace h177 : (0 < (m.1 10) → (m176.1 10) = (m.1 10) ∧ (m176.1 11) = (m.1 11)) ∧ ((m.1 10) ≤ 0 → (m176.1 10) = 1 ∧ (m176.1 11) = (m.1 8)) := h177
                have hf180 : 1 ≤ (m176.1 10) := by omega
                refine T_ret rfl (fun _ => rfl) ?_
                exact ⟨(mO m176 [] []), Tm176, (fr_m (fr_s Fm176 (fr_m fr_0 rfl rfl) rfl rfl) rfl rfl), (show (m176.1 10) = 0 → (m.1 10) = 0 by omega), (show LxP (m176.1 7) (m176.1 8) (m176.1 9) (m.1 6) (m176.1 10) by rewrite [(show (m176.1 7) = (m.1 7) from (fr1 Fm176 7 rfl)), (show (m176.1 8) = (m.1 8) from (fr1 Fm176 8 rfl)), (show (m176.1 9) = (m.1 9) from (fr1 Fm176 9 rfl))]; first | (first | exact hLx | exact (fun _ => hLx (by omega)) | (intro h9; exfalso; omega)) | (exfalso; omega)), (fun (h : (m176.1 10) = 0) => absurd h (by omega)), rfl⟩
              · skip
                refine T_ld 198 (.ref 189) rfl (fun _ => rfl) ?_
                refine T_ld 199 (.int (i32 2)) rfl (fun _ => rfl) ?_
                refine T_ld 200 (.int (i32 (m.1 8))) rfl (fun _ => rfl) ?_
                refine T_ld 201 (.int (i32 0)) rfl (fun _ => rfl) ?_
                refine T_call 204 246 [.ref 189, .int (i32 2), .int (i32 (m.1 8)), .int (i32 0)] [] rfl (fun _ => rfl) rfl (c_open w (mO m [] []) c N D (by omega) hT 2 (m.1 8) 0 ⟨by decide, by decide⟩ (r32 (by omega) (by omega)) ⟨by decide, by decide⟩ (show (m.1 73) ≤ 59 by omega) (show 0 ≤ (2 : Int) ∧ (2 : Int) ≤ 2 by omega) (show 0 ≤ (m.1 8) ∧ (m.1 8) ≤ 4000 by omega) (show 0 ≤ (0 : Int) ∧ (0 : Int) ≤ 330 by omega)) (fun rr181 k182 => ?_)
                obtain ⟨m183, Tm183, Fm183, h184, h185, h186, h187, h188, h189, rfl⟩ := k182
                refine ⟨_, _, rfl, ?_⟩
                refine T_nb (st' := []) rfl ?_
                have g190 : 0 ≤ m183.1 73 ∧ m183.1 73 ≤ 60 := Tm183.1 73
                replace h184 : (m183.1 73) = (m.1 73) + 1 := h184
                have hO0 := h184
                replace h185 : (m183.2 76) = upI (m.2 76) (m.1 73) (2 : Int) := h185
                have hO1 := h185
                replace h186 : (m183.2 78) = upI (m.2 78) (m.1 73) (0 : Int) := h186
                have hO2 := h186
                replace h187 : (m183.2 79) = upI (m.2 79) (m.1 73) 0 := h187
                have hO3 := h187
                replace h188 : ∀ j, j < 9 * (m.1 73) → (m183.2 80) j = (m.2 80) j := h188
                have hW1 := h188
                replace h189 : ∀ j, 9 * (m.1 73) ≤ j → j < 9 * (m.1 73) + 9 → (m183.2 80) j = -1 := h189
                have hW2 := h189
                have u191 : (m.1 8) ≤ (m.1 8) := by omega
                have hAgC : agr (m.2 65) (m.2 65) (m.1 28) := by first | exact agr_r _ _ | exact hAgC | exact agr_t hAgC hAg (by omega)
                have u192 : 1 ≤ (m183.1 73) := by omega
                refine T_ld 205 (.ref 189) rfl (fun _ => rfl) ?_
                refine T_call 208 212 [.ref 189] [] rfl (fun _ => rfl) rfl (d_next w (mO m183 [] []) c N D (by omega) Tm183 (show (m183.1 10) = 0 → (m183.1 8) + (m183.1 9) ≤ (m183.1 6) by rewrite [(show (m183.1 10) = (m.1 10) from (fr1 Fm183 10 rfl)), (show (m183.1 8) = (m.1 8) from (fr1 Fm183 8 rfl)), (show (m183.1 9) = (m.1 9) from (fr1 Fm183 9 rfl)), (show (m183.1 6) = (m.1 6) from (fr1 Fm183 6 rfl))]; first | omega | (intro h9; have h8 := hLx h9; omega))) (fun rr193 k194 => ?_)
                obtain ⟨m195, Tm195, Fm195, h196, h197, h198, h199, rfl⟩ := k194
                refine ⟨_, _, rfl, ?_⟩
                refine T_nb (st' := []) rfl ?_
                have g200 : 0 ≤ m195.1 7 ∧ m195.1 7 ≤ 330 := Tm195.1 7
                have g201 : 0 ≤ m195.1 8 ∧ m195.1 8 ≤ 4000 := Tm195.1 8
                have g202 : 0 ≤ m195.1 9 ∧ m195.1 9 ≤ 4000 := Tm195.1 9
                have g203 : 0 ≤ m195.1 10 ∧ m195.1 10 ≤ 8 := Tm195.1 10
                have g204 : (-1) ≤ m195.1 11 ∧ m195.1 11 ≤ 4000 := Tm195.1 11
                have g205 : (-9223372036854775808) ≤ m195.1 12 ∧ m195.1 12 ≤ 9223372036854775807 := Tm195.1 12
                by_cases hf206 : (m195.1 10) = 0
                · skip
                  replace h196 : LxP (m195.1 7) (m195.1 8) (m195.1 9) (m183.1 6) (m195.1 10) := h196
                  rewrite [(show (m183.1 6) = (m.1 6) from (fr1 Fm183 6 rfl))] at h196
                  have hLx := h196
                  replace h197 : (m183.1 10) = 0 := h197 hf206
                  rewrite [(show (m183.1 10) = (m.1 10) from (fr1 Fm183 10 rfl))] at h197
                  replace h198 : (m183.1 8) ≤ (m195.1 8) := h198
                  rewrite [(show (m183.1 8) = (m.1 8) from (fr1 Fm183 8 rfl))] at h198
                  replace h199 : (m183.1 8) + (m183.1 9) ≤ (m195.1 8) := h199 hf206
                  rewrite [(show (m183.1 8) = (m.1 8) from (fr1 Fm183 8 rfl)), (show (m183.1 9) = (m.1 9) from (fr1 Fm183 9 rfl))] at h199
                  have u207 : (m.1 8) + 1 ≤ (m195.1 8) := by omega
                  have hAgC : agr (m.2 65) (m.2 65) (m.1 28) := by first | exact agr_r _ _ | exact hAgC | exact agr_t hAgC hAg (by omega)
                  have u208 : 1 ≤ (m183.1 73) := by omega
                  have hXT : XT (m.2 65) (m.2 67) (m183.2 76) (m183.2 78) (m183.2 79) (m183.2 80) B (m.1 28) (m183.1 73) (m.1 74) 0 := by
                    rw [hO0, hO1, hO2, hO3]
                    exact XT_bra hXS (by omega) hW1 hW2
                  have hTop : (m183.1 73) = 0 ∨ (m183.2 76) ((m183.1 73) - 1) = 2 ∨ ((m183.2 76) ((m183.1 73) - 1) = 0 ∧ (m183.2 79) ((m183.1 73) - 1) = 2) := Or.inr (Or.inl (by rw [show (m183.1 73) - 1 = (m.1 73) by omega, hO1, upI_s]))
                  refine T_ld 209 (.ref 189) rfl (fun _ => rfl) ?_
                  refine T_call 212 245 [.ref 189] [] rfl (fun _ => rfl) rfl (c_beginChoice w (mO m195 [] []) c N D (by omega) Tm195 B 0 (fun _ => ⟨(show XT (m195.2 65) (m195.2 67) (m195.2 76) (m195.2 78) (m195.2 79) (m195.2 80) B (m195.1 28) (m195.1 73) (m195.1 74) 0 by rewrite [(show (m195.2 65) = (m.2 65) from ((fr2 Fm195 65 rfl).trans (fr2 Fm183 65 rfl))), (show (m195.2 67) = (m.2 67) from ((fr2 Fm195 67 rfl).trans (fr2 Fm183 67 rfl))), (show (m195.2 76) = (m183.2 76) from (fr2 Fm195 76 rfl)), (show (m195.2 78) = (m183.2 78) from (fr2 Fm195 78 rfl)), (show (m195.2 79) = (m183.2 79) from (fr2 Fm195 79 rfl)), (show (m195.2 80) = (m183.2 80) from (fr2 Fm195 80 rfl)), (show (m195.1 28) = (m.1 28) from ((fr1 Fm195 28 rfl).trans (fr1 Fm183 28 rfl))), (show (m195.1 73) = (m183.1 73) from (fr1 Fm195 73 rfl)), (show (m195.1 74) = (m.1 74) from ((fr1 Fm195 74 rfl).trans (fr1 Fm183 74 rfl)))]; first | exact hXT | exact hXS.1), (show (m195.1 73) = 0 ∨ (m195.2 76) ((m195.1 73) - 1) = 2 ∨ ((m195.2 76) ((m195.1 73) - 1) = 0 ∧ (m195.2 79) ((m195.1 73) - 1) = 2) by rewrite [(show (m195.1 73) = (m183.1 73) from (fr1 Fm195 73 rfl)), (show (m195.2 76) = (m183.2 76) from (fr2 Fm195 76 rfl)), (show (m195.2 79) = (m183.2 79) from (fr2 Fm195 79 rfl))]; first | exact hTop | omega)⟩)) (fun rr209 k210 => ?_)
                  obtain ⟨m211, Tm211, Fm211, h212, c213, rfl⟩ := k210
                  refine ⟨_, _, rfl, ?_⟩
                  refine T_nb (st' := []) rfl ?_
                  have g214 : 0 ≤ m211.1 10 ∧ m211.1 10 ≤ 8 := Tm211.1 10
                  have g215 : (-1) ≤ m211.1 11 ∧ m211.1 11 ≤ 4000 := Tm211.1 11
                  have g216 : 0 ≤ m211.1 73 ∧ m211.1 73 ≤ 60 := Tm211.1 73
                  have g217 : 0 ≤ m211.1 74 ∧ m211.1 74 ≤ 24 := Tm211.1 74
                  have g218 : 0 ≤ m211.1 75 ∧ m211.1 75 ≤ 3 := Tm211.1 75
                  by_cases hf219 : (m211.1 10) = 0
                  · skip
                    replace h212 : (m195.1 10) = 0 := h212 hf219
                    obtain ⟨c220, c221, c222⟩ := c213 hf219
                    replace c220 : XS (m195.2 65) (m195.2 67) (m211.2 76) (m211.2 78) (m211.2 79) (m211.2 80) B (m195.1 28) (m211.1 73) (m211.1 74) 0 := c220
                    rewrite [(show (m195.2 65) = (m.2 65) from ((fr2 Fm195 65 rfl).trans (fr2 Fm183 65 rfl))), (show (m195.2 67) = (m.2 67) from ((fr2 Fm195 67 rfl).trans (fr2 Fm183 67 rfl))), (show (m195.1 28) = (m.1 28) from ((fr1 Fm195 28 rfl).trans (fr1 Fm183 28 rfl)))] at c220
                    have hXS := c220
                    replace c221 : (m211.1 73) = (m195.1 73) + 1 := c221
                    rewrite [(show (m195.1 73) = (m183.1 73) from (fr1 Fm195 73 rfl))] at c221
                    replace c222 : (m211.1 75) = 0 := c222
                    clear c213
                    have u223 : (m.1 8) + 1 ≤ (m195.1 8) := by omega
                    have hAgC : agr (m.2 65) (m.2 65) (m.1 28) := by first | exact agr_r _ _ | exact hAgC | exact agr_t hAgC hAg (by omega)
                    have u224 : 1 ≤ (m211.1 73) := by omega
                    clear g190 h184 h185 h186 h187 h188 h189 u192 g203 g204 h196 u208 h212 c221
                    have hXE : XS (m.2 65) (m.2 67) (m211.2 76) (m211.2 78) (m211.2 79) (m211.2 80) B (m.1 28) (m211.1 73) (m211.1 74) (um (m211.1 75)) := by
                      rw [show um (m211.1 75) = 0 from if_pos (by omega)]
                      exact hXS
                    refine T_goto 219 rfl (fun _ => rfl) ?_
                    refine T_ret rfl (fun _ => rfl) ?_
                    exact ⟨(mO m211 [] []), Tm211, (fr_m (fr_s Fm211 (fr_m (fr_s Fm195 (fr_m (fr_s Fm183 (fr_m fr_0 rfl rfl) rfl rfl) rfl rfl) rfl rfl) rfl rfl) rfl rfl) rfl rfl), (show (m211.1 10) = 0 → (m.1 10) = 0 by omega), (show LxP (m211.1 7) (m211.1 8) (m211.1 9) (m.1 6) (m211.1 10) by rewrite [(show (m211.1 7) = (m195.1 7) from (fr1 Fm211 7 rfl)), (show (m211.1 8) = (m195.1 8) from (fr1 Fm211 8 rfl)), (show (m211.1 9) = (m195.1 9) from (fr1 Fm211 9 rfl))]; first | (first | exact hLx | exact (fun _ => hLx (by omega)) | (intro h9; exfalso; omega)) | (exfalso; omega)), (fun _ => ⟨(show (m.1 8) + 1 ≤ (m211.1 8) by rewrite [(show (m211.1 8) = (m195.1 8) from (fr1 Fm211 8 rfl))]; omega), (show (m211.1 75) = 0 ∨ ((m211.1 75) = 1 ∧ (m211.1 69) ≤ 64) by rewrite [(show (m211.1 69) = (m.1 69) from ((fr1 Fm211 69 rfl).trans ((fr1 Fm195 69 rfl).trans (fr1 Fm183 69 rfl))))]; omega), (show 1 ≤ (m211.1 73) by omega), (show (m.1 28) ≤ (m211.1 28) by rewrite [(show (m211.1 28) = (m.1 28) from ((fr1 Fm211 28 rfl).trans ((fr1 Fm195 28 rfl).trans (fr1 Fm183 28 rfl))))]; omega), (show XS (m211.2 65) (m211.2 67) (m211.2 76) (m211.2 78) (m211.2 79) (m211.2 80) B (m211.1 28) (m211.1 73) (m211.1 74) (um (m211.1 75)) by rewrite [(show (m211.2 65) = (m.2 65) from ((fr2 Fm211 65 rfl).trans ((fr2 Fm195 65 rfl).trans (fr2 Fm183 65 rfl)))), (show (m211.2 67) = (m.2 67) from ((fr2 Fm211 67 rfl).trans ((fr2 Fm195 67 rfl).trans (fr2 Fm183 67 rfl)))), (show (m211.1 28) = (m.1 28) from ((fr1 Fm211 28 rfl).trans ((fr1 Fm195 28 rfl).trans (fr1 Fm183 28 rfl))))]; first | (exact hXE) | (exfalso; omega)), (show agr (m.2 65) (m211.2 65) (m.1 28) by rewrite [(show (m211.2 65) = (m.2 65) from ((fr2 Fm211 65 rfl).trans ((fr2 Fm195 65 rfl).trans (fr2 Fm183 65 rfl))))]; first | (exact hAgC) | (exfalso; omega))⟩), rfl⟩
                  · skip
                    clear c213
                    clear h212
                    have hf225 : 1 ≤ (m211.1 10) := by omega
                    clear g190 h184 h185 h186 h187 h188 h189 u192 g203 g204 h196 u208
                    refine Tm_lv (a := [(0, .ref 189), (1, .int (i32 (m.1 8)))]) rfl rfl ⟨rfl, rfl, trivial⟩ ?_
                    exact J212_17 (mO m211 [] []) Tm211 (fr_m (fr_s Fm211 (fr_m (fr_s Fm195 (fr_m (fr_s Fm183 (fr_m fr_0 rfl rfl) rfl rfl) rfl rfl) rfl rfl) rfl rfl) rfl rfl) rfl rfl) (show 0 ≤ (m.1 8) ∧ (m.1 8) ≤ 4000 by omega) (show 1 ≤ (m211.1 10) by omega)
                · skip
                  replace h196 : LxP (m195.1 7) (m195.1 8) (m195.1 9) (m183.1 6) (m195.1 10) := h196
                  rewrite [(show (m183.1 6) = (m.1 6) from (fr1 Fm183 6 rfl))] at h196
                  have hLx := h196
                  clear h197
                  replace h198 : (m183.1 8) ≤ (m195.1 8) := h198
                  rewrite [(show (m183.1 8) = (m.1 8) from (fr1 Fm183 8 rfl))] at h198
                  clear h199
                  have hf226 : 1 ≤ (m195.1 10) := by omega
                  refine T_ld 209 (.ref 189) rfl (fun _ => rfl) ?_
                  refine T_call 212 245 [.ref 189] [] rfl (fun _ => rfl) rfl (c_beginChoice w (mO m195 [] []) c N D (by omega) Tm195 B 0 (fun (h : (m195.1 10) = 0) => absurd h (by omega))) (fun rr227 k228 => ?_)
                  obtain ⟨m229, Tm229, Fm229, h230, c231, rfl⟩ := k228
                  refine ⟨_, _, rfl, ?_⟩
                  refine T_nb (st' := []) rfl ?_
                  have g232 : 0 ≤ m229.1 10 ∧ m229.1 10 ≤ 8 := Tm229.1 10
                  have g233 : (-1) ≤ m229.1 11 ∧ m229.1 11 ≤ 4000 := Tm229.1 11
                  have g234 : 0 ≤ m229.1 73 ∧ m229.1 73 ≤ 60 := Tm229.1 73
                  have g235 : 0 ≤ m229.1 74 ∧ m229.1 74 ≤ 24 := Tm229.1 74
                  have g236 : 0 ≤ m229.1 75 ∧ m229.1 75 ≤ 3 := Tm229.1 75
                  replace h230 : (m229.1 10) = 0 → (m195.1 10) = 0 := h230
                  have hf237 : 1 ≤ (m229.1 10) := by omega
                  clear c231
                  clear h230
                  clear g190 h184 h185 h186 h187 h188 h189 u192 g203 g204 h196 hf226
                  refine Tm_lv (a := [(0, .ref 189), (1, .int (i32 (m.1 8)))]) rfl rfl ⟨rfl, rfl, trivial⟩ ?_
                  exact J212_17 (mO m229 [] []) Tm229 (fr_m (fr_s Fm229 (fr_m (fr_s Fm195 (fr_m (fr_s Fm183 (fr_m fr_0 rfl rfl) rfl rfl) rfl rfl) rfl rfl) rfl rfl) rfl rfl) rfl rfl) (show 0 ≤ (m.1 8) ∧ (m.1 8) ≤ 4000 by omega) (show 1 ≤ (m229.1 10) by omega)
            · skip
              refine T_ld 160 (.ref 189) rfl (fun _ => rfl) ?_
              refine T_call 163 212 [.ref 189] [] rfl (fun _ => rfl) rfl (d_next w (mO m [] []) c N D (by omega) hT (show (m.1 10) = 0 → (m.1 8) + (m.1 9) ≤ (m.1 6) by first | omega | (intro h9; have h8 := hLx h9; omega))) (fun rr238 k239 => ?_)
              obtain ⟨m240, Tm240, Fm240, h241, h242, h243, h244, rfl⟩ := k239
              refine ⟨_, _, rfl, ?_⟩
              refine T_nb (st' := []) rfl ?_
              have g245 : 0 ≤ m240.1 7 ∧ m240.1 7 ≤ 330 := Tm240.1 7
              have g246 : 0 ≤ m240.1 8 ∧ m240.1 8 ≤ 4000 := Tm240.1 8
              have g247 : 0 ≤ m240.1 9 ∧ m240.1 9 ≤ 4000 := Tm240.1 9
              have g248 : 0 ≤ m240.1 10 ∧ m240.1 10 ≤ 8 := Tm240.1 10
              have g249 : (-1) ≤ m240.1 11 ∧ m240.1 11 ≤ 4000 := Tm240.1 11
              have g250 : (-9223372036854775808) ≤ m240.1 12 ∧ m240.1 12 ≤ 9223372036854775807 := Tm240.1 12
              by_cases hf251 : (m240.1 10) = 0
              · skip
                replace h241 : LxP (m240.1 7) (m240.1 8) (m240.1 9) (m.1 6) (m240.1 10) := h241
                have hLx := h241
                replace h242 : (m.1 10) = 0 := h242 hf251
                replace h243 : (m.1 8) ≤ (m240.1 8) := h243
                replace h244 : (m.1 8) + (m.1 9) ≤ (m240.1 8) := h244 hf251
                have u252 : (m.1 8) + 1 ≤ (m240.1 8) := by omega
                have hAgC : agr (m.2 65) (m.2 65) (m.1 28) := by first | exact agr_r _ _ | exact hAgC | exact agr_t hAgC hAg (by omega)
                have u253 : 1 ≤ (m.1 73) := by omega
                refine T_ld 164 (.ref 189) rfl (fun _ => rfl) ?_
                refine T_ld 165 (.int (i32 2)) rfl (fun _ => rfl) ?_
                have hOL : (m240.1 10) = 0 → ∀ k, 0 ≤ k → k < (m.1 13) → (m.2 16) k = 2 → 0 ≤ (m.2 17) k ∧ (m.2 17) k < 12 := fun _ k h1 h2 h3 => by
                  have h4 := PNl_2 pPN k h1 h2 h3
                  omega
                refine T_call 168 236 [.ref 189, .int (i32 2)] [] rfl (fun _ => rfl) rfl (d_oldName w (mO m240 [] []) c N D (by omega) Tm240 2 12 ⟨by decide, by decide⟩ (show LxP (m240.1 7) (m240.1 8) (m240.1 9) (m240.1 6) (m240.1 10) by rewrite [(show (m240.1 6) = (m.1 6) from (fr1 Fm240 6 rfl))]; first | exact hLx | (intro h9; exfalso; omega) | (intro h9; have h8 := hLx (by omega); omega)) (show ∀ k, (m240.2 14) k + (m240.2 15) k ≤ 4000 by rewrite [(show (m240.2 14) = (m.2 14) from (fr2 Fm240 14 rfl)), (show (m240.2 15) = (m.2 15) from (fr2 Fm240 15 rfl))]; first | exact p1 | exact hNM) (show 1 ≤ (2 : Int) ∧ (2 : Int) ≤ 7 ∧ (2 : Int) ≠ 5 by omega) (show 12 ≤ 16 by omega) (show (m240.1 10) = 0 → ∀ k, 0 ≤ k → k < (m240.1 13) → (m240.2 16) k = (2 : Int) → 0 ≤ (m240.2 17) k ∧ (m240.2 17) k < 12 by rewrite [(show (m240.1 13) = (m.1 13) from (fr1 Fm240 13 rfl)), (show (m240.2 16) = (m.2 16) from (fr2 Fm240 16 rfl)), (show (m240.2 17) = (m.2 17) from (fr2 Fm240 17 rfl))]; first | exact hOL | (intro h; exfalso; omega)) (show (2 : Int) = 3 → 3 ≤ 12 by omega)) (fun rr254 k255 => ?_)
                obtain ⟨m256, oo, Tm256, Fm256, g257, h258, h259, h260, h261, h262, h263, rfl⟩ := k255
                refine ⟨_, _, rfl, ?_⟩
                refine T_nb (st' := [.int (i32 oo)]) rfl ?_
                obtain ⟨g257a, g257b⟩ := g257
                have g264 : 0 ≤ m256.1 7 ∧ m256.1 7 ≤ 330 := Tm256.1 7
                have g265 : 0 ≤ m256.1 8 ∧ m256.1 8 ≤ 4000 := Tm256.1 8
                have g266 : 0 ≤ m256.1 9 ∧ m256.1 9 ≤ 4000 := Tm256.1 9
                have g267 : 0 ≤ m256.1 10 ∧ m256.1 10 ≤ 8 := Tm256.1 10
                have g268 : (-1) ≤ m256.1 11 ∧ m256.1 11 ≤ 4000 := Tm256.1 11
                have g269 : (-9223372036854775808) ≤ m256.1 12 ∧ m256.1 12 ≤ 9223372036854775807 := Tm256.1 12
                by_cases hf270 : (m256.1 10) = 0
                · skip
                  replace h258 : LxP (m256.1 7) (m256.1 8) (m256.1 9) (m240.1 6) (m256.1 10) := h258
                  rewrite [(show (m240.1 6) = (m.1 6) from (fr1 Fm240 6 rfl))] at h258
                  have hLx := h258
                  replace h259 : (m240.1 8) ≤ (m256.1 8) := h259
                  replace h260 : (m240.1 10) = 0 ∧ (m240.1 8) + (m240.1 9) ≤ (m256.1 8) := h260 hf270
                  replace h261 : (m240.1 7) = 1 := h261 hf270
                  replace h262 : 0 ≤ oo ∧ (oo < 12 ∨ oo = 0) := h262
                  replace h263 : oo < 12 := h263 hf270
                  have u271 : (m.1 8) + 1 ≤ (m256.1 8) := by omega
                  have hAgC : agr (m.2 65) (m.2 65) (m.1 28) := by first | exact agr_r _ _ | exact hAgC | exact agr_t hAgC hAg (by omega)
                  have u272 : 1 ≤ (m.1 73) := by omega
                  clear g245 g246 g247 g248 g249 g250 h241 h243 h244 u252 h259 h260 h261
                  refine T_sto 169 [(2, .int (i32 oo)), (1, .int (i32 (m.1 8))), (0, .ref 189)] rfl (fun _ => rfl) ?_
                  have hAr : ar 404 ≤ 0 + lh (m.2 79) (m.2 80) (m.1 73) := by rw [show ar 404 = 0 from rfl]; omega
                  have hCk : CNk 404 oo := by refine ⟨?_, ?_, ?_, ?_⟩ <;> omega
                  refine T_ld 170 (.ref 189) rfl (fun _ => rfl) ?_
                  refine T_ld 173 (.int (i32 404)) rfl (fun _ => rfl) ?_
                  refine T_ld 174 (.int (i32 1)) rfl (fun _ => rfl) ?_
                  refine T_ld 175 (.int (i32 oo)) rfl (fun _ => rfl) ?_
                  refine T_ld 176 (.long (i64 0)) rfl (fun _ => rfl) ?_
                  refine T_call 179 248 [.ref 189, .int (i32 404), .int (i32 1), .int (i32 oo), .long (i64 0)] [] rfl (fun _ => rfl) rfl (c_node w (mO m256 [] []) c N D (by omega) Tm256 404 1 oo 0 B (0 + lh (m.2 79) (m.2 80) (m.1 73)) ⟨by decide, by decide⟩ ⟨by decide, by decide⟩ (r32 (by omega) (by omega)) ⟨by decide, by decide⟩ (fun _ => ⟨(show 0 ≤ (404 : Int) ∧ (404 : Int) ≤ 408 by first | omega | decide), (show 0 ≤ (1 : Int) ∧ (1 : Int) ≤ 64 by first | omega | decide), (show 0 ≤ oo ∧ oo ≤ 191 by first | omega | decide), (show CNk (404 : Int) oo by first | exact hCk | (refine ⟨?_, ?_, ?_, ?_⟩ <;> omega)), (show ar (404 : Int) ≤ (0 + lh (m.2 79) (m.2 80) (m.1 73)) by first | exact hAr | omega), (show EX (m256.2 65) (m256.2 67) B (m256.1 28) (0 + lh (m.2 79) (m.2 80) (m.1 73)) by rewrite [(show (m256.2 65) = (m.2 65) from ((fr2 Fm256 65 rfl).trans (fr2 Fm240 65 rfl))), (show (m256.2 67) = (m.2 67) from ((fr2 Fm256 67 rfl).trans (fr2 Fm240 67 rfl))), (show (m256.1 28) = (m.1 28) from ((fr1 Fm256 28 rfl).trans (fr1 Fm240 28 rfl)))]; first | exact hEX | assumption)⟩)) (fun rr273 k274 => ?_)
                  obtain ⟨m275, Tm275, Fm275, h276, c277, rfl⟩ := k274
                  refine ⟨_, _, rfl, ?_⟩
                  refine T_nb (st' := []) rfl ?_
                  have g278 : 0 ≤ m275.1 10 ∧ m275.1 10 ≤ 8 := Tm275.1 10
                  have g279 : (-1) ≤ m275.1 11 ∧ m275.1 11 ≤ 4000 := Tm275.1 11
                  have g280 : 0 ≤ m275.1 28 ∧ m275.1 28 ≤ 800 := Tm275.1 28
                  by_cases hf281 : (m275.1 10) = 0
                  · skip
                    replace h276 : (m256.1 10) = 0 := h276 hf281
                    obtain ⟨c282, c283, c284⟩ := c277 hf281
                    replace c282 : (m275.1 28) = (m256.1 28) + 1 := c282
                    rewrite [(show (m256.1 28) = (m.1 28) from ((fr1 Fm256 28 rfl).trans (fr1 Fm240 28 rfl)))] at c282
                    replace c283 : EX (m275.2 65) (m275.2 67) B (m275.1 28) ((0 + lh (m.2 79) (m.2 80) (m.1 73)) + 1 - ar (404 : Int)) := c283
                    have hEX := c283
                    replace c284 : agr (m256.2 65) (m275.2 65) (m256.1 28) := c284
                    rewrite [(show (m256.2 65) = (m.2 65) from ((fr2 Fm256 65 rfl).trans (fr2 Fm240 65 rfl))), (show (m256.1 28) = (m.1 28) from ((fr1 Fm256 28 rfl).trans (fr1 Fm240 28 rfl)))] at c284
                    have hAg := c284
                    clear c277
                    have u285 : (m.1 8) + 1 ≤ (m256.1 8) := by omega
                    have hAgC : agr (m.2 65) (m275.2 65) (m.1 28) := by first | exact agr_r _ _ | exact hAgC | exact agr_t hAgC hAg (by omega)
                    have u286 : 1 ≤ (m.1 73) := by omega
                    clear g267 g268 h258 h276
                    refine T_ld 180 (.ref 189) rfl (fun _ => rfl) ?_
                    refine T_ld 181 (.int (i32 1)) rfl (fun _ => rfl) ?_
                    refine T_ld 182 (.int (i32 (m.1 8))) rfl (fun _ => rfl) ?_
                    refine T_call 185 249 [.ref 189, .int (i32 1), .int (i32 (m.1 8))] [] rfl (fun _ => rfl) rfl (c_atom w (mO m275 [] []) c N D (by omega) Tm275 1 (m.1 8) ⟨by decide, by decide⟩ (r32 (by omega) (by omega)) (show 0 ≤ (1 : Int) ∧ (1 : Int) ≤ 64 by omega) (show 0 ≤ (m.1 8) ∧ (m.1 8) ≤ 4000 by omega)) (fun rr287 k288 => ?_)
                    obtain ⟨m289, Tm289, Fm289, h290, rfl⟩ := k288
                    refine ⟨_, _, rfl, ?_⟩
                    refine T_nb (st' := []) rfl ?_
                    have g291 : 0 ≤ m289.1 69 ∧ m289.1 69 ≤ 1024 := Tm289.1 69
                    have g292 : 0 ≤ m289.1 75 ∧ m289.1 75 ≤ 3 := Tm289.1 75
                    replace h290 : (m275.1 10) = 0 → (m289.1 75) = 1 ∧ (m289.1 69) = (1 : Int) := h290
                    have u293 : (m.1 8) + 1 ≤ (m256.1 8) := by omega
                    have hAgC : agr (m.2 65) (m275.2 65) (m.1 28) := by first | exact agr_r _ _ | exact hAgC | exact agr_t hAgC hAg (by omega)
                    have u294 : 1 ≤ (m.1 73) := by omega
                    have hXE : XS (m275.2 65) (m275.2 67) (m.2 76) (m.2 78) (m.2 79) (m.2 80) B (m275.1 28) (m.1 73) (m.1 74) (um (m289.1 75)) := by
                      rw [show um (m289.1 75) = 1 from if_neg (by omega)]
                      exact XS_of hXS hEX (by rw [show ar 404 = 0 from rfl]; omega)
                    refine T_goto 219 rfl (fun _ => rfl) ?_
                    refine T_ret rfl (fun _ => rfl) ?_
                    exact ⟨(mO m289 [] []), Tm289, (fr_m (fr_s Fm289 (fr_m (fr_s Fm275 (fr_m (fr_s Fm256 (fr_m (fr_s Fm240 (fr_m fr_0 rfl rfl) rfl rfl) rfl rfl) rfl rfl) rfl rfl) rfl rfl) rfl rfl) rfl rfl) rfl rfl), (show (m289.1 10) = 0 → (m.1 10) = 0 by rewrite [(show (m289.1 10) = (m275.1 10) from (fr1 Fm289 10 rfl))]; omega), (show LxP (m289.1 7) (m289.1 8) (m289.1 9) (m.1 6) (m289.1 10) by rewrite [(show (m289.1 7) = (m256.1 7) from ((fr1 Fm289 7 rfl).trans (fr1 Fm275 7 rfl))), (show (m289.1 8) = (m256.1 8) from ((fr1 Fm289 8 rfl).trans (fr1 Fm275 8 rfl))), (show (m289.1 9) = (m256.1 9) from ((fr1 Fm289 9 rfl).trans (fr1 Fm275 9 rfl))), (show (m289.1 10) = (m275.1 10) from (fr1 Fm289 10 rfl))]; first | (first | exact hLx | exact (fun _ => hLx (by omega)) | (intro h9; exfalso; omega)) | (exfalso; omega)), (fun _ => ⟨(show (m.1 8) + 1 ≤ (m289.1 8) by rewrite [(show (m289.1 8) = (m256.1 8) from ((fr1 Fm289 8 rfl).trans (fr1 Fm275 8 rfl)))]; omega), (show (m289.1 75) = 0 ∨ ((m289.1 75) = 1 ∧ (m289.1 69) ≤ 64) by omega), (show 1 ≤ (m289.1 73) by rewrite [(show (m289.1 73) = (m.1 73) from ((fr1 Fm289 73 rfl).trans ((fr1 Fm275 73 rfl).trans ((fr1 Fm256 73 rfl).trans (fr1 Fm240 73 rfl)))))]; omega), (show (m.1 28) ≤ (m289.1 28) by rewrite [(show (m289.1 28) = (m275.1 28) from (fr1 Fm289 28 rfl))]; omega), (show XS (m289.2 65) (m289.2 67) (m289.2 76) (m289.2 78) (m289.2 79) (m289.2 80) B (m289.1 28) (m289.1 73) (m289.1 74) (um (m289.1 75)) by rewrite [(show (m289.2 65) = (m275.2 65) from (fr2 Fm289 65 rfl)), (show (m289.2 67) = (m275.2 67) from (fr2 Fm289 67 rfl)), (show (m289.2 76) = (m.2 76) from ((fr2 Fm289 76 rfl).trans ((fr2 Fm275 76 rfl).trans ((fr2 Fm256 76 rfl).trans (fr2 Fm240 76 rfl))))), (show (m289.2 78) = (m.2 78) from ((fr2 Fm289 78 rfl).trans ((fr2 Fm275 78 rfl).trans ((fr2 Fm256 78 rfl).trans (fr2 Fm240 78 rfl))))), (show (m289.2 79) = (m.2 79) from ((fr2 Fm289 79 rfl).trans ((fr2 Fm275 79 rfl).trans ((fr2 Fm256 79 rfl).trans (fr2 Fm240 79 rfl))))), (show (m289.2 80) = (m.2 80) from ((fr2 Fm289 80 rfl).trans ((fr2 Fm275 80 rfl).trans ((fr2 Fm256 80 rfl).trans (fr2 Fm240 80 rfl))))), (show (m289.1 28) = (m275.1 28) from (fr1 Fm289 28 rfl)), (show (m289.1 73) = (m.1 73) from ((fr1 Fm289 73 rfl).trans ((fr1 Fm275 73 rfl).trans ((fr1 Fm256 73 rfl).trans (fr1 Fm240 73 rfl))))), (show (m289.1 74) = (m.1 74) from ((fr1 Fm289 74 rfl).trans ((fr1 Fm275 74 rfl).trans ((fr1 Fm256 74 rfl).trans (fr1 Fm240 74 rfl)))))]; first | (exact hXE) | (exfalso; omega)), (show agr (m.2 65) (m289.2 65) (m.1 28) by rewrite [(show (m289.2 65) = (m275.2 65) from (fr2 Fm289 65 rfl))]; first | (exact hAgC) | (exfalso; omega))⟩), rfl⟩
                  · skip
                    clear c277
                    clear h276
                    have hf295 : 1 ≤ (m275.1 10) := by omega
                    clear g267 g268 h258
                    refine Tm_lv (a := [(0, .ref 189), (1, .int (i32 (m.1 8))), (2, .int (i32 oo))]) rfl rfl ⟨rfl, rfl, rfl, trivial⟩ ?_
                    exact J179_25 oo (mO m275 [] []) (r32 (by omega) (by omega)) Tm275 (fr_m (fr_s Fm275 (fr_m (fr_s Fm256 (fr_m (fr_s Fm240 (fr_m fr_0 rfl rfl) rfl rfl) rfl rfl) rfl rfl) rfl rfl) rfl rfl) rfl rfl) (show 0 ≤ oo by omega) (show oo ≤ 11 by omega) (show 0 ≤ (m.1 8) ∧ (m.1 8) ≤ 4000 by omega) (show 1 ≤ (m275.1 10) by omega)
                · skip
                  replace h258 : LxP (m256.1 7) (m256.1 8) (m256.1 9) (m240.1 6) (m256.1 10) := h258
                  rewrite [(show (m240.1 6) = (m.1 6) from (fr1 Fm240 6 rfl))] at h258
                  have hLx := h258
                  replace h259 : (m240.1 8) ≤ (m256.1 8) := h259
                  clear h260
                  clear h261
                  replace h262 : 0 ≤ oo ∧ (oo < 12 ∨ oo = 0) := h262
                  clear h263
                  have hf296 : 1 ≤ (m256.1 10) := by omega
                  clear g245 g246 g247 g248 g249 g250 h241 h243 h244 u252 h259
                  refine Tm_lv (a := [(0, .ref 189), (1, .int (i32 (m.1 8)))]) rfl rfl ⟨rfl, rfl, trivial⟩ ?_
                  exact J168_42 oo (mO m256 [] []) (r32 (by omega) (by omega)) Tm256 (fr_m (fr_s Fm256 (fr_m (fr_s Fm240 (fr_m fr_0 rfl rfl) rfl rfl) rfl rfl) rfl rfl) rfl rfl) (show 0 ≤ oo by omega) (show oo ≤ 11 by omega) (show 0 ≤ (m.1 8) ∧ (m.1 8) ≤ 4000 by omega) (show 1 ≤ (m256.1 10) by omega)
              · skip
                replace h241 : LxP (m240.1 7) (m240.1 8) (m240.1 9) (m.1 6) (m240.1 10) := h241
                have hLx := h241
                clear h242
                replace h243 : (m.1 8) ≤ (m240.1 8) := h243
                clear h244
                have hf297 : 1 ≤ (m240.1 10) := by omega
                refine T_ld 164 (.ref 189) rfl (fun _ => rfl) ?_
                refine T_ld 165 (.int (i32 2)) rfl (fun _ => rfl) ?_
                refine T_call 168 236 [.ref 189, .int (i32 2)] [] rfl (fun _ => rfl) rfl (d_oldName w (mO m240 [] []) c N D (by omega) Tm240 2 12 ⟨by decide, by decide⟩ (show LxP (m240.1 7) (m240.1 8) (m240.1 9) (m240.1 6) (m240.1 10) by rewrite [(show (m240.1 6) = (m.1 6) from (fr1 Fm240 6 rfl))]; first | exact hLx | (intro h9; exfalso; omega) | (intro h9; have h8 := hLx (by omega); omega)) (show ∀ k, (m240.2 14) k + (m240.2 15) k ≤ 4000 by rewrite [(show (m240.2 14) = (m.2 14) from (fr2 Fm240 14 rfl)), (show (m240.2 15) = (m.2 15) from (fr2 Fm240 15 rfl))]; first | exact p1 | exact hNM) (show 1 ≤ (2 : Int) ∧ (2 : Int) ≤ 7 ∧ (2 : Int) ≠ 5 by omega) (show 12 ≤ 16 by omega) (show (m240.1 10) = 0 → ∀ k, 0 ≤ k → k < (m240.1 13) → (m240.2 16) k = (2 : Int) → 0 ≤ (m240.2 17) k ∧ (m240.2 17) k < 12 by rewrite [(show (m240.1 13) = (m.1 13) from (fr1 Fm240 13 rfl)), (show (m240.2 16) = (m.2 16) from (fr2 Fm240 16 rfl)), (show (m240.2 17) = (m.2 17) from (fr2 Fm240 17 rfl))]; first | exact hOL | (intro h; exfalso; omega)) (show (2 : Int) = 3 → 3 ≤ 12 by omega)) (fun rr298 k299 => ?_)
                obtain ⟨m300, oo, Tm300, Fm300, g301, h302, h303, h304, h305, h306, h307, rfl⟩ := k299
                refine ⟨_, _, rfl, ?_⟩
                refine T_nb (st' := [.int (i32 oo)]) rfl ?_
                obtain ⟨g301a, g301b⟩ := g301
                have g308 : 0 ≤ m300.1 7 ∧ m300.1 7 ≤ 330 := Tm300.1 7
                have g309 : 0 ≤ m300.1 8 ∧ m300.1 8 ≤ 4000 := Tm300.1 8
                have g310 : 0 ≤ m300.1 9 ∧ m300.1 9 ≤ 4000 := Tm300.1 9
                have g311 : 0 ≤ m300.1 10 ∧ m300.1 10 ≤ 8 := Tm300.1 10
                have g312 : (-1) ≤ m300.1 11 ∧ m300.1 11 ≤ 4000 := Tm300.1 11
                have g313 : (-9223372036854775808) ≤ m300.1 12 ∧ m300.1 12 ≤ 9223372036854775807 := Tm300.1 12
                replace h302 : LxP (m300.1 7) (m300.1 8) (m300.1 9) (m240.1 6) (m300.1 10) := h302
                rewrite [(show (m240.1 6) = (m.1 6) from (fr1 Fm240 6 rfl))] at h302
                replace h303 : (m240.1 8) ≤ (m300.1 8) := h303
                replace h304 : (m300.1 10) = 0 → (m240.1 10) = 0 ∧ (m240.1 8) + (m240.1 9) ≤ (m300.1 8) := h304
                replace h305 : (m300.1 10) = 0 → (m240.1 7) = 1 := h305
                replace h306 : 0 ≤ oo ∧ (oo < 12 ∨ oo = 0) := h306
                replace h307 : (m300.1 10) = 0 → oo < 12 := h307
                have hf314 : 1 ≤ (m300.1 10) := by omega
                clear h304
                clear h305
                clear h307
                have hLx := h302
                clear g245 g246 g247 g248 g249 g250 h241 h243 hf297 h303
                refine Tm_lv (a := [(0, .ref 189), (1, .int (i32 (m.1 8)))]) rfl rfl ⟨rfl, rfl, trivial⟩ ?_
                exact J168_42 oo (mO m300 [] []) (r32 (by omega) (by omega)) Tm300 (fr_m (fr_s Fm300 (fr_m (fr_s Fm240 (fr_m fr_0 rfl rfl) rfl rfl) rfl rfl) rfl rfl) rfl rfl) (show 0 ≤ oo by omega) (show oo ≤ 11 by omega) (show 0 ≤ (m.1 8) ∧ (m.1 8) ≤ 4000 by omega) (show 1 ≤ (m300.1 10) by omega)
          · skip
            refine T_ld 142 (.ref 189) rfl (fun _ => rfl) ?_
            refine T_ld 143 (.int (i32 (m.1 8))) rfl (fun _ => rfl) ?_
            refine T_call 146 251 [.ref 189, .int (i32 (m.1 8))] [] rfl (fun _ => rfl) rfl (c_takeName w (mO m [] []) c N D (by omega) hT (m.1 8) B (0 + lh (m.2 79) (m.2 80) (m.1 73)) (r32 (by omega) (by omega)) (show LxP (m.1 7) (m.1 8) (m.1 9) (m.1 6) (m.1 10) by first | exact hLx | exact (fun _ => hLx (by omega)) | (intro h9; exfalso; omega)) (show ∀ k, (m.2 14) k + (m.2 15) k ≤ 4000 by assumption) (show ∀ k, (m.2 31) k + (m.2 32) k ≤ 4000 by assumption) (show ∀ k, (m.2 47) k + (m.2 48) k ≤ 4000 by assumption) (show 0 ≤ (m.1 8) ∧ (m.1 8) ≤ 4000 by omega) (show (m.1 10) = 0 by omega) ⟨(show PN (m.1 13) (m.1 19) (m.1 20) (m.1 21) (m.1 22) (m.1 23) (m.1 25) (m.1 26) (m.2 16) (m.2 17) by assumption), (show (m.1 7) = 1 by omega), (show EX (m.2 65) (m.2 67) B (m.1 28) (0 + lh (m.2 79) (m.2 80) (m.1 73)) by exact hEX), (show 0 ≤ (0 + lh (m.2 79) (m.2 80) (m.1 73)) by omega)⟩) (fun rr315 k316 => ?_)
            obtain ⟨m317, Tm317, Fm317, h318, h319, c320, rfl⟩ := k316
            refine ⟨_, _, rfl, ?_⟩
            refine T_nb (st' := []) rfl ?_
            have g321 : 0 ≤ m317.1 7 ∧ m317.1 7 ≤ 330 := Tm317.1 7
            have g322 : 0 ≤ m317.1 8 ∧ m317.1 8 ≤ 4000 := Tm317.1 8
            have g323 : 0 ≤ m317.1 9 ∧ m317.1 9 ≤ 4000 := Tm317.1 9
            have g324 : 0 ≤ m317.1 10 ∧ m317.1 10 ≤ 8 := Tm317.1 10
            have g325 : (-1) ≤ m317.1 11 ∧ m317.1 11 ≤ 4000 := Tm317.1 11
            have g326 : (-9223372036854775808) ≤ m317.1 12 ∧ m317.1 12 ≤ 9223372036854775807 := Tm317.1 12
            have g327 : 0 ≤ m317.1 28 ∧ m317.1 28 ≤ 800 := Tm317.1 28
            have g328 : 0 ≤ m317.1 69 ∧ m317.1 69 ≤ 1024 := Tm317.1 69
            have g329 : 0 ≤ m317.1 75 ∧ m317.1 75 ≤ 3 := Tm317.1 75
            by_cases hf330 : (m317.1 10) = 0
            · skip
              replace h318 : (m.1 10) = 0 := h318 hf330
              replace h319 : LxP (m317.1 7) (m317.1 8) (m317.1 9) (m.1 6) (m317.1 10) := h319
              have hLx := h319
              obtain ⟨c331, c332, c333, c334, c335, c336⟩ := c320 hf330
              replace c331 : (m.1 8) + 1 ≤ (m317.1 8) := c331
              replace c332 : (m317.1 75) = 1 := c332
              replace c333 : (m317.1 69) ≤ 64 := c333
              replace c334 : (m317.1 28) = (m.1 28) + 1 := c334
              replace c335 : EX (m317.2 65) (m317.2 67) B (m317.1 28) ((0 + lh (m.2 79) (m.2 80) (m.1 73)) + 1) := c335
              have hEX := c335
              replace c336 : agr (m.2 65) (m317.2 65) (m.1 28) := c336
              have hAg := c336
              clear c320
              have u337 : (m.1 8) + 1 ≤ (m317.1 8) := by omega
              have hAgC : agr (m.2 65) (m317.2 65) (m.1 28) := by first | exact agr_r _ _ | exact hAgC | exact agr_t hAgC hAg (by omega)
              have u338 : 1 ≤ (m.1 73) := by omega
              have hXE : XS (m317.2 65) (m317.2 67) (m.2 76) (m.2 78) (m.2 79) (m.2 80) B (m317.1 28) (m.1 73) (m.1 74) (um (m317.1 75)) := by
                rw [show um (m317.1 75) = 1 from if_neg (by omega)]
                exact XS_of hXS hEX (by omega)
              refine T_goto 219 rfl (fun _ => rfl) ?_
              refine T_ret rfl (fun _ => rfl) ?_
              exact ⟨(mO m317 [] []), Tm317, (fr_m (fr_s Fm317 (fr_m fr_0 rfl rfl) rfl rfl) rfl rfl), (show (m317.1 10) = 0 → (m.1 10) = 0 by omega), (show LxP (m317.1 7) (m317.1 8) (m317.1 9) (m.1 6) (m317.1 10) by first | (first | exact hLx | exact (fun _ => hLx (by omega)) | (intro h9; exfalso; omega)) | (exfalso; omega)), (fun _ => ⟨(show (m.1 8) + 1 ≤ (m317.1 8) by omega), (show (m317.1 75) = 0 ∨ ((m317.1 75) = 1 ∧ (m317.1 69) ≤ 64) by omega), (show 1 ≤ (m317.1 73) by rewrite [(show (m317.1 73) = (m.1 73) from (fr1 Fm317 73 rfl))]; omega), (show (m.1 28) ≤ (m317.1 28) by omega), (show XS (m317.2 65) (m317.2 67) (m317.2 76) (m317.2 78) (m317.2 79) (m317.2 80) B (m317.1 28) (m317.1 73) (m317.1 74) (um (m317.1 75)) by rewrite [(show (m317.2 76) = (m.2 76) from (fr2 Fm317 76 rfl)), (show (m317.2 78) = (m.2 78) from (fr2 Fm317 78 rfl)), (show (m317.2 79) = (m.2 79) from (fr2 Fm317 79 rfl)), (show (m317.2 80) = (m.2 80) from (fr2 Fm317 80 rfl)), (show (m317.1 73) = (m.1 73) from (fr1 Fm317 73 rfl)), (show (m317.1 74) = (m.1 74) from (fr1 Fm317 74 rfl))]; first | (exact hXE) | (exfalso; omega)), (show agr (m.2 65) (m317.2 65) (m.1 28) by first | (exact hAgC) | (exfalso; omega))⟩), rfl⟩
            · skip
              clear c320
              clear h318
              replace h319 : LxP (m317.1 7) (m317.1 8) (m317.1 9) (m.1 6) (m317.1 10) := h319
              have hLx := h319
              have hf339 : 1 ≤ (m317.1 10) := by omega
              refine T_goto 219 rfl (fun _ => rfl) ?_
              refine T_ret rfl (fun _ => rfl) ?_
              exact ⟨(mO m317 [] []), Tm317, (fr_m (fr_s Fm317 (fr_m fr_0 rfl rfl) rfl rfl) rfl rfl), (show (m317.1 10) = 0 → (m.1 10) = 0 by omega), (show LxP (m317.1 7) (m317.1 8) (m317.1 9) (m.1 6) (m317.1 10) by first | (first | exact hLx | exact (fun _ => hLx (by omega)) | (intro h9; exfalso; omega)) | (exfalso; omega)), (fun (h : (m317.1 10) = 0) => absurd h (by omega)), rfl⟩
        · skip
          refine T_gf 97 (.long (i64 (m.1 12))) rfl rfl rfl rfl rfl rfl ?_
          refine T_sto 98 [(2, .long (i64 (m.1 12))), (1, .int (i32 (m.1 8))), (0, .ref 189)] rfl (fun _ => rfl) ?_
          refine T_ld 99 (.ref 189) rfl (fun _ => rfl) ?_
          refine T_call 102 212 [.ref 189] [] rfl (fun _ => rfl) rfl (d_next w (mO m [] []) c N D (by omega) hT (show (m.1 10) = 0 → (m.1 8) + (m.1 9) ≤ (m.1 6) by first | omega | (intro h9; have h8 := hLx h9; omega))) (fun rr340 k341 => ?_)
          obtain ⟨m342, Tm342, Fm342, h343, h344, h345, h346, rfl⟩ := k341
          refine ⟨_, _, rfl, ?_⟩
          refine T_nb (st' := []) rfl ?_
          have g347 : 0 ≤ m342.1 7 ∧ m342.1 7 ≤ 330 := Tm342.1 7
          have g348 : 0 ≤ m342.1 8 ∧ m342.1 8 ≤ 4000 := Tm342.1 8
          have g349 : 0 ≤ m342.1 9 ∧ m342.1 9 ≤ 4000 := Tm342.1 9
          have g350 : 0 ≤ m342.1 10 ∧ m342.1 10 ≤ 8 := Tm342.1 10
          have g351 : (-1) ≤ m342.1 11 ∧ m342.1 11 ≤ 4000 := Tm342.1 11
          have g352 : (-9223372036854775808) ≤ m342.1 12 ∧ m342.1 12 ≤ 9223372036854775807 := Tm342.1 12
          by_cases hf353 : (m342.1 10) = 0
          · skip
            replace h343 : LxP (m342.1 7) (m342.1 8) (m342.1 9) (m.1 6) (m342.1 10) := h343
            have hLx := h343
            replace h344 : (m.1 10) = 0 := h344 hf353
            replace h345 : (m.1 8) ≤ (m342.1 8) := h345
            replace h346 : (m.1 8) + (m.1 9) ≤ (m342.1 8) := h346 hf353
            have u354 : (m.1 8) + 1 ≤ (m342.1 8) := by omega
            have hAgC : agr (m.2 65) (m.2 65) (m.1 28) := by first | exact agr_r _ _ | exact hAgC | exact agr_t hAgC hAg (by omega)
            have u355 : 1 ≤ (m.1 73) := by omega
            have hAr : ar 400 ≤ 0 + lh (m.2 79) (m.2 80) (m.1 73) := by rw [show ar 400 = 0 from rfl]; omega
            have hCk : CNk 400 0 := by refine ⟨?_, ?_, ?_, ?_⟩ <;> omega
            refine T_ld 103 (.ref 189) rfl (fun _ => rfl) ?_
            refine T_ld 106 (.int (i32 400)) rfl (fun _ => rfl) ?_
            refine T_ld 108 (.int (i32 64)) rfl (fun _ => rfl) ?_
            refine T_ld 109 (.int (i32 0)) rfl (fun _ => rfl) ?_
            refine T_ld 110 (.long (i64 (m.1 12))) rfl (fun _ => rfl) ?_
            refine T_call 113 248 [.ref 189, .int (i32 400), .int (i32 64), .int (i32 0), .long (i64 (m.1 12))] [] rfl (fun _ => rfl) rfl (c_node w (mO m342 [] []) c N D (by omega) Tm342 400 64 0 (m.1 12) B (0 + lh (m.2 79) (m.2 80) (m.1 73)) ⟨by decide, by decide⟩ ⟨by decide, by decide⟩ ⟨by decide, by decide⟩ (r64 (by omega) (by omega)) (fun _ => ⟨(show 0 ≤ (400 : Int) ∧ (400 : Int) ≤ 408 by first | omega | decide), (show 0 ≤ (64 : Int) ∧ (64 : Int) ≤ 64 by first | omega | decide), (show 0 ≤ (0 : Int) ∧ (0 : Int) ≤ 191 by first | omega | decide), (show CNk (400 : Int) (0 : Int) by first | exact hCk | (refine ⟨?_, ?_, ?_, ?_⟩ <;> omega)), (show ar (400 : Int) ≤ (0 + lh (m.2 79) (m.2 80) (m.1 73)) by first | exact hAr | omega), (show EX (m342.2 65) (m342.2 67) B (m342.1 28) (0 + lh (m.2 79) (m.2 80) (m.1 73)) by rewrite [(show (m342.2 65) = (m.2 65) from (fr2 Fm342 65 rfl)), (show (m342.2 67) = (m.2 67) from (fr2 Fm342 67 rfl)), (show (m342.1 28) = (m.1 28) from (fr1 Fm342 28 rfl))]; first | exact hEX | assumption)⟩)) (fun rr356 k357 => ?_)
            obtain ⟨m358, Tm358, Fm358, h359, c360, rfl⟩ := k357
            refine ⟨_, _, rfl, ?_⟩
            refine T_nb (st' := []) rfl ?_
            have g361 : 0 ≤ m358.1 10 ∧ m358.1 10 ≤ 8 := Tm358.1 10
            have g362 : (-1) ≤ m358.1 11 ∧ m358.1 11 ≤ 4000 := Tm358.1 11
            have g363 : 0 ≤ m358.1 28 ∧ m358.1 28 ≤ 800 := Tm358.1 28
            by_cases hf364 : (m358.1 10) = 0
            · skip
              replace h359 : (m342.1 10) = 0 := h359 hf364
              obtain ⟨c365, c366, c367⟩ := c360 hf364
              replace c365 : (m358.1 28) = (m342.1 28) + 1 := c365
              rewrite [(show (m342.1 28) = (m.1 28) from (fr1 Fm342 28 rfl))] at c365
              replace c366 : EX (m358.2 65) (m358.2 67) B (m358.1 28) ((0 + lh (m.2 79) (m.2 80) (m.1 73)) + 1 - ar (400 : Int)) := c366
              have hEX := c366
              replace c367 : agr (m342.2 65) (m358.2 65) (m342.1 28) := c367
              rewrite [(show (m342.2 65) = (m.2 65) from (fr2 Fm342 65 rfl)), (show (m342.1 28) = (m.1 28) from (fr1 Fm342 28 rfl))] at c367
              have hAg := c367
              clear c360
              have u368 : (m.1 8) + 1 ≤ (m342.1 8) := by omega
              have hAgC : agr (m.2 65) (m358.2 65) (m.1 28) := by first | exact agr_r _ _ | exact hAgC | exact agr_t hAgC hAg (by omega)
              have u369 : 1 ≤ (m.1 73) := by omega
              clear g350 g351 h343 h359
              refine T_ld 114 (.ref 189) rfl (fun _ => rfl) ?_
              refine T_ld 116 (.int (i32 64)) rfl (fun _ => rfl) ?_
              refine T_ld 117 (.int (i32 (m.1 8))) rfl (fun _ => rfl) ?_
              refine T_call 120 249 [.ref 189, .int (i32 64), .int (i32 (m.1 8))] [] rfl (fun _ => rfl) rfl (c_atom w (mO m358 [] []) c N D (by omega) Tm358 64 (m.1 8) ⟨by decide, by decide⟩ (r32 (by omega) (by omega)) (show 0 ≤ (64 : Int) ∧ (64 : Int) ≤ 64 by omega) (show 0 ≤ (m.1 8) ∧ (m.1 8) ≤ 4000 by omega)) (fun rr370 k371 => ?_)
              obtain ⟨m372, Tm372, Fm372, h373, rfl⟩ := k371
              refine ⟨_, _, rfl, ?_⟩
              refine T_nb (st' := []) rfl ?_
              have g374 : 0 ≤ m372.1 69 ∧ m372.1 69 ≤ 1024 := Tm372.1 69
              have g375 : 0 ≤ m372.1 75 ∧ m372.1 75 ≤ 3 := Tm372.1 75
              replace h373 : (m358.1 10) = 0 → (m372.1 75) = 1 ∧ (m372.1 69) = (64 : Int) := h373
              have u376 : (m.1 8) + 1 ≤ (m342.1 8) := by omega
              have hAgC : agr (m.2 65) (m358.2 65) (m.1 28) := by first | exact agr_r _ _ | exact hAgC | exact agr_t hAgC hAg (by omega)
              have u377 : 1 ≤ (m.1 73) := by omega
              refine T_ld 121 (.ref 189) rfl (fun _ => rfl) ?_
              refine T_ld 122 (.int (i32 1)) rfl (fun _ => rfl) ?_
              refine T_pf (l' := [(71, 1)]) 125 1 rfl rfl rfl rfl rfl rfl ?_
              refine T_ld 126 (.ref 189) rfl (fun _ => rfl) ?_
              refine T_ld 127 (.long (i64 (m.1 12))) rfl (fun _ => rfl) ?_
              refine T_pf (l' := [(71, 1), (72, (m.1 12))]) 130 (m.1 12) rfl rfl rfl rfl rfl rfl ?_
              have g378 : (-9223372036854775808) ≤ (m.1 12) ∧ (m.1 12) ≤ 9223372036854775807 := ⟨by omega, by omega⟩
              have hXE : XS (m358.2 65) (m358.2 67) (m.2 76) (m.2 78) (m.2 79) (m.2 80) B (m358.1 28) (m.1 73) (m.1 74) (um (m372.1 75)) := by
                rw [show um (m372.1 75) = 1 from if_neg (by omega)]
                exact XS_of hXS hEX (by rw [show ar 400 = 0 from rfl]; omega)
              refine T_goto 219 rfl (fun _ => rfl) ?_
              refine T_ret rfl (fun _ => rfl) ?_
              exact ⟨(mO m372 [(71, 1), (72, (m.1 12))] []), (Ty_mO Tm372 rfl rfl ⟨⟨(by omega : (0 : Int) ≤ 1), (by omega : (1 : Int) ≤ 1)⟩, g378, trivial⟩ trivial), (fr_m (fr_s Fm372 (fr_m (fr_s Fm358 (fr_m (fr_s Fm342 (fr_m fr_0 rfl rfl) rfl rfl) rfl rfl) rfl rfl) rfl rfl) rfl rfl) rfl rfl), (show (m372.1 10) = 0 → (m.1 10) = 0 by rewrite [(show (m372.1 10) = (m358.1 10) from (fr1 Fm372 10 rfl))]; omega), (show LxP (m372.1 7) (m372.1 8) (m372.1 9) (m.1 6) (m372.1 10) by rewrite [(show (m372.1 7) = (m342.1 7) from ((fr1 Fm372 7 rfl).trans (fr1 Fm358 7 rfl))), (show (m372.1 8) = (m342.1 8) from ((fr1 Fm372 8 rfl).trans (fr1 Fm358 8 rfl))), (show (m372.1 9) = (m342.1 9) from ((fr1 Fm372 9 rfl).trans (fr1 Fm358 9 rfl))), (show (m372.1 10) = (m358.1 10) from (fr1 Fm372 10 rfl))]; first | (first | exact hLx | exact (fun _ => hLx (by omega)) | (intro h9; exfalso; omega)) | (exfalso; omega)), (fun _ => ⟨(show (m.1 8) + 1 ≤ (m372.1 8) by rewrite [(show (m372.1 8) = (m342.1 8) from ((fr1 Fm372 8 rfl).trans (fr1 Fm358 8 rfl)))]; omega), (show (m372.1 75) = 0 ∨ ((m372.1 75) = 1 ∧ (m372.1 69) ≤ 64) by omega), (show 1 ≤ (m372.1 73) by rewrite [(show (m372.1 73) = (m.1 73) from ((fr1 Fm372 73 rfl).trans ((fr1 Fm358 73 rfl).trans (fr1 Fm342 73 rfl))))]; omega), (show (m.1 28) ≤ (m372.1 28) by rewrite [(show (m372.1 28) = (m358.1 28) from (fr1 Fm372 28 rfl))]; omega), (show XS (m372.2 65) (m372.2 67) (m372.2 76) (m372.2 78) (m372.2 79) (m372.2 80) B (m372.1 28) (m372.1 73) (m372.1 74) (um (m372.1 75)) by rewrite [(show (m372.2 65) = (m358.2 65) from (fr2 Fm372 65 rfl)), (show (m372.2 67) = (m358.2 67) from (fr2 Fm372 67 rfl)), (show (m372.2 76) = (m.2 76) from ((fr2 Fm372 76 rfl).trans ((fr2 Fm358 76 rfl).trans (fr2 Fm342 76 rfl)))), (show (m372.2 78) = (m.2 78) from ((fr2 Fm372 78 rfl).trans ((fr2 Fm358 78 rfl).trans (fr2 Fm342 78 rfl)))), (show (m372.2 79) = (m.2 79) from ((fr2 Fm372 79 rfl).trans ((fr2 Fm358 79 rfl).trans (fr2 Fm342 79 rfl)))), (show (m372.2 80) = (m.2 80) from ((fr2 Fm372 80 rfl).trans ((fr2 Fm358 80 rfl).trans (fr2 Fm342 80 rfl)))), (show (m372.1 28) = (m358.1 28) from (fr1 Fm372 28 rfl)), (show (m372.1 73) = (m.1 73) from ((fr1 Fm372 73 rfl).trans ((fr1 Fm358 73 rfl).trans (fr1 Fm342 73 rfl)))), (show (m372.1 74) = (m.1 74) from ((fr1 Fm372 74 rfl).trans ((fr1 Fm358 74 rfl).trans (fr1 Fm342 74 rfl))))]; first | (exact hXE) | (exfalso; omega)), (show agr (m.2 65) (m372.2 65) (m.1 28) by rewrite [(show (m372.2 65) = (m358.2 65) from (fr2 Fm372 65 rfl))]; first | (exact hAgC) | (exfalso; omega))⟩), rfl⟩
            · skip
              clear c360
              clear h359
              have hf379 : 1 ≤ (m358.1 10) := by omega
              clear g350 g351 h343
              refine Tm_lv (a := [(0, .ref 189), (1, .int (i32 (m.1 8))), (2, .long (i64 (m.1 12)))]) rfl rfl ⟨rfl, rfl, rfl, trivial⟩ ?_
              exact J113_61 (mO m358 [] []) Tm358 (fr_m (fr_s Fm358 (fr_m (fr_s Fm342 (fr_m fr_0 rfl rfl) rfl rfl) rfl rfl) rfl rfl) rfl rfl) (show 0 ≤ (m.1 8) ∧ (m.1 8) ≤ 4000 by omega) (show 1 ≤ (m358.1 10) by omega)
          · skip
            replace h343 : LxP (m342.1 7) (m342.1 8) (m342.1 9) (m.1 6) (m342.1 10) := h343
            have hLx := h343
            clear h344
            replace h345 : (m.1 8) ≤ (m342.1 8) := h345
            clear h346
            have hf380 : 1 ≤ (m342.1 10) := by omega
            refine T_ld 103 (.ref 189) rfl (fun _ => rfl) ?_
            refine T_ld 106 (.int (i32 400)) rfl (fun _ => rfl) ?_
            refine T_ld 108 (.int (i32 64)) rfl (fun _ => rfl) ?_
            refine T_ld 109 (.int (i32 0)) rfl (fun _ => rfl) ?_
            refine T_ld 110 (.long (i64 (m.1 12))) rfl (fun _ => rfl) ?_
            refine T_call 113 248 [.ref 189, .int (i32 400), .int (i32 64), .int (i32 0), .long (i64 (m.1 12))] [] rfl (fun _ => rfl) rfl (c_node w (mO m342 [] []) c N D (by omega) Tm342 400 64 0 (m.1 12) B (0 + lh (m.2 79) (m.2 80) (m.1 73)) ⟨by decide, by decide⟩ ⟨by decide, by decide⟩ ⟨by decide, by decide⟩ (r64 (by omega) (by omega)) (fun (h : (m342.1 10) = 0) => absurd h (by omega))) (fun rr381 k382 => ?_)
            obtain ⟨m383, Tm383, Fm383, h384, c385, rfl⟩ := k382
            refine ⟨_, _, rfl, ?_⟩
            refine T_nb (st' := []) rfl ?_
            have g386 : 0 ≤ m383.1 10 ∧ m383.1 10 ≤ 8 := Tm383.1 10
            have g387 : (-1) ≤ m383.1 11 ∧ m383.1 11 ≤ 4000 := Tm383.1 11
            have g388 : 0 ≤ m383.1 28 ∧ m383.1 28 ≤ 800 := Tm383.1 28
            replace h384 : (m383.1 10) = 0 → (m342.1 10) = 0 := h384
            have hf389 : 1 ≤ (m383.1 10) := by omega
            clear c385
            clear h384
            clear g350 g351 h343 hf380
            refine Tm_lv (a := [(0, .ref 189), (1, .int (i32 (m.1 8))), (2, .long (i64 (m.1 12)))]) rfl rfl ⟨rfl, rfl, rfl, trivial⟩ ?_
            exact J113_61 (mO m383 [] []) Tm383 (fr_m (fr_s Fm383 (fr_m (fr_s Fm342 (fr_m fr_0 rfl rfl) rfl rfl) rfl rfl) rfl rfl) rfl rfl) (show 0 ≤ (m.1 8) ∧ (m.1 8) ≤ 4000 by omega) (show 1 ≤ (m383.1 10) by omega)
      · skip
        refine T_gf 36 (.int (i32 (m.1 74))) rfl rfl rfl rfl rfl rfl ?_
        refine T_ld 38 (.int (i32 24)) rfl (fun _ => rfl) ?_
        refine T_icmp 50 41 rfl rfl rfl (r32 (by omega) (by omega)) ⟨by decide, by decide⟩ (fun (h390 : (m.1 74) ≠ 24) => ?_) (fun (h390 : ¬ ((m.1 74) ≠ 24)) => ?_)
        · skip
          refine T_gf 54 (.int (i32 (m.1 10))) rfl rfl rfl rfl rfl rfl ?_
          refine T_if 58 57 rfl rfl rfl (r32 (by omega) (by omega)) (fun (h391 : (m.1 10) ≤ 0) => ?_) (fun (h391 : ¬ ((m.1 10) ≤ 0)) => by exfalso; omega)
          refine T_ld 59 (.ref 189) rfl (fun _ => rfl) ?_
          refine T_ld 60 (.ref 189) rfl (fun _ => rfl) ?_
          refine T_gf1 63 (.int (i32 (m.1 74))) rfl rfl rfl rfl ?_
          refine T_ld 64 (.int (i32 1)) rfl (fun _ => rfl) ?_
          refine T_iadd 65 rfl rfl ?_
          refine T_pf (l' := [(74, (m.1 74) + 1)]) 68 ((m.1 74) + 1) rfl rfl rfl rfl rfl rfl ?_
          have g392 : 0 ≤ (m.1 74) + 1 ∧ (m.1 74) + 1 ≤ 24 := ⟨by omega, by omega⟩
          refine T_ld 69 (.ref 189) rfl (fun _ => rfl) ?_
          refine T_ld 70 (.int (i32 1)) rfl (fun _ => rfl) ?_
          refine T_ld 71 (.int (i32 (m.1 8))) rfl (fun _ => rfl) ?_
          refine T_gf 75 (.int (i32 (m.1 7))) rfl rfl rfl rfl rfl rfl ?_
          refine T_call 78 246 [.ref 189, .int (i32 1), .int (i32 (m.1 8)), .int (i32 (m.1 7))] [] rfl (fun _ => rfl) rfl (c_open w (mO m [(74, (m.1 74) + 1)] []) c N D (by omega) (Ty_mO hT rfl rfl ⟨g392, trivial⟩ trivial) 1 (m.1 8) (m.1 7) ⟨by decide, by decide⟩ (r32 (by omega) (by omega)) (r32 (by omega) (by omega)) (show (m.1 73) ≤ 59 by omega) (show 0 ≤ (1 : Int) ∧ (1 : Int) ≤ 2 by omega) (show 0 ≤ (m.1 8) ∧ (m.1 8) ≤ 4000 by omega) (show 0 ≤ (m.1 7) ∧ (m.1 7) ≤ 330 by omega)) (fun rr393 k394 => ?_)
          obtain ⟨m395, Tm395, Fm395, h396, h397, h398, h399, h400, h401, rfl⟩ := k394
          refine ⟨_, _, rfl, ?_⟩
          refine T_nb (st' := []) rfl ?_
          have g402 : 0 ≤ m395.1 73 ∧ m395.1 73 ≤ 60 := Tm395.1 73
          replace h396 : (m395.1 73) = (m.1 73) + 1 := h396
          have hO0 := h396
          replace h397 : (m395.2 76) = upI (m.2 76) (m.1 73) (1 : Int) := h397
          have hO1 := h397
          replace h398 : (m395.2 78) = upI (m.2 78) (m.1 73) (m.1 7) := h398
          have hO2 := h398
          replace h399 : (m395.2 79) = upI (m.2 79) (m.1 73) 0 := h399
          have hO3 := h399
          replace h400 : ∀ j, j < 9 * (m.1 73) → (m395.2 80) j = (m.2 80) j := h400
          have hW1 := h400
          replace h401 : ∀ j, 9 * (m.1 73) ≤ j → j < 9 * (m.1 73) + 9 → (m395.2 80) j = -1 := h401
          have hW2 := h401
          have u403 : (m.1 8) ≤ (m.1 8) := by omega
          have hAgC : agr (m.2 65) (m.2 65) (m.1 28) := by first | exact agr_r _ _ | exact hAgC | exact agr_t hAgC hAg (by omega)
          have u404 : 1 ≤ (m395.1 73) := by omega
          refine T_ld 79 (.ref 189) rfl (fun _ => rfl) ?_
          refine T_call 82 212 [.ref 189] [] rfl (fun _ => rfl) rfl (d_next w (mO m395 [] []) c N D (by omega) Tm395 (show (m395.1 10) = 0 → (m395.1 8) + (m395.1 9) ≤ (m395.1 6) by rewrite [(show (m395.1 10) = (m.1 10) from (fr1 Fm395 10 rfl)), (show (m395.1 8) = (m.1 8) from (fr1 Fm395 8 rfl)), (show (m395.1 9) = (m.1 9) from (fr1 Fm395 9 rfl)), (show (m395.1 6) = (m.1 6) from (fr1 Fm395 6 rfl))]; first | omega | (intro h9; have h8 := hLx h9; omega))) (fun rr405 k406 => ?_)
          obtain ⟨m407, Tm407, Fm407, h408, h409, h410, h411, rfl⟩ := k406
          refine ⟨_, _, rfl, ?_⟩
          refine T_nb (st' := []) rfl ?_
          have g412 : 0 ≤ m407.1 7 ∧ m407.1 7 ≤ 330 := Tm407.1 7
          have g413 : 0 ≤ m407.1 8 ∧ m407.1 8 ≤ 4000 := Tm407.1 8
          have g414 : 0 ≤ m407.1 9 ∧ m407.1 9 ≤ 4000 := Tm407.1 9
          have g415 : 0 ≤ m407.1 10 ∧ m407.1 10 ≤ 8 := Tm407.1 10
          have g416 : (-1) ≤ m407.1 11 ∧ m407.1 11 ≤ 4000 := Tm407.1 11
          have g417 : (-9223372036854775808) ≤ m407.1 12 ∧ m407.1 12 ≤ 9223372036854775807 := Tm407.1 12
          by_cases hf418 : (m407.1 10) = 0
          · skip
            replace h408 : LxP (m407.1 7) (m407.1 8) (m407.1 9) (m395.1 6) (m407.1 10) := h408
            rewrite [(show (m395.1 6) = (m.1 6) from (fr1 Fm395 6 rfl))] at h408
            have hLx := h408
            replace h409 : (m395.1 10) = 0 := h409 hf418
            rewrite [(show (m395.1 10) = (m.1 10) from (fr1 Fm395 10 rfl))] at h409
            replace h410 : (m395.1 8) ≤ (m407.1 8) := h410
            rewrite [(show (m395.1 8) = (m.1 8) from (fr1 Fm395 8 rfl))] at h410
            replace h411 : (m395.1 8) + (m395.1 9) ≤ (m407.1 8) := h411 hf418
            rewrite [(show (m395.1 8) = (m.1 8) from (fr1 Fm395 8 rfl)), (show (m395.1 9) = (m.1 9) from (fr1 Fm395 9 rfl))] at h411
            have u419 : (m.1 8) + 1 ≤ (m407.1 8) := by omega
            have hAgC : agr (m.2 65) (m.2 65) (m.1 28) := by first | exact agr_r _ _ | exact hAgC | exact agr_t hAgC hAg (by omega)
            have u420 : 1 ≤ (m395.1 73) := by omega
            have hXE : XS (m.2 65) (m.2 67) (m395.2 76) (m395.2 78) (m395.2 79) (m395.2 80) B (m.1 28) (m395.1 73) ((m.1 74) + 1) (um (m.1 75)) := by
              rw [hO0, hO1, hO2, hO3, show um (m.1 75) = 0 from if_pos (by omega)]
              exact XS_pre hXS (by omega) (by omega) hW1 hW2
            refine T_goto 219 rfl (fun _ => rfl) ?_
            refine T_ret rfl (fun _ => rfl) ?_
            exact ⟨(mO m407 [] []), Tm407, (fr_m (fr_s Fm407 (fr_m (fr_s Fm395 (fr_m fr_0 rfl rfl) rfl rfl) rfl rfl) rfl rfl) rfl rfl), (show (m407.1 10) = 0 → (m.1 10) = 0 by omega), (show LxP (m407.1 7) (m407.1 8) (m407.1 9) (m.1 6) (m407.1 10) by first | (first | exact hLx | exact (fun _ => hLx (by omega)) | (intro h9; exfalso; omega)) | (exfalso; omega)), (fun _ => ⟨(show (m.1 8) + 1 ≤ (m407.1 8) by omega), (show (m407.1 75) = 0 ∨ ((m407.1 75) = 1 ∧ (m407.1 69) ≤ 64) by rewrite [(show (m407.1 75) = (m.1 75) from ((fr1 Fm407 75 rfl).trans (fr1 Fm395 75 rfl))), (show (m407.1 69) = (m.1 69) from ((fr1 Fm407 69 rfl).trans (fr1 Fm395 69 rfl)))]; omega), (show 1 ≤ (m407.1 73) by rewrite [(show (m407.1 73) = (m395.1 73) from (fr1 Fm407 73 rfl))]; omega), (show (m.1 28) ≤ (m407.1 28) by rewrite [(show (m407.1 28) = (m.1 28) from ((fr1 Fm407 28 rfl).trans (fr1 Fm395 28 rfl)))]; omega), (show XS (m407.2 65) (m407.2 67) (m407.2 76) (m407.2 78) (m407.2 79) (m407.2 80) B (m407.1 28) (m407.1 73) (m407.1 74) (um (m407.1 75)) by rewrite [(show (m407.2 65) = (m.2 65) from ((fr2 Fm407 65 rfl).trans (fr2 Fm395 65 rfl))), (show (m407.2 67) = (m.2 67) from ((fr2 Fm407 67 rfl).trans (fr2 Fm395 67 rfl))), (show (m407.2 76) = (m395.2 76) from (fr2 Fm407 76 rfl)), (show (m407.2 78) = (m395.2 78) from (fr2 Fm407 78 rfl)), (show (m407.2 79) = (m395.2 79) from (fr2 Fm407 79 rfl)), (show (m407.2 80) = (m395.2 80) from (fr2 Fm407 80 rfl)), (show (m407.1 28) = (m.1 28) from ((fr1 Fm407 28 rfl).trans (fr1 Fm395 28 rfl))), (show (m407.1 73) = (m395.1 73) from (fr1 Fm407 73 rfl)), (show (m407.1 74) = ((m.1 74) + 1) from ((fr1 Fm407 74 rfl).trans (fr1 Fm395 74 rfl))), (show (m407.1 75) = (m.1 75) from ((fr1 Fm407 75 rfl).trans (fr1 Fm395 75 rfl)))]; first | (exact hXE) | (exfalso; omega)), (show agr (m.2 65) (m407.2 65) (m.1 28) by rewrite [(show (m407.2 65) = (m.2 65) from ((fr2 Fm407 65 rfl).trans (fr2 Fm395 65 rfl)))]; first | (exact hAgC) | (exfalso; omega))⟩), rfl⟩
          · skip
            replace h408 : LxP (m407.1 7) (m407.1 8) (m407.1 9) (m395.1 6) (m407.1 10) := h408
            rewrite [(show (m395.1 6) = (m.1 6) from (fr1 Fm395 6 rfl))] at h408
            have hLx := h408
            clear h409
            replace h410 : (m395.1 8) ≤ (m407.1 8) := h410
            rewrite [(show (m395.1 8) = (m.1 8) from (fr1 Fm395 8 rfl))] at h410
            clear h411
            have hf421 : 1 ≤ (m407.1 10) := by omega
            refine Tm_lv (a := [(0, .ref 189), (1, .int (i32 (m.1 8)))]) rfl rfl ⟨rfl, rfl, trivial⟩ ?_
            exact J82_75 (mO m407 [] []) Tm407 (fr_m (fr_s Fm407 (fr_m (fr_s Fm395 (fr_m fr_0 rfl rfl) rfl rfl) rfl rfl) rfl rfl) rfl rfl) (show 0 ≤ (m.1 8) ∧ (m.1 8) ≤ 4000 by omega) (show 1 ≤ (m407.1 10) by omega)
        · skip
          refine T_ld 42 (.ref 189) rfl (fun _ => rfl) ?_
          refine T_ld 43 (.int (i32 4)) rfl (fun _ => rfl) ?_
          refine T_gf 47 (.int (i32 (m.1 8))) rfl rfl rfl rfl rfl rfl ?_
          refine T_call 50 222 [.ref 189, .int (i32 4), .int (i32 (m.1 8))] [] rfl (fun _ => rfl) rfl (d_wrong w (mO m [] []) c N D (by omega) hT 4 (m.1 8) ⟨by decide, by decide⟩ (r32 (by omega) (by omega)) (show 1 ≤ (4 : Int) ∧ (4 : Int) ≤ 8 by omega) (show 0 ≤ (m.1 8) ∧ (m.1 8) ≤ 4000 by omega)) (fun rr422 k423 => ?_)
          obtain ⟨m424, Tm424, Fm424, h425, rfl⟩ := k423
          refine ⟨_, _, rfl, ?_⟩
          refine T_nb (st' := []) rfl ?_
          have g426 : 0 ≤ m424.1 10 ∧ m424.1 10 ≤ 8 := Tm424.1 10
          have g427 : (-1) ≤ m424.1 11 ∧ m424.1 11 ≤ 4000 := Tm424.1 11
          replace h425 : (0 < (m.1 10) → (m424.1 10) = (m.1 10) ∧ (m424.1 11) = (m.1 11)) ∧ ((m.1 10) ≤ 0 → (m424.1 10) = (4 : Int) ∧ (m424.1 11) = (m.1 8)) := h425
          have hf428 : 1 ≤ (m424.1 10) := by omega
          refine Tm_lv (a := [(0, .ref 189), (1, .int (i32 (m.1 8)))]) rfl rfl ⟨rfl, rfl, trivial⟩ ?_
          exact J50_82 (mO m424 [] []) Tm424 (fr_m (fr_s Fm424 (fr_m fr_0 rfl rfl) rfl rfl) rfl rfl) (show 0 ≤ (m.1 8) ∧ (m.1 8) ≤ 4000 by omega) (show 1 ≤ (m424.1 10) by omega)
