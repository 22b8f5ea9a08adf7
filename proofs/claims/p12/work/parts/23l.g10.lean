def Q_takeParameter (m : mR) (c : Nat → Option am_C) (N : Nat) (a : Int) : ag_Re af_T → Prop := fun R => ∃ (M : mR), Ty M ∧ ((M.1 10) = 0 → (m.1 10) = 0) ∧ (LxP (M.1 7) (M.1 8) (M.1 9) (m.1 6) (M.1 10)) ∧ (∀ k, (M.2 47) k + (M.2 48) k ≤ 4000) ∧ (M.1 10 = 0 → ((m.1 8) + 1 ≤ (M.1 8))) ∧ R = (.inl (none), (mhp (mO m [(7, (M.1 7)), (8, (M.1 8)), (9, (M.1 9)), (10, (M.1 10)), (11, (M.1 11)), (12, (M.1 12))] [(46, (M.2 46)), (47, (M.2 47)), (48, (M.2 48)), (49, (M.2 49))]) c, N), 0, 0)
set_option maxHeartbeats 8000000 in
theorem c_takeParameter (w : wX) (m : mR) (c : Nat → Option am_C) (N D : Nat) (hD : 7 ≤ D) (hT : Ty m) (a : Int) (qa : R32 a) (hLx0 : LxP (m.1 7) (m.1 8) (m.1 9) (m.1 6) (m.1 10)) (hPA0 : ∀ k, (m.2 47) k + (m.2 48) k ≤ 4000) (p2 : 0 ≤ a ∧ a ≤ 15) (hC : m.1 10 = 0 → True) : TC w D 268 [.ref 189, .int (i32 a)] (mhp m c, N) (Q_takeParameter m c N a) := by
  obtain ⟨D, rfl⟩ : ∃ k, D = k + 1 := ⟨D - 1, by omega⟩
  obtain ⟨qaa, qab⟩ := id qa
  have hLx := hLx0
  have hPA := hPA0
  have f7 : 0 ≤ m.1 7 ∧ m.1 7 ≤ 330 := hT.1 7
  have f8 : 0 ≤ m.1 8 ∧ m.1 8 ≤ 4000 := hT.1 8
  have f9 : 0 ≤ m.1 9 ∧ m.1 9 ≤ 4000 := hT.1 9
  have f10 : 0 ≤ m.1 10 ∧ m.1 10 ≤ 8 := hT.1 10
  have f11 : (-1) ≤ m.1 11 ∧ m.1 11 ≤ 4000 := hT.1 11
  have f12 : (-9223372036854775808) ≤ m.1 12 ∧ m.1 12 ≤ 9223372036854775807 := hT.1 12
  have f6 : 0 ≤ m.1 6 ∧ m.1 6 ≤ 4000 := hT.1 6
  refine Tc_of rfl ?_
  show TT w D pm_268 (0, [(0, .ref 189), (1, .int (i32 a))], [], (mhp m c, N), 0, 0) (Q_takeParameter m c N a)
  rw [show (mhp m c, N) = (mhp (mO m [(7, (m.1 7)), (8, (m.1 8)), (9, (m.1 9)), (10, (m.1 10)), (11, (m.1 11)), (12, (m.1 12))] [(46, (m.2 46)), (47, (m.2 47)), (48, (m.2 48)), (49, (m.2 49))]) c, N) from congrArg (fun M => (mhp M c, N)) (mO_pad m [7, 8, 9, 10, 11, 12] [46, 47, 48, 49])]
  by_cases hf0 : m.1 10 = 0
  · skip
    have h7 := hLx (by omega)
    have J153_15 : ∀ (v12 : Int) (s13 : Int) (m14 : mR), (R32 v12) → (R32 s13) → (Ty m14) → (0 ≤ v12) → (1 ≤ s13) → (s13 ≤ 64) → (1 ≤ (m14.1 10)) → ((m14.1 10) ≤ 8) → (∀ k, (m14.2 47) k + (m14.2 48) k ≤ 4000) → ((m.2 46) a ≤ 3) → (0 ≤ ((4 * a) + ((m.2 46) a)) ∧ ((4 * a) + ((m.2 46) a)) ≤ 64) → (0 ≤ (4 * a) + ((m.2 46) a) ∧ (4 * a) + ((m.2 46) a) ≤ 64) → TT w D pm_268 (153, [(0, .ref 189), (1, .int (i32 a)), (2, .int (i32 ((4 * a) + ((m.2 46) a)))), (3, .int (i32 v12))], [.int (i32 s13), .int (i32 ((4 * a) + ((m.2 46) a))), .ref 219], (mhp (mO m [(7, (m14.1 7)), (8, (m14.1 8)), (9, (m14.1 9)), (10, (m14.1 10)), (11, (m14.1 11)), (12, (m14.1 12))] [(46, (m.2 46)), (47, (m14.2 47)), (48, (m14.2 48)), (49, (m.2 49))]) c, N), 0, 0) (Q_takeParameter m c N a) := by
      intro v12 s13 m14 q16 q17 q18 ic19 ic20 ic21 ic22 ic23 ic24 ic25 ic26 ic27
      obtain ⟨q16a, q16b⟩ := id q16
      obtain ⟨q17a, q17b⟩ := id q17
      have q18_7 : 0 ≤ m14.1 7 ∧ m14.1 7 ≤ 330 := q18.1 7
      have q18_8 : 0 ≤ m14.1 8 ∧ m14.1 8 ≤ 4000 := q18.1 8
      have q18_9 : 0 ≤ m14.1 9 ∧ m14.1 9 ≤ 4000 := q18.1 9
      have q18_10 : 0 ≤ m14.1 10 ∧ m14.1 10 ≤ 8 := q18.1 10
      have q18_11 : (-1) ≤ m14.1 11 ∧ m14.1 11 ≤ 4000 := q18.1 11
      have q18_12 : (-9223372036854775808) ≤ m14.1 12 ∧ m14.1 12 ≤ 9223372036854775807 := q18.1 12
      have hPA := ic24
      have G29 : ∀ j, 0 ≤ (upI (m.2 49) ((4 * a) + ((m.2 46) a)) s13) j ∧ (upI (m.2 49) ((4 * a) + ((m.2 46) a)) s13) j ≤ 64 := upI_rg (hT.2.1 49) ⟨by omega, by omega⟩
      refine T_iast (a' := [(46, (m.2 46)), (47, (m14.2 47)), (48, (m14.2 48)), (49, upI (m.2 49) ((4 * a) + ((m.2 46) a)) s13)]) 154 49 (m.2 49) rfl rfl rfl (by omega) (show ((4 * a) + ((m.2 46) a)) < (64 : Int) by omega) rfl rfl ?_
      refine T_gf 158 (.ref 216) rfl rfl rfl rfl rfl rfl ?_
      refine T_ld 159 (.int (i32 a)) rfl (fun _ => rfl) ?_
      refine T_dup2 160 rfl (fun _ => rfl) ?_
      refine T_iald 161 46 (m.2 46) rfl rfl rfl (by omega) (show a < (16 : Int) by omega) rfl ?_
      have e30 : 0 ≤ (m.2 46) a ∧ (m.2 46) a ≤ 4 := (hT.2.1 46) a
      refine T_ld 162 (.int (i32 1)) rfl (fun _ => rfl) ?_
      refine T_iadd 163 rfl rfl ?_
      have G31 : ∀ j, 0 ≤ (upI (m.2 46) a (((m.2 46) a) + 1)) j ∧ (upI (m.2 46) a (((m.2 46) a) + 1)) j ≤ 4 := upI_rg (hT.2.1 46) ⟨by omega, by omega⟩
      refine T_iast (a' := [(46, upI (m.2 46) a (((m.2 46) a) + 1)), (47, (m14.2 47)), (48, (m14.2 48)), (49, upI (m.2 49) ((4 * a) + ((m.2 46) a)) s13)]) 164 46 (m.2 46) rfl rfl rfl (by omega) (show a < (16 : Int) by omega) rfl rfl ?_
      refine T_ret rfl (fun _ => rfl) ?_
      exact ⟨(mO m [(7, (m14.1 7)), (8, (m14.1 8)), (9, (m14.1 9)), (10, (m14.1 10)), (11, (m14.1 11)), (12, (m14.1 12))] [(46, upI (m.2 46) a (((m.2 46) a) + 1)), (47, (m14.2 47)), (48, (m14.2 48)), (49, upI (m.2 49) ((4 * a) + ((m.2 46) a)) s13)]), (Ty_mO hT rfl rfl ⟨(q18.1 7), (q18.1 8), (q18.1 9), (q18.1 10), (q18.1 11), (q18.1 12), trivial⟩ ⟨G31, (q18.2.1 47), (q18.2.1 48), G29, trivial⟩), (show (m14.1 10) = 0 → (m.1 10) = 0 by omega), (show LxP (m14.1 7) (m14.1 8) (m14.1 9) (m.1 6) (m14.1 10) by first | (first | exact hLx | exact (fun _ => hLx (by omega)) | (intro h9; exfalso; omega)) | (exfalso; omega)), (show ∀ k, (m14.2 47) k + (m14.2 48) k ≤ 4000 by first | (first | exact hPA | (intro k; have := hPA0 k; have h7 := hLx0 hf0; unfold upI; split <;> omega)) | (exfalso; omega)), (fun (h : (m14.1 10) = 0) => absurd h (by omega)), rfl⟩
    have J141_34 : ∀ (v32 : Int) (m33 : mR), (R32 v32) → (Ty m33) → (0 ≤ v32) → (1 ≤ (m33.1 10)) → ((m33.1 10) ≤ 8) → (∀ k, (m33.2 47) k + (m33.2 48) k ≤ 4000) → ((m.2 46) a ≤ 3) → (0 ≤ ((4 * a) + ((m.2 46) a)) ∧ ((4 * a) + ((m.2 46) a)) ≤ 64) → TT w D pm_268 (141, [(0, .ref 189), (1, .int (i32 a)), (2, .int (i32 ((4 * a) + ((m.2 46) a)))), (3, .int (i32 v32))], [], (mhp (mO m [(7, (m33.1 7)), (8, (m33.1 8)), (9, (m33.1 9)), (10, (m33.1 10)), (11, (m33.1 11)), (12, (m33.1 12))] [(46, (m.2 46)), (47, (m33.2 47)), (48, (m33.2 48)), (49, (m.2 49))]) c, N), 0, 0) (Q_takeParameter m c N a) := by
      intro v32 m33 q35 q36 ic37 ic38 ic39 ic40 ic41 ic42
      obtain ⟨q35a, q35b⟩ := id q35
      have q36_7 : 0 ≤ m33.1 7 ∧ m33.1 7 ≤ 330 := q36.1 7
      have q36_8 : 0 ≤ m33.1 8 ∧ m33.1 8 ≤ 4000 := q36.1 8
      have q36_9 : 0 ≤ m33.1 9 ∧ m33.1 9 ≤ 4000 := q36.1 9
      have q36_10 : 0 ≤ m33.1 10 ∧ m33.1 10 ≤ 8 := q36.1 10
      have q36_11 : (-1) ≤ m33.1 11 ∧ m33.1 11 ≤ 4000 := q36.1 11
      have q36_12 : (-9223372036854775808) ≤ m33.1 12 ∧ m33.1 12 ≤ 9223372036854775807 := q36.1 12
      have hPA := ic40
      refine T_gf 145 (.ref 219) rfl rfl rfl rfl rfl rfl ?_
      refine T_ld 146 (.int (i32 ((4 * a) + ((m.2 46) a)))) rfl (fun _ => rfl) ?_
      refine T_ld 147 (.ref 189) rfl (fun _ => rfl) ?_
      refine T_ld 148 (.int (i32 1)) rfl (fun _ => rfl) ?_
      refine T_ld 150 (.int (i32 64)) rfl (fun _ => rfl) ?_
      refine T_call 153 234 [.ref 189, .int (i32 1), .int (i32 64)] [.int (i32 ((4 * a) + ((m.2 46) a))), .ref 219] rfl (fun _ => rfl) rfl (c_number w (mO m [(7, (m33.1 7)), (8, (m33.1 8)), (9, (m33.1 9)), (10, (m33.1 10)), (11, (m33.1 11)), (12, (m33.1 12))] [(46, (m.2 46)), (47, (m33.2 47)), (48, (m33.2 48)), (49, (m.2 49))]) c N D (by omega) (Ty_mO hT rfl rfl ⟨(q36.1 7), (q36.1 8), (q36.1 9), (q36.1 10), (q36.1 11), (q36.1 12), trivial⟩ ⟨(hT.2.1 46), (q36.2.1 47), (q36.2.1 48), (hT.2.1 49), trivial⟩) 1 64 ⟨by decide, by decide⟩ ⟨by decide, by decide⟩ (show LxP (m33.1 7) (m33.1 8) (m33.1 9) (m.1 6) (m33.1 10) by first | exact hLx | (intro h9; exfalso; omega) | (intro h9; have h8 := hLx (by omega); omega)) (show (1 : Int) ≤ (64 : Int) by omega)) (fun rr44 k45 => ?_)
      obtain ⟨y46, y48, y50, y52, y54, y56, nu, g47, g49, g51, g53, g55, g57, g58, h59, h60, h61, h62, h63, h64, rfl⟩ := k45
      refine ⟨_, _, rfl, ?_⟩
      refine T_nf2 (st' := [.int (i32 nu), .int (i32 ((4 * a) + ((m.2 46) a))), .ref 219]) (l' := [(7, y46), (8, y48), (9, y50), (10, y52), (11, y54), (12, y56)]) (a' := [(46, (m.2 46)), (47, (m33.2 47)), (48, (m33.2 48)), (49, (m.2 49))]) [7, 8, 9, 10, 11, 12] [] rfl ⟨rfl, rfl, rfl, rfl, rfl, rfl, rfl, rfl, rfl, rfl, rfl, rfl, trivial⟩ ⟨rfl, rfl, rfl, rfl, rfl, rfl, rfl, rfl, trivial⟩ rfl rfl (by decide) (by decide) ?_
      obtain ⟨g58a, g58b⟩ := g58
      replace h59 : LxP y46 y48 y50 (m.1 6) y52 := h59
      replace h60 : (m33.1 8) ≤ y48 := h60
      replace h61 : y52 = 0 → (m33.1 10) = 0 ∧ (m33.1 8) + (m33.1 9) ≤ y48 := h61
      replace h62 : y52 = 0 → (m33.1 7) = 2 := h62
      replace h63 : (1 : Int) ≤ nu ∧ nu ≤ (64 : Int) := h63
      replace h64 : y52 = 0 → nu = (m33.1 12) := h64
      have hf65 : 1 ≤ y52 := by omega
      clear h61
      clear h62
      clear h64
      have hLx := h59
      clear q36_7 q36_8 q36_9 q36_10 q36_11 q36_12 ic38 ic39 h60
      exact J153_15 v32 nu (mO m [(7, y46), (8, y48), (9, y50), (10, y52), (11, y54), (12, y56)] [(46, (m.2 46)), (47, (m33.2 47)), (48, (m33.2 48)), (49, (m.2 49))]) (r32 (by omega) (by omega)) (r32 (by omega) (by omega)) (Ty_mO hT rfl rfl ⟨g47, g49, g51, g53, g55, g57, trivial⟩ ⟨(hT.2.1 46), (q36.2.1 47), (q36.2.1 48), (hT.2.1 49), trivial⟩) (show 0 ≤ v32 by omega) (show 1 ≤ nu by omega) (show nu ≤ 64 by omega) (show 1 ≤ y52 by omega) (show y52 ≤ 8 by omega) (show ∀ k, (m33.2 47) k + (m33.2 48) k ≤ 4000 by first | exact hPA | (intro k; have := hPA0 k; have h7 := hLx0 hf0; unfold upI; split <;> omega)) (show (m.2 46) a ≤ 3 by omega) (show 0 ≤ ((4 * a) + ((m.2 46) a)) ∧ ((4 * a) + ((m.2 46) a)) ≤ 64 by omega) (show 0 ≤ (4 * a) + ((m.2 46) a) ∧ (4 * a) + ((m.2 46) a) ≤ 64 by omega)
    have J135_68 : ∀ (v66 : Int) (m67 : mR), (R32 v66) → (Ty m67) → (0 ≤ v66) → (1 ≤ (m67.1 10)) → ((m67.1 10) ≤ 8) → (∀ k, (m67.2 47) k + (m67.2 48) k ≤ 4000) → ((m.2 46) a ≤ 3) → (0 ≤ ((4 * a) + ((m.2 46) a)) ∧ ((4 * a) + ((m.2 46) a)) ≤ 64) → TT w D pm_268 (135, [(0, .ref 189), (1, .int (i32 a)), (2, .int (i32 ((4 * a) + ((m.2 46) a)))), (3, .int (i32 v66))], [], (mhp (mO m [(7, (m67.1 7)), (8, (m67.1 8)), (9, (m67.1 9)), (10, (m67.1 10)), (11, (m67.1 11)), (12, (m67.1 12))] [(46, (m.2 46)), (47, (m67.2 47)), (48, (m67.2 48)), (49, (m.2 49))]) c, N), 0, 0) (Q_takeParameter m c N a) := by
      intro v66 m67 q69 q70 ic71 ic72 ic73 ic74 ic75 ic76
      obtain ⟨q69a, q69b⟩ := id q69
      have q70_7 : 0 ≤ m67.1 7 ∧ m67.1 7 ≤ 330 := q70.1 7
      have q70_8 : 0 ≤ m67.1 8 ∧ m67.1 8 ≤ 4000 := q70.1 8
      have q70_9 : 0 ≤ m67.1 9 ∧ m67.1 9 ≤ 4000 := q70.1 9
      have q70_10 : 0 ≤ m67.1 10 ∧ m67.1 10 ≤ 8 := q70.1 10
      have q70_11 : (-1) ≤ m67.1 11 ∧ m67.1 11 ≤ 4000 := q70.1 11
      have q70_12 : (-9223372036854775808) ≤ m67.1 12 ∧ m67.1 12 ≤ 9223372036854775807 := q70.1 12
      have hPA := ic74
      refine T_ld 136 (.ref 189) rfl (fun _ => rfl) ?_
      refine T_ld 138 (.int (i32 58)) rfl (fun _ => rfl) ?_
      refine T_call 141 232 [.ref 189, .int (i32 58)] [] rfl (fun _ => rfl) rfl (c_need w (mO m [(7, (m67.1 7)), (8, (m67.1 8)), (9, (m67.1 9)), (10, (m67.1 10)), (11, (m67.1 11)), (12, (m67.1 12))] [(46, (m.2 46)), (47, (m67.2 47)), (48, (m67.2 48)), (49, (m.2 49))]) c N D (by omega) (Ty_mO hT rfl rfl ⟨(q70.1 7), (q70.1 8), (q70.1 9), (q70.1 10), (q70.1 11), (q70.1 12), trivial⟩ ⟨(hT.2.1 46), (q70.2.1 47), (q70.2.1 48), (hT.2.1 49), trivial⟩) 58 ⟨by decide, by decide⟩ (show 1 ≤ (58 : Int) by omega) (show LxP (m67.1 7) (m67.1 8) (m67.1 9) (m.1 6) (m67.1 10) by first | exact hLx | (intro h9; exfalso; omega) | (intro h9; have h8 := hLx (by omega); omega))) (fun rr78 k79 => ?_)
      obtain ⟨y80, y82, y84, y86, y88, y90, g81, g83, g85, g87, g89, g91, h92, h93, h94, h95, rfl⟩ := k79
      refine ⟨_, _, rfl, ?_⟩
      refine T_nf2 (st' := []) (l' := [(7, y80), (8, y82), (9, y84), (10, y86), (11, y88), (12, y90)]) (a' := [(46, (m.2 46)), (47, (m67.2 47)), (48, (m67.2 48)), (49, (m.2 49))]) [7, 8, 9, 10, 11, 12] [] rfl ⟨rfl, rfl, rfl, rfl, rfl, rfl, rfl, rfl, rfl, rfl, rfl, rfl, trivial⟩ ⟨rfl, rfl, rfl, rfl, rfl, rfl, rfl, rfl, trivial⟩ rfl rfl (by decide) (by decide) ?_
      replace h92 : LxP y80 y82 y84 (m.1 6) y86 := h92
      replace h93 : y86 = 0 → (m67.1 10) = 0 ∧ (m67.1 7) = (58 : Int) := h93
      replace h94 : (m67.1 8) ≤ y82 := h94
      replace h95 : y86 = 0 → (m67.1 8) + (m67.1 9) ≤ y82 := h95
      have hf96 : 1 ≤ y86 := by omega
      clear h93
      clear h95
      have hLx := h92
      clear q70_7 q70_8 q70_9 q70_10 q70_11 q70_12 ic72 ic73 h94
      exact J141_34 v66 (mO m [(7, y80), (8, y82), (9, y84), (10, y86), (11, y88), (12, y90)] [(46, (m.2 46)), (47, (m67.2 47)), (48, (m67.2 48)), (49, (m.2 49))]) (r32 (by omega) (by omega)) (Ty_mO hT rfl rfl ⟨g81, g83, g85, g87, g89, g91, trivial⟩ ⟨(hT.2.1 46), (q70.2.1 47), (q70.2.1 48), (hT.2.1 49), trivial⟩) (show 0 ≤ v66 by omega) (show 1 ≤ y86 by omega) (show y86 ≤ 8 by omega) (show ∀ k, (m67.2 47) k + (m67.2 48) k ≤ 4000 by first | exact hPA | (intro k; have := hPA0 k; have h7 := hLx0 hf0; unfold upI; split <;> omega)) (show (m.2 46) a ≤ 3 by omega) (show 0 ≤ ((4 * a) + ((m.2 46) a)) ∧ ((4 * a) + ((m.2 46) a)) ≤ 64 by omega)
    have J97_99 : ∀ (v97 : Int) (m98 : mR), (R32 v97) → (Ty m98) → (0 ≤ v97) → (v97 ≤ 63) → (1 ≤ (m98.1 10)) → ((m98.1 10) ≤ 8) → (∀ k, (m.2 47) k + (m.2 48) k ≤ 4000) → (1 ≤ ((4 * a) + ((m.2 46) a)) ∧ ((4 * a) + ((m.2 46) a)) ≤ 64) → TT w D pm_268 (97, [(0, .ref 189), (1, .int (i32 a)), (2, .int (i32 ((4 * a) + ((m.2 46) a)))), (3, .int (i32 v97))], [], (mhp (mO m [(7, (m.1 7)), (8, (m.1 8)), (9, (m.1 9)), (10, (m98.1 10)), (11, (m98.1 11)), (12, (m.1 12))] [(46, (m.2 46)), (47, (m.2 47)), (48, (m.2 48)), (49, (m.2 49))]) c, N), 0, 0) (Q_takeParameter m c N a) := by
      intro v97 m98 q100 q101 ic102 ic103 ic104 ic105 ic106 ic107
      obtain ⟨q100a, q100b⟩ := id q100
      have q101_10 : 0 ≤ m98.1 10 ∧ m98.1 10 ≤ 8 := q101.1 10
      have q101_11 : (-1) ≤ m98.1 11 ∧ m98.1 11 ≤ 4000 := q101.1 11
      have hPA := ic106
      refine T_iinc 100 [(3, .int (i32 (v97 + 1))), (0, .ref 189), (1, .int (i32 a)), (2, .int (i32 ((4 * a) + ((m.2 46) a))))] rfl rfl (by decide) rfl rfl ?_
      refine T_goto 57 rfl (fun _ => rfl) ?_
      have L57_111 : ∀ (n : Nat) (v109 : Int) (m110 : mR), (R32 v109) → (Ty m110) → (1 ≤ v109) → (v109 ≤ 64) → (v109 ≤ (4 * a) + ((m.2 46) a)) → ((m110.1 10) = 0 → True) → ((4 * a) + ((m.2 46) a)) - v109 < (n : Int) → TT w D pm_268 (57, [(0, .ref 189), (1, .int (i32 a)), (2, .int (i32 ((4 * a) + ((m.2 46) a)))), (3, .int (i32 v109))], [], (mhp (mO m [(7, (m.1 7)), (8, (m.1 8)), (9, (m.1 9)), (10, (m110.1 10)), (11, (m110.1 11)), (12, (m.1 12))] [(46, (m.2 46)), (47, (m.2 47)), (48, (m.2 48)), (49, (m.2 49))]) c, N), 0, 0) (Q_takeParameter m c N a) := by
        intro n
        induction n with
        | zero =>
          intro v109 m110 q112 q113 ic114 ic115 ic116 c117 hmu
          obtain ⟨q112a, q112b⟩ := id q112
          have q113_10 : 0 ≤ m110.1 10 ∧ m110.1 10 ≤ 8 := q113.1 10
          have q113_11 : (-1) ≤ m110.1 11 ∧ m110.1 11 ≤ 4000 := q113.1 11
          exfalso
          omega
        | succ n ih =>
          intro v109 m110 q112 q113 ic114 ic115 ic116 c117 hmu
          obtain ⟨q112a, q112b⟩ := id q112
          have q113_10 : 0 ≤ m110.1 10 ∧ m110.1 10 ≤ 8 := q113.1 10
          have q113_11 : (-1) ≤ m110.1 11 ∧ m110.1 11 ≤ 4000 := q113.1 11
          have ih118 := ih
          by_cases hf119 : (m110.1 10) = 0
          · skip
            refine T_ld 58 (.int (i32 v109)) rfl (fun _ => rfl) ?_
            refine T_ld 59 (.int (i32 ((4 * a) + ((m.2 46) a)))) rfl (fun _ => rfl) ?_
            refine T_icmp 103 62 rfl rfl rfl (r32 (by omega) (by omega)) (r32 (by omega) (by omega)) (fun (h120 : (4 * a) + ((m.2 46) a) ≤ v109) => ?_) (fun (h120 : ¬ ((4 * a) + ((m.2 46) a) ≤ v109)) => ?_)
            · skip
              refine T_gf 107 (.int (i32 (m110.1 10))) rfl rfl rfl rfl rfl rfl ?_
              refine T_if 111 110 rfl rfl rfl (r32 (by omega) (by omega)) (fun (h121 : (m110.1 10) ≤ 0) => ?_) (fun (h121 : ¬ ((m110.1 10) ≤ 0)) => by exfalso; omega)
              refine T_gf 115 (.ref 217) rfl rfl rfl rfl rfl rfl ?_
              refine T_ld 116 (.int (i32 ((4 * a) + ((m.2 46) a)))) rfl (fun _ => rfl) ?_
              refine T_gf 120 (.int (i32 (m.1 8))) rfl rfl rfl rfl rfl rfl ?_
              have G122 : ∀ j, 0 ≤ (upI (m.2 47) ((4 * a) + ((m.2 46) a)) (m.1 8)) j ∧ (upI (m.2 47) ((4 * a) + ((m.2 46) a)) (m.1 8)) j ≤ 4000 := upI_rg (hT.2.1 47) ⟨by omega, by omega⟩
              refine T_iast (a' := [(46, (m.2 46)), (47, upI (m.2 47) ((4 * a) + ((m.2 46) a)) (m.1 8)), (48, (m.2 48)), (49, (m.2 49))]) 121 47 (m.2 47) rfl rfl rfl (by omega) (show ((4 * a) + ((m.2 46) a)) < (64 : Int) by omega) rfl rfl ?_
              refine T_gf 125 (.ref 218) rfl rfl rfl rfl rfl rfl ?_
              refine T_ld 126 (.int (i32 ((4 * a) + ((m.2 46) a)))) rfl (fun _ => rfl) ?_
              refine T_gf 130 (.int (i32 (m.1 9))) rfl rfl rfl rfl rfl rfl ?_
              have G123 : ∀ j, 0 ≤ (upI (m.2 48) ((4 * a) + ((m.2 46) a)) (m.1 9)) j ∧ (upI (m.2 48) ((4 * a) + ((m.2 46) a)) (m.1 9)) j ≤ 4000 := upI_rg (hT.2.1 48) ⟨by omega, by omega⟩
              refine T_iast (a' := [(46, (m.2 46)), (47, upI (m.2 47) ((4 * a) + ((m.2 46) a)) (m.1 8)), (48, upI (m.2 48) ((4 * a) + ((m.2 46) a)) (m.1 9)), (49, (m.2 49))]) 131 48 (m.2 48) rfl rfl rfl (by omega) (show ((4 * a) + ((m.2 46) a)) < (64 : Int) by omega) rfl rfl ?_
              refine T_ld 132 (.ref 189) rfl (fun _ => rfl) ?_
              refine T_call 135 212 [.ref 189] [] rfl (fun _ => rfl) rfl (c_next w (mO m [(7, (m.1 7)), (8, (m.1 8)), (9, (m.1 9)), (10, (m110.1 10)), (11, (m110.1 11)), (12, (m.1 12))] [(46, (m.2 46)), (47, upI (m.2 47) ((4 * a) + ((m.2 46) a)) (m.1 8)), (48, upI (m.2 48) ((4 * a) + ((m.2 46) a)) (m.1 9)), (49, (m.2 49))]) c N D (by omega) (Ty_mO hT rfl rfl ⟨f7, f8, f9, (q113.1 10), (q113.1 11), f12, trivial⟩ ⟨(hT.2.1 46), G122, G123, (hT.2.1 49), trivial⟩) (show (m110.1 10) = 0 → (m.1 8) + (m.1 9) ≤ (m.1 6) by first | omega | (intro h9; have h8 := hLx h9; omega))) (fun rr124 k125 => ?_)
              obtain ⟨y126, y128, y130, y132, y134, y136, g127, g129, g131, g133, g135, g137, h138, h139, h140, h141, rfl⟩ := k125
              refine ⟨_, _, rfl, ?_⟩
              refine T_nf2 (st' := []) (l' := [(7, y126), (8, y128), (9, y130), (10, y132), (11, y134), (12, y136)]) (a' := [(46, (m.2 46)), (47, upI (m.2 47) ((4 * a) + ((m.2 46) a)) (m.1 8)), (48, upI (m.2 48) ((4 * a) + ((m.2 46) a)) (m.1 9)), (49, (m.2 49))]) [7, 8, 9, 10, 11, 12] [] rfl ⟨rfl, rfl, rfl, rfl, rfl, rfl, rfl, rfl, rfl, rfl, rfl, rfl, trivial⟩ ⟨rfl, rfl, rfl, rfl, rfl, rfl, rfl, rfl, trivial⟩ rfl rfl (by decide) (by decide) ?_
              by_cases hf142 : y132 = 0
              · skip
                subst hf142
                replace h138 : LxP y126 y128 y130 (m.1 6) (0 : Int) := h138
                have hLx := h138
                replace h139 : (m110.1 10) = 0 := h139 rfl
                replace h140 : (m.1 8) ≤ y128 := h140
                replace h141 : (m.1 8) + (m.1 9) ≤ y128 := h141 rfl
                have u143 : (m.1 8) + 1 ≤ y128 := by omega
                clear q100a q100b q100 q101_10 q101_11 ic102 ic103 ic104 ic105 q113_10 q113_11 h121 g133 h139
                refine T_ld 136 (.ref 189) rfl (fun _ => rfl) ?_
                refine T_ld 138 (.int (i32 58)) rfl (fun _ => rfl) ?_
                refine T_call 141 232 [.ref 189, .int (i32 58)] [] rfl (fun _ => rfl) rfl (c_need w (mO m [(7, y126), (8, y128), (9, y130), (10, 0), (11, y134), (12, y136)] [(46, (m.2 46)), (47, upI (m.2 47) ((4 * a) + ((m.2 46) a)) (m.1 8)), (48, upI (m.2 48) ((4 * a) + ((m.2 46) a)) (m.1 9)), (49, (m.2 49))]) c N D (by omega) (Ty_mO hT rfl rfl ⟨g127, g129, g131, ⟨(by omega : (0 : Int) ≤ 0), (by omega : (0 : Int) ≤ 8)⟩, g135, g137, trivial⟩ ⟨(hT.2.1 46), G122, G123, (hT.2.1 49), trivial⟩) 58 ⟨by decide, by decide⟩ (show 1 ≤ (58 : Int) by omega) (show LxP y126 y128 y130 (m.1 6) (0 : Int) by first | exact hLx | (intro h9; exfalso; omega) | (intro h9; have h8 := hLx (by omega); omega))) (fun rr144 k145 => ?_)
                obtain ⟨y146, y148, y150, y152, y154, y156, g147, g149, g151, g153, g155, g157, h158, h159, h160, h161, rfl⟩ := k145
                refine ⟨_, _, rfl, ?_⟩
                refine T_nf2 (st' := []) (l' := [(7, y146), (8, y148), (9, y150), (10, y152), (11, y154), (12, y156)]) (a' := [(46, (m.2 46)), (47, upI (m.2 47) ((4 * a) + ((m.2 46) a)) (m.1 8)), (48, upI (m.2 48) ((4 * a) + ((m.2 46) a)) (m.1 9)), (49, (m.2 49))]) [7, 8, 9, 10, 11, 12] [] rfl ⟨rfl, rfl, rfl, rfl, rfl, rfl, rfl, rfl, rfl, rfl, rfl, rfl, trivial⟩ ⟨rfl, rfl, rfl, rfl, rfl, rfl, rfl, rfl, trivial⟩ rfl rfl (by decide) (by decide) ?_
                by_cases hf162 : y152 = 0
                · skip
                  subst hf162
                  replace h158 : LxP y146 y148 y150 (m.1 6) (0 : Int) := h158
                  have hLx := h158
                  replace h159 : (0 : Int) = 0 ∧ y126 = (58 : Int) := h159 rfl
                  replace h160 : y128 ≤ y148 := h160
                  replace h161 : y128 + y130 ≤ y148 := h161 rfl
                  have u163 : (m.1 8) + 1 ≤ y148 := by omega
                  clear g127 g129 g131 g135 g137 h138 h140 h141 u143 g153 h159 h160 h161
                  refine T_gf 145 (.ref 219) rfl rfl rfl rfl rfl rfl ?_
                  refine T_ld 146 (.int (i32 ((4 * a) + ((m.2 46) a)))) rfl (fun _ => rfl) ?_
                  refine T_ld 147 (.ref 189) rfl (fun _ => rfl) ?_
                  refine T_ld 148 (.int (i32 1)) rfl (fun _ => rfl) ?_
                  refine T_ld 150 (.int (i32 64)) rfl (fun _ => rfl) ?_
                  refine T_call 153 234 [.ref 189, .int (i32 1), .int (i32 64)] [.int (i32 ((4 * a) + ((m.2 46) a))), .ref 219] rfl (fun _ => rfl) rfl (c_number w (mO m [(7, y146), (8, y148), (9, y150), (10, 0), (11, y154), (12, y156)] [(46, (m.2 46)), (47, upI (m.2 47) ((4 * a) + ((m.2 46) a)) (m.1 8)), (48, upI (m.2 48) ((4 * a) + ((m.2 46) a)) (m.1 9)), (49, (m.2 49))]) c N D (by omega) (Ty_mO hT rfl rfl ⟨g147, g149, g151, ⟨(by omega : (0 : Int) ≤ 0), (by omega : (0 : Int) ≤ 8)⟩, g155, g157, trivial⟩ ⟨(hT.2.1 46), G122, G123, (hT.2.1 49), trivial⟩) 1 64 ⟨by decide, by decide⟩ ⟨by decide, by decide⟩ (show LxP y146 y148 y150 (m.1 6) (0 : Int) by first | exact hLx | (intro h9; exfalso; omega) | (intro h9; have h8 := hLx (by omega); omega)) (show (1 : Int) ≤ (64 : Int) by omega)) (fun rr164 k165 => ?_)
                  obtain ⟨y166, y168, y170, y172, y174, y176, nu, g167, g169, g171, g173, g175, g177, g178, h179, h180, h181, h182, h183, h184, rfl⟩ := k165
                  refine ⟨_, _, rfl, ?_⟩
                  refine T_nf2 (st' := [.int (i32 nu), .int (i32 ((4 * a) + ((m.2 46) a))), .ref 219]) (l' := [(7, y166), (8, y168), (9, y170), (10, y172), (11, y174), (12, y176)]) (a' := [(46, (m.2 46)), (47, upI (m.2 47) ((4 * a) + ((m.2 46) a)) (m.1 8)), (48, upI (m.2 48) ((4 * a) + ((m.2 46) a)) (m.1 9)), (49, (m.2 49))]) [7, 8, 9, 10, 11, 12] [] rfl ⟨rfl, rfl, rfl, rfl, rfl, rfl, rfl, rfl, rfl, rfl, rfl, rfl, trivial⟩ ⟨rfl, rfl, rfl, rfl, rfl, rfl, rfl, rfl, trivial⟩ rfl rfl (by decide) (by decide) ?_
                  obtain ⟨g178a, g178b⟩ := g178
                  by_cases hf185 : y172 = 0
                  · skip
                    subst hf185
                    replace h179 : LxP y166 y168 y170 (m.1 6) (0 : Int) := h179
                    have hLx := h179
                    replace h180 : y148 ≤ y168 := h180
                    replace h181 : (0 : Int) = 0 ∧ y148 + y150 ≤ y168 := h181 rfl
                    replace h182 : y146 = 2 := h182 rfl
                    replace h183 : (1 : Int) ≤ nu ∧ nu ≤ (64 : Int) := h183
                    replace h184 : nu = y156 := h184 rfl
                    have u186 : (m.1 8) + 1 ≤ y168 := by omega
                    clear g147 g149 g151 g155 g157 h158 u163 g173 h180 h181 h182 h184
                    have G187 : ∀ j, 0 ≤ (upI (m.2 49) ((4 * a) + ((m.2 46) a)) nu) j ∧ (upI (m.2 49) ((4 * a) + ((m.2 46) a)) nu) j ≤ 64 := upI_rg (hT.2.1 49) ⟨by omega, by omega⟩
                    refine T_iast (a' := [(46, (m.2 46)), (47, upI (m.2 47) ((4 * a) + ((m.2 46) a)) (m.1 8)), (48, upI (m.2 48) ((4 * a) + ((m.2 46) a)) (m.1 9)), (49, upI (m.2 49) ((4 * a) + ((m.2 46) a)) nu)]) 154 49 (m.2 49) rfl rfl rfl (by omega) (show ((4 * a) + ((m.2 46) a)) < (64 : Int) by omega) rfl rfl ?_
                    refine T_gf 158 (.ref 216) rfl rfl rfl rfl rfl rfl ?_
                    refine T_ld 159 (.int (i32 a)) rfl (fun _ => rfl) ?_
                    refine T_dup2 160 rfl (fun _ => rfl) ?_
                    refine T_iald 161 46 (m.2 46) rfl rfl rfl (by omega) (show a < (16 : Int) by omega) rfl ?_
                    have e188 : 0 ≤ (m.2 46) a ∧ (m.2 46) a ≤ 4 := (hT.2.1 46) a
                    refine T_ld 162 (.int (i32 1)) rfl (fun _ => rfl) ?_
                    refine T_iadd 163 rfl rfl ?_
                    have G189 : ∀ j, 0 ≤ (upI (m.2 46) a (((m.2 46) a) + 1)) j ∧ (upI (m.2 46) a (((m.2 46) a) + 1)) j ≤ 4 := upI_rg (hT.2.1 46) ⟨by omega, by omega⟩
                    refine T_iast (a' := [(46, upI (m.2 46) a (((m.2 46) a) + 1)), (47, upI (m.2 47) ((4 * a) + ((m.2 46) a)) (m.1 8)), (48, upI (m.2 48) ((4 * a) + ((m.2 46) a)) (m.1 9)), (49, upI (m.2 49) ((4 * a) + ((m.2 46) a)) nu)]) 164 46 (m.2 46) rfl rfl rfl (by omega) (show a < (16 : Int) by omega) rfl rfl ?_
                    refine T_ret rfl (fun _ => rfl) ?_
                    exact ⟨(mO m [(7, y166), (8, y168), (9, y170), (10, 0), (11, y174), (12, y176)] [(46, upI (m.2 46) a (((m.2 46) a) + 1)), (47, upI (m.2 47) ((4 * a) + ((m.2 46) a)) (m.1 8)), (48, upI (m.2 48) ((4 * a) + ((m.2 46) a)) (m.1 9)), (49, upI (m.2 49) ((4 * a) + ((m.2 46) a)) nu)]), (Ty_mO hT rfl rfl ⟨g167, g169, g171, ⟨(by omega : (0 : Int) ≤ 0), (by omega : (0 : Int) ≤ 8)⟩, g175, g177, trivial⟩ ⟨G189, G122, G123, G187, trivial⟩), (show (0 : Int) = 0 → (m.1 10) = 0 by omega), (show LxP y166 y168 y170 (m.1 6) (0 : Int) by first | (first | exact hLx | exact (fun _ => hLx (by omega)) | (intro h9; exfalso; omega)) | (exfalso; omega)), (show ∀ k, (upI (m.2 47) ((4 * a) + ((m.2 46) a)) (m.1 8)) k + (upI (m.2 48) ((4 * a) + ((m.2 46) a)) (m.1 9)) k ≤ 4000 by first | (first | exact hPA | (intro k; have := hPA0 k; have h7 := hLx0 hf0; unfold upI; split <;> omega)) | (exfalso; omega)), (fun _ => (show (m.1 8) + 1 ≤ y168 by omega)), rfl⟩
                  · skip
                    replace h179 : LxP y166 y168 y170 (m.1 6) y172 := h179
                    have hLx := h179
                    replace h180 : y148 ≤ y168 := h180
                    clear h181
                    clear h182
                    replace h183 : (1 : Int) ≤ nu ∧ nu ≤ (64 : Int) := h183
                    clear h184
                    have hf190 : 1 ≤ y172 := by omega
                    clear g147 g149 g151 g155 g157 h158 u163 h180
                    exact J153_15 v109 nu (mO m [(7, y166), (8, y168), (9, y170), (10, y172), (11, y174), (12, y176)] [(46, (m.2 46)), (47, upI (m.2 47) ((4 * a) + ((m.2 46) a)) (m.1 8)), (48, upI (m.2 48) ((4 * a) + ((m.2 46) a)) (m.1 9)), (49, (m.2 49))]) (r32 (by omega) (by omega)) (r32 (by omega) (by omega)) (Ty_mO hT rfl rfl ⟨g167, g169, g171, g173, g175, g177, trivial⟩ ⟨(hT.2.1 46), G122, G123, (hT.2.1 49), trivial⟩) (show 0 ≤ v109 by omega) (show 1 ≤ nu by omega) (show nu ≤ 64 by omega) (show 1 ≤ y172 by omega) (show y172 ≤ 8 by omega) (show ∀ k, (upI (m.2 47) ((4 * a) + ((m.2 46) a)) (m.1 8)) k + (upI (m.2 48) ((4 * a) + ((m.2 46) a)) (m.1 9)) k ≤ 4000 by first | exact hPA | (intro k; have := hPA0 k; have h7 := hLx0 hf0; unfold upI; split <;> omega)) (show (m.2 46) a ≤ 3 by omega) (show 0 ≤ ((4 * a) + ((m.2 46) a)) ∧ ((4 * a) + ((m.2 46) a)) ≤ 64 by omega) (show 0 ≤ (4 * a) + ((m.2 46) a) ∧ (4 * a) + ((m.2 46) a) ≤ 64 by omega)
                · skip
                  replace h158 : LxP y146 y148 y150 (m.1 6) y152 := h158
                  have hLx := h158
                  clear h159
                  replace h160 : y128 ≤ y148 := h160
                  clear h161
                  have hf191 : 1 ≤ y152 := by omega
                  clear g127 g129 g131 g135 g137 h138 h140 h141 u143 h160
                  exact J141_34 v109 (mO m [(7, y146), (8, y148), (9, y150), (10, y152), (11, y154), (12, y156)] [(46, (m.2 46)), (47, upI (m.2 47) ((4 * a) + ((m.2 46) a)) (m.1 8)), (48, upI (m.2 48) ((4 * a) + ((m.2 46) a)) (m.1 9)), (49, (m.2 49))]) (r32 (by omega) (by omega)) (Ty_mO hT rfl rfl ⟨g147, g149, g151, g153, g155, g157, trivial⟩ ⟨(hT.2.1 46), G122, G123, (hT.2.1 49), trivial⟩) (show 0 ≤ v109 by omega) (show 1 ≤ y152 by omega) (show y152 ≤ 8 by omega) (show ∀ k, (upI (m.2 47) ((4 * a) + ((m.2 46) a)) (m.1 8)) k + (upI (m.2 48) ((4 * a) + ((m.2 46) a)) (m.1 9)) k ≤ 4000 by first | exact hPA | (intro k; have := hPA0 k; have h7 := hLx0 hf0; unfold upI; split <;> omega)) (show (m.2 46) a ≤ 3 by omega) (show 0 ≤ ((4 * a) + ((m.2 46) a)) ∧ ((4 * a) + ((m.2 46) a)) ≤ 64 by omega)
              · skip
                replace h138 : LxP y126 y128 y130 (m.1 6) y132 := h138
                have hLx := h138
                clear h139
                replace h140 : (m.1 8) ≤ y128 := h140
                clear h141
                have hf192 : 1 ≤ y132 := by omega
                clear q100a q100b q100 q101_10 q101_11 ic102 ic103 ic104 ic105 q113_10 q113_11 h121
                exact J135_68 v109 (mO m [(7, y126), (8, y128), (9, y130), (10, y132), (11, y134), (12, y136)] [(46, (m.2 46)), (47, upI (m.2 47) ((4 * a) + ((m.2 46) a)) (m.1 8)), (48, upI (m.2 48) ((4 * a) + ((m.2 46) a)) (m.1 9)), (49, (m.2 49))]) (r32 (by omega) (by omega)) (Ty_mO hT rfl rfl ⟨g127, g129, g131, g133, g135, g137, trivial⟩ ⟨(hT.2.1 46), G122, G123, (hT.2.1 49), trivial⟩) (show 0 ≤ v109 by omega) (show 1 ≤ y132 by omega) (show y132 ≤ 8 by omega) (show ∀ k, (upI (m.2 47) ((4 * a) + ((m.2 46) a)) (m.1 8)) k + (upI (m.2 48) ((4 * a) + ((m.2 46) a)) (m.1 9)) k ≤ 4000 by first | exact hPA | (intro k; have := hPA0 k; have h7 := hLx0 hf0; unfold upI; split <;> omega)) (show (m.2 46) a ≤ 3 by omega) (show 0 ≤ ((4 * a) + ((m.2 46) a)) ∧ ((4 * a) + ((m.2 46) a)) ≤ 64 by omega)
            · skip
              refine T_gf 66 (.int (i32 (m110.1 10))) rfl rfl rfl rfl rfl rfl ?_
              refine T_if 103 69 rfl rfl rfl (r32 (by omega) (by omega)) (fun (h193 : (m110.1 10) ≠ 0) => by exfalso; omega) (fun (h193 : ¬ ((m110.1 10) ≠ 0)) => ?_)
              have hp3 := hPA v109
              refine T_ld 70 (.ref 189) rfl (fun _ => rfl) ?_
              refine T_gf 74 (.ref 217) rfl rfl rfl rfl rfl rfl ?_
              refine T_ld 75 (.int (i32 v109)) rfl (fun _ => rfl) ?_
              refine T_iald 76 47 (m.2 47) rfl rfl rfl (by omega) (show v109 < (64 : Int) by omega) rfl ?_
              have e194 : 0 ≤ (m.2 47) v109 ∧ (m.2 47) v109 ≤ 4000 := (hT.2.1 47) v109
              refine T_gf 80 (.ref 218) rfl rfl rfl rfl rfl rfl ?_
              refine T_ld 81 (.int (i32 v109)) rfl (fun _ => rfl) ?_
              refine T_iald 82 48 (m.2 48) rfl rfl rfl (by omega) (show v109 < (64 : Int) by omega) rfl ?_
              have e195 : 0 ≤ (m.2 48) v109 ∧ (m.2 48) v109 ≤ 4000 := (hT.2.1 48) v109
              refine T_call 85 230 [.ref 189, .int (i32 ((m.2 47) v109)), .int (i32 ((m.2 48) v109))] [] rfl (fun _ => rfl) rfl (c_isHere w (mO m [(7, (m.1 7)), (8, (m.1 8)), (9, (m.1 9)), (10, (m110.1 10)), (11, (m110.1 11)), (12, (m.1 12))] [(46, (m.2 46)), (47, (m.2 47)), (48, (m.2 48)), (49, (m.2 49))]) c N D (by omega) (Ty_mO hT rfl rfl ⟨f7, f8, f9, (q113.1 10), (q113.1 11), f12, trivial⟩ ⟨(hT.2.1 46), (hT.2.1 47), (hT.2.1 48), (hT.2.1 49), trivial⟩) ((m.2 47) v109) ((m.2 48) v109) (r32 (by omega) (by omega)) (r32 (by omega) (by omega)) (show 0 ≤ ((m.2 47) v109) by omega) (show 0 ≤ ((m.2 48) v109) by omega) (show ((m.2 47) v109) + ((m.2 48) v109) ≤ 4000 by omega) (show 1 ≤ (m.1 9) ∧ (m.1 8) + (m.1 9) ≤ (m.1 6) by first | omega | (have h8 := hLx (by omega); omega))) (fun rr196 k197 => ?_)
              obtain ⟨x198, g199, h200, rfl⟩ := k197
              refine ⟨_, _, rfl, ?_⟩
              refine T_nf2 (st' := [.int (i32 x198)]) (l' := [(7, (m.1 7)), (8, (m.1 8)), (9, (m.1 9)), (10, (m110.1 10)), (11, (m110.1 11)), (12, (m.1 12))]) (a' := [(46, (m.2 46)), (47, (m.2 47)), (48, (m.2 48)), (49, (m.2 49))]) [] [] rfl ⟨rfl, rfl, rfl, rfl, rfl, rfl, rfl, rfl, rfl, rfl, rfl, rfl, trivial⟩ ⟨rfl, rfl, rfl, rfl, rfl, rfl, rfl, rfl, trivial⟩ rfl rfl (by decide) (by decide) ?_
              obtain ⟨g199a, g199b⟩ := g199
              replace h200 : (x198 = 1 ∧ sameN (m.2 4) (m.1 8) (m.1 9) ((m.2 47) v109) ((m.2 48) v109)) ∨ (x198 = 0 ∧ ¬ sameN (m.2 4) (m.1 8) (m.1 9) ((m.2 47) v109) ((m.2 48) v109)) := h200
              have hh := h200
              have u201 : (m.1 8) ≤ (m.1 8) := by omega
              clear q100a q100b q100 q101_10 q101_11 ic102 ic103 ic104 ic105
              refine T_if 97 88 rfl rfl rfl (r32 (by omega) (by omega)) (fun (h202 : x198 = 0) => ?_) (fun (h202 : ¬ (x198 = 0)) => ?_)
              · skip
                refine T_iinc 100 [(3, .int (i32 (v109 + 1))), (0, .ref 189), (1, .int (i32 a)), (2, .int (i32 ((4 * a) + ((m.2 46) a))))] rfl rfl (by decide) rfl rfl ?_
                refine T_goto 57 rfl (fun _ => rfl) ?_
                refine Tm_lv (a := [(0, .ref 189), (1, .int (i32 a)), (2, .int (i32 ((4 * a) + ((m.2 46) a)))), (3, .int (i32 (v109 + 1)))]) rfl rfl ⟨rfl, rfl, rfl, rfl, trivial⟩ ?_
                exact ih118 (v109 + 1) (mO m [(7, (m.1 7)), (8, (m.1 8)), (9, (m.1 9)), (10, (m110.1 10)), (11, (m110.1 11)), (12, (m.1 12))] [(46, (m.2 46)), (47, (m.2 47)), (48, (m.2 48)), (49, (m.2 49))]) (r32 (by omega) (by omega)) (Ty_mO hT rfl rfl ⟨f7, f8, f9, (q113.1 10), (q113.1 11), f12, trivial⟩ ⟨(hT.2.1 46), (hT.2.1 47), (hT.2.1 48), (hT.2.1 49), trivial⟩) (show 1 ≤ (v109 + 1) by omega) (show (v109 + 1) ≤ 64 by omega) (show (v109 + 1) ≤ (4 * a) + ((m.2 46) a) by omega) (fun _ => trivial) (show ((4 * a) + ((m.2 46) a)) - (v109 + 1) < (n : Int) by omega)
              · skip
                refine T_ld 89 (.ref 189) rfl (fun _ => rfl) ?_
                refine T_ld 90 (.int (i32 3)) rfl (fun _ => rfl) ?_
                refine T_gf 94 (.int (i32 (m.1 8))) rfl rfl rfl rfl rfl rfl ?_
                refine T_call 97 222 [.ref 189, .int (i32 3), .int (i32 (m.1 8))] [] rfl (fun _ => rfl) rfl (c_wrong w (mO m [(7, (m.1 7)), (8, (m.1 8)), (9, (m.1 9)), (10, (m110.1 10)), (11, (m110.1 11)), (12, (m.1 12))] [(46, (m.2 46)), (47, (m.2 47)), (48, (m.2 48)), (49, (m.2 49))]) c N D (by omega) (Ty_mO hT rfl rfl ⟨f7, f8, f9, (q113.1 10), (q113.1 11), f12, trivial⟩ ⟨(hT.2.1 46), (hT.2.1 47), (hT.2.1 48), (hT.2.1 49), trivial⟩) 3 (m.1 8) ⟨by decide, by decide⟩ (r32 (by omega) (by omega)) (show 1 ≤ (3 : Int) ∧ (3 : Int) ≤ 8 by omega) (show 0 ≤ (m.1 8) ∧ (m.1 8) ≤ 4000 by omega)) (fun rr203 k204 => ?_)
                obtain ⟨y205, y207, g206, g208, h209, rfl⟩ := k204
                refine ⟨_, _, rfl, ?_⟩
                refine T_nf2 (st' := []) (l' := [(7, (m.1 7)), (8, (m.1 8)), (9, (m.1 9)), (10, y205), (11, y207), (12, (m.1 12))]) (a' := [(46, (m.2 46)), (47, (m.2 47)), (48, (m.2 48)), (49, (m.2 49))]) [10, 11] [] rfl ⟨rfl, rfl, rfl, rfl, rfl, rfl, rfl, rfl, rfl, rfl, rfl, rfl, rfl, rfl, rfl, trivial⟩ ⟨rfl, rfl, rfl, rfl, rfl, rfl, rfl, rfl, trivial⟩ rfl rfl (by decide) (by decide) ?_
                replace h209 : (0 < (m110.1 10) → y205 = (m110.1 10) ∧ y207 = (m110.1 11)) ∧ ((m110.1 10) ≤ 0 → y205 = (3 : Int) ∧ y207 = (m.1 8)) := h209
                have hf210 : 1 ≤ y205 := by omega
                clear q113_10 q113_11 h193 g199a g199b h200 h202 h209
                refine T_iinc 100 [(3, .int (i32 (v109 + 1))), (0, .ref 189), (1, .int (i32 a)), (2, .int (i32 ((4 * a) + ((m.2 46) a))))] rfl rfl (by decide) rfl rfl ?_
                refine T_goto 57 rfl (fun _ => rfl) ?_
                refine Tm_lv (a := [(0, .ref 189), (1, .int (i32 a)), (2, .int (i32 ((4 * a) + ((m.2 46) a)))), (3, .int (i32 (v109 + 1)))]) rfl rfl ⟨rfl, rfl, rfl, rfl, trivial⟩ ?_
                exact ih118 (v109 + 1) (mO m [(7, (m.1 7)), (8, (m.1 8)), (9, (m.1 9)), (10, y205), (11, y207), (12, (m.1 12))] [(46, (m.2 46)), (47, (m.2 47)), (48, (m.2 48)), (49, (m.2 49))]) (r32 (by omega) (by omega)) (Ty_mO hT rfl rfl ⟨f7, f8, f9, g206, g208, f12, trivial⟩ ⟨(hT.2.1 46), (hT.2.1 47), (hT.2.1 48), (hT.2.1 49), trivial⟩) (show 1 ≤ (v109 + 1) by omega) (show (v109 + 1) ≤ 64 by omega) (show (v109 + 1) ≤ (4 * a) + ((m.2 46) a) by omega) (fun (h : y205 = 0) => absurd h (by omega)) (show ((4 * a) + ((m.2 46) a)) - (v109 + 1) < (n : Int) by omega)
          · skip
            clear c117
            have hf211 : 1 ≤ (m110.1 10) := by omega
            refine T_ld 58 (.int (i32 v109)) rfl (fun _ => rfl) ?_
            refine T_ld 59 (.int (i32 ((4 * a) + ((m.2 46) a)))) rfl (fun _ => rfl) ?_
            refine T_icmp 103 62 rfl rfl rfl (r32 (by omega) (by omega)) (r32 (by omega) (by omega)) (fun (h212 : (4 * a) + ((m.2 46) a) ≤ v109) => ?_) (fun (h212 : ¬ ((4 * a) + ((m.2 46) a) ≤ v109)) => ?_)
            · skip
              refine T_gf 107 (.int (i32 (m110.1 10))) rfl rfl rfl rfl rfl rfl ?_
              refine T_if 111 110 rfl rfl rfl (r32 (by omega) (by omega)) (fun (h213 : (m110.1 10) ≤ 0) => by exfalso; omega) (fun (h213 : ¬ ((m110.1 10) ≤ 0)) => ?_)
              refine T_ret rfl (fun _ => rfl) ?_
              exact ⟨(mO m [(7, (m.1 7)), (8, (m.1 8)), (9, (m.1 9)), (10, (m110.1 10)), (11, (m110.1 11)), (12, (m.1 12))] [(46, (m.2 46)), (47, (m.2 47)), (48, (m.2 48)), (49, (m.2 49))]), (Ty_mO hT rfl rfl ⟨f7, f8, f9, (q113.1 10), (q113.1 11), f12, trivial⟩ ⟨(hT.2.1 46), (hT.2.1 47), (hT.2.1 48), (hT.2.1 49), trivial⟩), (show (m110.1 10) = 0 → (m.1 10) = 0 by omega), (show LxP (m.1 7) (m.1 8) (m.1 9) (m.1 6) (m110.1 10) by first | (first | exact hLx | exact (fun _ => hLx (by omega)) | (intro h9; exfalso; omega)) | (exfalso; omega)), (show ∀ k, (m.2 47) k + (m.2 48) k ≤ 4000 by first | (first | exact hPA | (intro k; have := hPA0 k; have h7 := hLx0 hf0; unfold upI; split <;> omega)) | (exfalso; omega)), (fun (h : (m110.1 10) = 0) => absurd h (by omega)), rfl⟩
            · skip
              refine T_gf 66 (.int (i32 (m110.1 10))) rfl rfl rfl rfl rfl rfl ?_
              refine T_if 103 69 rfl rfl rfl (r32 (by omega) (by omega)) (fun (h214 : (m110.1 10) ≠ 0) => ?_) (fun (h214 : ¬ ((m110.1 10) ≠ 0)) => by exfalso; omega)
              refine T_gf 107 (.int (i32 (m110.1 10))) rfl rfl rfl rfl rfl rfl ?_
              refine T_if 111 110 rfl rfl rfl (r32 (by omega) (by omega)) (fun (h215 : (m110.1 10) ≤ 0) => by exfalso; omega) (fun (h215 : ¬ ((m110.1 10) ≤ 0)) => ?_)
              refine T_ret rfl (fun _ => rfl) ?_
              exact ⟨(mO m [(7, (m.1 7)), (8, (m.1 8)), (9, (m.1 9)), (10, (m110.1 10)), (11, (m110.1 11)), (12, (m.1 12))] [(46, (m.2 46)), (47, (m.2 47)), (48, (m.2 48)), (49, (m.2 49))]), (Ty_mO hT rfl rfl ⟨f7, f8, f9, (q113.1 10), (q113.1 11), f12, trivial⟩ ⟨(hT.2.1 46), (hT.2.1 47), (hT.2.1 48), (hT.2.1 49), trivial⟩), (show (m110.1 10) = 0 → (m.1 10) = 0 by omega), (show LxP (m.1 7) (m.1 8) (m.1 9) (m.1 6) (m110.1 10) by first | (first | exact hLx | exact (fun _ => hLx (by omega)) | (intro h9; exfalso; omega)) | (exfalso; omega)), (show ∀ k, (m.2 47) k + (m.2 48) k ≤ 4000 by first | (first | exact hPA | (intro k; have := hPA0 k; have h7 := hLx0 hf0; unfold upI; split <;> omega)) | (exfalso; omega)), (fun (h : (m110.1 10) = 0) => absurd h (by omega)), rfl⟩
      refine Tm_lv (a := [(0, .ref 189), (1, .int (i32 a)), (2, .int (i32 ((4 * a) + ((m.2 46) a)))), (3, .int (i32 (v97 + 1)))]) rfl rfl ⟨rfl, rfl, rfl, rfl, trivial⟩ ?_
      exact L57_111 ((((4 * a) + ((m.2 46) a)) - (v97 + 1) : Int) + 1).toNat (v97 + 1) (mO m [(7, (m.1 7)), (8, (m.1 8)), (9, (m.1 9)), (10, (m98.1 10)), (11, (m98.1 11)), (12, (m.1 12))] [(46, (m.2 46)), (47, (m.2 47)), (48, (m.2 48)), (49, (m.2 49))]) (r32 (by omega) (by omega)) (Ty_mO hT rfl rfl ⟨f7, f8, f9, (q101.1 10), (q101.1 11), f12, trivial⟩ ⟨(hT.2.1 46), (hT.2.1 47), (hT.2.1 48), (hT.2.1 49), trivial⟩) (show 1 ≤ (v97 + 1) by omega) (show (v97 + 1) ≤ 64 by omega) (show (v97 + 1) ≤ (4 * a) + ((m.2 46) a) by omega) (fun (h : (m98.1 10) = 0) => absurd h (by omega)) (show ((4 * a) + ((m.2 46) a)) - (v97 + 1) < ((((((4 * a) + ((m.2 46) a)) - (v97 + 1) : Int) + 1).toNat : Nat) : Int) by omega)
    refine T_gf 4 (.int (i32 (m.1 10))) rfl rfl rfl rfl rfl rfl ?_
    refine T_if 8 7 rfl rfl rfl (r32 (by omega) (by omega)) (fun (h216 : (m.1 10) ≤ 0) => ?_) (fun (h216 : ¬ ((m.1 10) ≤ 0)) => by exfalso; omega)
    refine T_ld 9 (.int (i32 4)) rfl (fun _ => rfl) ?_
    refine T_ld 10 (.int (i32 a)) rfl (fun _ => rfl) ?_
    refine T_imul 11 rfl rfl ?_
    refine T_gf 15 (.ref 216) rfl rfl rfl rfl rfl rfl ?_
    refine T_ld 16 (.int (i32 a)) rfl (fun _ => rfl) ?_
    refine T_iald 17 46 (m.2 46) rfl rfl rfl (by omega) (show a < (16 : Int) by omega) rfl ?_
    have e217 : 0 ≤ (m.2 46) a ∧ (m.2 46) a ≤ 4 := (hT.2.1 46) a
    refine T_iadd 18 rfl rfl ?_
    refine T_sto 19 [(2, .int (i32 ((4 * a) + ((m.2 46) a)))), (0, .ref 189), (1, .int (i32 a))] rfl (fun _ => rfl) ?_
    refine T_gf 23 (.int (i32 (m.1 7))) rfl rfl rfl rfl rfl rfl ?_
    refine T_ld 24 (.int (i32 1)) rfl (fun _ => rfl) ?_
    refine T_icmp 34 27 rfl rfl rfl (r32 (by omega) (by omega)) ⟨by decide, by decide⟩ (fun (h218 : (m.1 7) = 1) => ?_) (fun (h218 : ¬ ((m.1 7) = 1)) => ?_)
    · skip
      refine T_gf 38 (.ref 216) rfl rfl rfl rfl rfl rfl ?_
      refine T_ld 39 (.int (i32 a)) rfl (fun _ => rfl) ?_
      refine T_iald 40 46 (m.2 46) rfl rfl rfl (by omega) (show a < (16 : Int) by omega) rfl ?_
      have e219 : 0 ≤ (m.2 46) a ∧ (m.2 46) a ≤ 4 := (hT.2.1 46) a
      refine T_ld 41 (.int (i32 4)) rfl (fun _ => rfl) ?_
      refine T_icmp 53 44 rfl rfl rfl (r32 (by omega) (by omega)) ⟨by decide, by decide⟩ (fun (h220 : (m.2 46) a ≠ 4) => ?_) (fun (h220 : ¬ ((m.2 46) a ≠ 4)) => ?_)
      · skip
        refine T_ld 54 (.int (i32 4)) rfl (fun _ => rfl) ?_
        refine T_ld 55 (.int (i32 a)) rfl (fun _ => rfl) ?_
        refine T_imul 56 rfl rfl ?_
        refine T_sto 57 [(3, .int (i32 (4 * a))), (2, .int (i32 ((4 * a) + ((m.2 46) a)))), (0, .ref 189), (1, .int (i32 a))] rfl (fun _ => rfl) ?_
        have L57_223 : ∀ (n : Nat) (v221 : Int) (m222 : mR), (R32 v221) → (Ty m222) → (0 ≤ v221) → (v221 ≤ (4 * a) + ((m.2 46) a)) → ((m222.1 10) = 0 → True) → ((4 * a) + ((m.2 46) a)) - v221 < (n : Int) → TT w D pm_268 (57, [(0, .ref 189), (1, .int (i32 a)), (2, .int (i32 ((4 * a) + ((m.2 46) a)))), (3, .int (i32 v221))], [], (mhp (mO m [(7, (m.1 7)), (8, (m.1 8)), (9, (m.1 9)), (10, (m222.1 10)), (11, (m222.1 11)), (12, (m.1 12))] [(46, (m.2 46)), (47, (m.2 47)), (48, (m.2 48)), (49, (m.2 49))]) c, N), 0, 0) (Q_takeParameter m c N a) := by
          intro n
          induction n with
          | zero =>
            intro v221 m222 q224 q225 ic226 ic227 c228 hmu
            obtain ⟨q224a, q224b⟩ := id q224
            have q225_10 : 0 ≤ m222.1 10 ∧ m222.1 10 ≤ 8 := q225.1 10
            have q225_11 : (-1) ≤ m222.1 11 ∧ m222.1 11 ≤ 4000 := q225.1 11
            exfalso
            omega
          | succ n ih =>
            intro v221 m222 q224 q225 ic226 ic227 c228 hmu
            obtain ⟨q224a, q224b⟩ := id q224
            have q225_10 : 0 ≤ m222.1 10 ∧ m222.1 10 ≤ 8 := q225.1 10
            have q225_11 : (-1) ≤ m222.1 11 ∧ m222.1 11 ≤ 4000 := q225.1 11
            have ih229 := ih
            by_cases hf230 : (m222.1 10) = 0
            · skip
              refine T_ld 58 (.int (i32 v221)) rfl (fun _ => rfl) ?_
              refine T_ld 59 (.int (i32 ((4 * a) + ((m.2 46) a)))) rfl (fun _ => rfl) ?_
              refine T_icmp 103 62 rfl rfl rfl (r32 (by omega) (by omega)) (r32 (by omega) (by omega)) (fun (h231 : (4 * a) + ((m.2 46) a) ≤ v221) => ?_) (fun (h231 : ¬ ((4 * a) + ((m.2 46) a) ≤ v221)) => ?_)
              · skip
                refine T_gf 107 (.int (i32 (m222.1 10))) rfl rfl rfl rfl rfl rfl ?_
                refine T_if 111 110 rfl rfl rfl (r32 (by omega) (by omega)) (fun (h232 : (m222.1 10) ≤ 0) => ?_) (fun (h232 : ¬ ((m222.1 10) ≤ 0)) => by exfalso; omega)
                refine T_gf 115 (.ref 217) rfl rfl rfl rfl rfl rfl ?_
                refine T_ld 116 (.int (i32 ((4 * a) + ((m.2 46) a)))) rfl (fun _ => rfl) ?_
                refine T_gf 120 (.int (i32 (m.1 8))) rfl rfl rfl rfl rfl rfl ?_
                have G233 : ∀ j, 0 ≤ (upI (m.2 47) ((4 * a) + ((m.2 46) a)) (m.1 8)) j ∧ (upI (m.2 47) ((4 * a) + ((m.2 46) a)) (m.1 8)) j ≤ 4000 := upI_rg (hT.2.1 47) ⟨by omega, by omega⟩
                refine T_iast (a' := [(46, (m.2 46)), (47, upI (m.2 47) ((4 * a) + ((m.2 46) a)) (m.1 8)), (48, (m.2 48)), (49, (m.2 49))]) 121 47 (m.2 47) rfl rfl rfl (by omega) (show ((4 * a) + ((m.2 46) a)) < (64 : Int) by omega) rfl rfl ?_
                refine T_gf 125 (.ref 218) rfl rfl rfl rfl rfl rfl ?_
                refine T_ld 126 (.int (i32 ((4 * a) + ((m.2 46) a)))) rfl (fun _ => rfl) ?_
                refine T_gf 130 (.int (i32 (m.1 9))) rfl rfl rfl rfl rfl rfl ?_
                have G234 : ∀ j, 0 ≤ (upI (m.2 48) ((4 * a) + ((m.2 46) a)) (m.1 9)) j ∧ (upI (m.2 48) ((4 * a) + ((m.2 46) a)) (m.1 9)) j ≤ 4000 := upI_rg (hT.2.1 48) ⟨by omega, by omega⟩
                refine T_iast (a' := [(46, (m.2 46)), (47, upI (m.2 47) ((4 * a) + ((m.2 46) a)) (m.1 8)), (48, upI (m.2 48) ((4 * a) + ((m.2 46) a)) (m.1 9)), (49, (m.2 49))]) 131 48 (m.2 48) rfl rfl rfl (by omega) (show ((4 * a) + ((m.2 46) a)) < (64 : Int) by omega) rfl rfl ?_
                refine T_ld 132 (.ref 189) rfl (fun _ => rfl) ?_
                refine T_call 135 212 [.ref 189] [] rfl (fun _ => rfl) rfl (c_next w (mO m [(7, (m.1 7)), (8, (m.1 8)), (9, (m.1 9)), (10, (m222.1 10)), (11, (m222.1 11)), (12, (m.1 12))] [(46, (m.2 46)), (47, upI (m.2 47) ((4 * a) + ((m.2 46) a)) (m.1 8)), (48, upI (m.2 48) ((4 * a) + ((m.2 46) a)) (m.1 9)), (49, (m.2 49))]) c N D (by omega) (Ty_mO hT rfl rfl ⟨f7, f8, f9, (q225.1 10), (q225.1 11), f12, trivial⟩ ⟨(hT.2.1 46), G233, G234, (hT.2.1 49), trivial⟩) (show (m222.1 10) = 0 → (m.1 8) + (m.1 9) ≤ (m.1 6) by first | omega | (intro h9; have h8 := hLx h9; omega))) (fun rr235 k236 => ?_)
                obtain ⟨y237, y239, y241, y243, y245, y247, g238, g240, g242, g244, g246, g248, h249, h250, h251, h252, rfl⟩ := k236
                refine ⟨_, _, rfl, ?_⟩
                refine T_nf2 (st' := []) (l' := [(7, y237), (8, y239), (9, y241), (10, y243), (11, y245), (12, y247)]) (a' := [(46, (m.2 46)), (47, upI (m.2 47) ((4 * a) + ((m.2 46) a)) (m.1 8)), (48, upI (m.2 48) ((4 * a) + ((m.2 46) a)) (m.1 9)), (49, (m.2 49))]) [7, 8, 9, 10, 11, 12] [] rfl ⟨rfl, rfl, rfl, rfl, rfl, rfl, rfl, rfl, rfl, rfl, rfl, rfl, trivial⟩ ⟨rfl, rfl, rfl, rfl, rfl, rfl, rfl, rfl, trivial⟩ rfl rfl (by decide) (by decide) ?_
                by_cases hf253 : y243 = 0
                · skip
                  subst hf253
                  replace h249 : LxP y237 y239 y241 (m.1 6) (0 : Int) := h249
                  have hLx := h249
                  replace h250 : (m222.1 10) = 0 := h250 rfl
                  replace h251 : (m.1 8) ≤ y239 := h251
                  replace h252 : (m.1 8) + (m.1 9) ≤ y239 := h252 rfl
                  have u254 : (m.1 8) + 1 ≤ y239 := by omega
                  clear q225_10 q225_11 h232 g244 h250
                  refine T_ld 136 (.ref 189) rfl (fun _ => rfl) ?_
                  refine T_ld 138 (.int (i32 58)) rfl (fun _ => rfl) ?_
                  refine T_call 141 232 [.ref 189, .int (i32 58)] [] rfl (fun _ => rfl) rfl (c_need w (mO m [(7, y237), (8, y239), (9, y241), (10, 0), (11, y245), (12, y247)] [(46, (m.2 46)), (47, upI (m.2 47) ((4 * a) + ((m.2 46) a)) (m.1 8)), (48, upI (m.2 48) ((4 * a) + ((m.2 46) a)) (m.1 9)), (49, (m.2 49))]) c N D (by omega) (Ty_mO hT rfl rfl ⟨g238, g240, g242, ⟨(by omega : (0 : Int) ≤ 0), (by omega : (0 : Int) ≤ 8)⟩, g246, g248, trivial⟩ ⟨(hT.2.1 46), G233, G234, (hT.2.1 49), trivial⟩) 58 ⟨by decide, by decide⟩ (show 1 ≤ (58 : Int) by omega) (show LxP y237 y239 y241 (m.1 6) (0 : Int) by first | exact hLx | (intro h9; exfalso; omega) | (intro h9; have h8 := hLx (by omega); omega))) (fun rr255 k256 => ?_)
                  obtain ⟨y257, y259, y261, y263, y265, y267, g258, g260, g262, g264, g266, g268, h269, h270, h271, h272, rfl⟩ := k256
                  refine ⟨_, _, rfl, ?_⟩
                  refine T_nf2 (st' := []) (l' := [(7, y257), (8, y259), (9, y261), (10, y263), (11, y265), (12, y267)]) (a' := [(46, (m.2 46)), (47, upI (m.2 47) ((4 * a) + ((m.2 46) a)) (m.1 8)), (48, upI (m.2 48) ((4 * a) + ((m.2 46) a)) (m.1 9)), (49, (m.2 49))]) [7, 8, 9, 10, 11, 12] [] rfl ⟨rfl, rfl, rfl, rfl, rfl, rfl, rfl, rfl, rfl, rfl, rfl, rfl, trivial⟩ ⟨rfl, rfl, rfl, rfl, rfl, rfl, rfl, rfl, trivial⟩ rfl rfl (by decide) (by decide) ?_
                  by_cases hf273 : y263 = 0
                  · skip
                    subst hf273
                    replace h269 : LxP y257 y259 y261 (m.1 6) (0 : Int) := h269
                    have hLx := h269
                    replace h270 : (0 : Int) = 0 ∧ y237 = (58 : Int) := h270 rfl
                    replace h271 : y239 ≤ y259 := h271
                    replace h272 : y239 + y241 ≤ y259 := h272 rfl
                    have u274 : (m.1 8) + 1 ≤ y259 := by omega
                    clear g238 g240 g242 g246 g248 h249 h251 h252 u254 g264 h270 h271 h272
                    refine T_gf 145 (.ref 219) rfl rfl rfl rfl rfl rfl ?_
                    refine T_ld 146 (.int (i32 ((4 * a) + ((m.2 46) a)))) rfl (fun _ => rfl) ?_
                    refine T_ld 147 (.ref 189) rfl (fun _ => rfl) ?_
                    refine T_ld 148 (.int (i32 1)) rfl (fun _ => rfl) ?_
                    refine T_ld 150 (.int (i32 64)) rfl (fun _ => rfl) ?_
                    refine T_call 153 234 [.ref 189, .int (i32 1), .int (i32 64)] [.int (i32 ((4 * a) + ((m.2 46) a))), .ref 219] rfl (fun _ => rfl) rfl (c_number w (mO m [(7, y257), (8, y259), (9, y261), (10, 0), (11, y265), (12, y267)] [(46, (m.2 46)), (47, upI (m.2 47) ((4 * a) + ((m.2 46) a)) (m.1 8)), (48, upI (m.2 48) ((4 * a) + ((m.2 46) a)) (m.1 9)), (49, (m.2 49))]) c N D (by omega) (Ty_mO hT rfl rfl ⟨g258, g260, g262, ⟨(by omega : (0 : Int) ≤ 0), (by omega : (0 : Int) ≤ 8)⟩, g266, g268, trivial⟩ ⟨(hT.2.1 46), G233, G234, (hT.2.1 49), trivial⟩) 1 64 ⟨by decide, by decide⟩ ⟨by decide, by decide⟩ (show LxP y257 y259 y261 (m.1 6) (0 : Int) by first | exact hLx | (intro h9; exfalso; omega) | (intro h9; have h8 := hLx (by omega); omega)) (show (1 : Int) ≤ (64 : Int) by omega)) (fun rr275 k276 => ?_)
                    obtain ⟨y277, y279, y281, y283, y285, y287, nu, g278, g280, g282, g284, g286, g288, g289, h290, h291, h292, h293, h294, h295, rfl⟩ := k276
                    refine ⟨_, _, rfl, ?_⟩
                    refine T_nf2 (st' := [.int (i32 nu), .int (i32 ((4 * a) + ((m.2 46) a))), .ref 219]) (l' := [(7, y277), (8, y279), (9, y281), (10, y283), (11, y285), (12, y287)]) (a' := [(46, (m.2 46)), (47, upI (m.2 47) ((4 * a) + ((m.2 46) a)) (m.1 8)), (48, upI (m.2 48) ((4 * a) + ((m.2 46) a)) (m.1 9)), (49, (m.2 49))]) [7, 8, 9, 10, 11, 12] [] rfl ⟨rfl, rfl, rfl, rfl, rfl, rfl, rfl, rfl, rfl, rfl, rfl, rfl, trivial⟩ ⟨rfl, rfl, rfl, rfl, rfl, rfl, rfl, rfl, trivial⟩ rfl rfl (by decide) (by decide) ?_
                    obtain ⟨g289a, g289b⟩ := g289
                    by_cases hf296 : y283 = 0
                    · skip
                      subst hf296
                      replace h290 : LxP y277 y279 y281 (m.1 6) (0 : Int) := h290
                      have hLx := h290
                      replace h291 : y259 ≤ y279 := h291
                      replace h292 : (0 : Int) = 0 ∧ y259 + y261 ≤ y279 := h292 rfl
                      replace h293 : y257 = 2 := h293 rfl
                      replace h294 : (1 : Int) ≤ nu ∧ nu ≤ (64 : Int) := h294
                      replace h295 : nu = y267 := h295 rfl
                      have u297 : (m.1 8) + 1 ≤ y279 := by omega
                      clear g258 g260 g262 g266 g268 h269 u274 g284 h291 h292 h293 h295
                      have G298 : ∀ j, 0 ≤ (upI (m.2 49) ((4 * a) + ((m.2 46) a)) nu) j ∧ (upI (m.2 49) ((4 * a) + ((m.2 46) a)) nu) j ≤ 64 := upI_rg (hT.2.1 49) ⟨by omega, by omega⟩
                      refine T_iast (a' := [(46, (m.2 46)), (47, upI (m.2 47) ((4 * a) + ((m.2 46) a)) (m.1 8)), (48, upI (m.2 48) ((4 * a) + ((m.2 46) a)) (m.1 9)), (49, upI (m.2 49) ((4 * a) + ((m.2 46) a)) nu)]) 154 49 (m.2 49) rfl rfl rfl (by omega) (show ((4 * a) + ((m.2 46) a)) < (64 : Int) by omega) rfl rfl ?_
                      refine T_gf 158 (.ref 216) rfl rfl rfl rfl rfl rfl ?_
                      refine T_ld 159 (.int (i32 a)) rfl (fun _ => rfl) ?_
                      refine T_dup2 160 rfl (fun _ => rfl) ?_
                      refine T_iald 161 46 (m.2 46) rfl rfl rfl (by omega) (show a < (16 : Int) by omega) rfl ?_
                      have e299 : 0 ≤ (m.2 46) a ∧ (m.2 46) a ≤ 4 := (hT.2.1 46) a
                      refine T_ld 162 (.int (i32 1)) rfl (fun _ => rfl) ?_
                      refine T_iadd 163 rfl rfl ?_
                      have G300 : ∀ j, 0 ≤ (upI (m.2 46) a (((m.2 46) a) + 1)) j ∧ (upI (m.2 46) a (((m.2 46) a) + 1)) j ≤ 4 := upI_rg (hT.2.1 46) ⟨by omega, by omega⟩
                      refine T_iast (a' := [(46, upI (m.2 46) a (((m.2 46) a) + 1)), (47, upI (m.2 47) ((4 * a) + ((m.2 46) a)) (m.1 8)), (48, upI (m.2 48) ((4 * a) + ((m.2 46) a)) (m.1 9)), (49, upI (m.2 49) ((4 * a) + ((m.2 46) a)) nu)]) 164 46 (m.2 46) rfl rfl rfl (by omega) (show a < (16 : Int) by omega) rfl rfl ?_
                      refine T_ret rfl (fun _ => rfl) ?_
                      exact ⟨(mO m [(7, y277), (8, y279), (9, y281), (10, 0), (11, y285), (12, y287)] [(46, upI (m.2 46) a (((m.2 46) a) + 1)), (47, upI (m.2 47) ((4 * a) + ((m.2 46) a)) (m.1 8)), (48, upI (m.2 48) ((4 * a) + ((m.2 46) a)) (m.1 9)), (49, upI (m.2 49) ((4 * a) + ((m.2 46) a)) nu)]), (Ty_mO hT rfl rfl ⟨g278, g280, g282, ⟨(by omega : (0 : Int) ≤ 0), (by omega : (0 : Int) ≤ 8)⟩, g286, g288, trivial⟩ ⟨G300, G233, G234, G298, trivial⟩), (show (0 : Int) = 0 → (m.1 10) = 0 by omega), (show LxP y277 y279 y281 (m.1 6) (0 : Int) by first | (first | exact hLx | exact (fun _ => hLx (by omega)) | (intro h9; exfalso; omega)) | (exfalso; omega)), (show ∀ k, (upI (m.2 47) ((4 * a) + ((m.2 46) a)) (m.1 8)) k + (upI (m.2 48) ((4 * a) + ((m.2 46) a)) (m.1 9)) k ≤ 4000 by first | (first | exact hPA | (intro k; have := hPA0 k; have h7 := hLx0 hf0; unfold upI; split <;> omega)) | (exfalso; omega)), (fun _ => (show (m.1 8) + 1 ≤ y279 by omega)), rfl⟩
                    · skip
                      replace h290 : LxP y277 y279 y281 (m.1 6) y283 := h290
                      have hLx := h290
                      replace h291 : y259 ≤ y279 := h291
                      clear h292
                      clear h293
                      replace h294 : (1 : Int) ≤ nu ∧ nu ≤ (64 : Int) := h294
                      clear h295
                      have hf301 : 1 ≤ y283 := by omega
                      clear g258 g260 g262 g266 g268 h269 u274 h291
                      exact J153_15 v221 nu (mO m [(7, y277), (8, y279), (9, y281), (10, y283), (11, y285), (12, y287)] [(46, (m.2 46)), (47, upI (m.2 47) ((4 * a) + ((m.2 46) a)) (m.1 8)), (48, upI (m.2 48) ((4 * a) + ((m.2 46) a)) (m.1 9)), (49, (m.2 49))]) (r32 (by omega) (by omega)) (r32 (by omega) (by omega)) (Ty_mO hT rfl rfl ⟨g278, g280, g282, g284, g286, g288, trivial⟩ ⟨(hT.2.1 46), G233, G234, (hT.2.1 49), trivial⟩) (show 0 ≤ v221 by omega) (show 1 ≤ nu by omega) (show nu ≤ 64 by omega) (show 1 ≤ y283 by omega) (show y283 ≤ 8 by omega) (show ∀ k, (upI (m.2 47) ((4 * a) + ((m.2 46) a)) (m.1 8)) k + (upI (m.2 48) ((4 * a) + ((m.2 46) a)) (m.1 9)) k ≤ 4000 by first | exact hPA | (intro k; have := hPA0 k; have h7 := hLx0 hf0; unfold upI; split <;> omega)) (show (m.2 46) a ≤ 3 by omega) (show 0 ≤ ((4 * a) + ((m.2 46) a)) ∧ ((4 * a) + ((m.2 46) a)) ≤ 64 by omega) (show 0 ≤ (4 * a) + ((m.2 46) a) ∧ (4 * a) + ((m.2 46) a) ≤ 64 by omega)
                  · skip
                    replace h269 : LxP y257 y259 y261 (m.1 6) y263 := h269
                    have hLx := h269
                    clear h270
                    replace h271 : y239 ≤ y259 := h271
                    clear h272
                    have hf302 : 1 ≤ y263 := by omega
                    clear g238 g240 g242 g246 g248 h249 h251 h252 u254 h271
                    exact J141_34 v221 (mO m [(7, y257), (8, y259), (9, y261), (10, y263), (11, y265), (12, y267)] [(46, (m.2 46)), (47, upI (m.2 47) ((4 * a) + ((m.2 46) a)) (m.1 8)), (48, upI (m.2 48) ((4 * a) + ((m.2 46) a)) (m.1 9)), (49, (m.2 49))]) (r32 (by omega) (by omega)) (Ty_mO hT rfl rfl ⟨g258, g260, g262, g264, g266, g268, trivial⟩ ⟨(hT.2.1 46), G233, G234, (hT.2.1 49), trivial⟩) (show 0 ≤ v221 by omega) (show 1 ≤ y263 by omega) (show y263 ≤ 8 by omega) (show ∀ k, (upI (m.2 47) ((4 * a) + ((m.2 46) a)) (m.1 8)) k + (upI (m.2 48) ((4 * a) + ((m.2 46) a)) (m.1 9)) k ≤ 4000 by first | exact hPA | (intro k; have := hPA0 k; have h7 := hLx0 hf0; unfold upI; split <;> omega)) (show (m.2 46) a ≤ 3 by omega) (show 0 ≤ ((4 * a) + ((m.2 46) a)) ∧ ((4 * a) + ((m.2 46) a)) ≤ 64 by omega)
                · skip
                  replace h249 : LxP y237 y239 y241 (m.1 6) y243 := h249
                  have hLx := h249
                  clear h250
                  replace h251 : (m.1 8) ≤ y239 := h251
                  clear h252
                  have hf303 : 1 ≤ y243 := by omega
                  clear q225_10 q225_11 h232
                  exact J135_68 v221 (mO m [(7, y237), (8, y239), (9, y241), (10, y243), (11, y245), (12, y247)] [(46, (m.2 46)), (47, upI (m.2 47) ((4 * a) + ((m.2 46) a)) (m.1 8)), (48, upI (m.2 48) ((4 * a) + ((m.2 46) a)) (m.1 9)), (49, (m.2 49))]) (r32 (by omega) (by omega)) (Ty_mO hT rfl rfl ⟨g238, g240, g242, g244, g246, g248, trivial⟩ ⟨(hT.2.1 46), G233, G234, (hT.2.1 49), trivial⟩) (show 0 ≤ v221 by omega) (show 1 ≤ y243 by omega) (show y243 ≤ 8 by omega) (show ∀ k, (upI (m.2 47) ((4 * a) + ((m.2 46) a)) (m.1 8)) k + (upI (m.2 48) ((4 * a) + ((m.2 46) a)) (m.1 9)) k ≤ 4000 by first | exact hPA | (intro k; have := hPA0 k; have h7 := hLx0 hf0; unfold upI; split <;> omega)) (show (m.2 46) a ≤ 3 by omega) (show 0 ≤ ((4 * a) + ((m.2 46) a)) ∧ ((4 * a) + ((m.2 46) a)) ≤ 64 by omega)
              · skip
                refine T_gf 66 (.int (i32 (m222.1 10))) rfl rfl rfl rfl rfl rfl ?_
                refine T_if 103 69 rfl rfl rfl (r32 (by omega) (by omega)) (fun (h304 : (m222.1 10) ≠ 0) => by exfalso; omega) (fun (h304 : ¬ ((m222.1 10) ≠ 0)) => ?_)
                have hp3 := hPA v221
                refine T_ld 70 (.ref 189) rfl (fun _ => rfl) ?_
                refine T_gf 74 (.ref 217) rfl rfl rfl rfl rfl rfl ?_
                refine T_ld 75 (.int (i32 v221)) rfl (fun _ => rfl) ?_
                refine T_iald 76 47 (m.2 47) rfl rfl rfl (by omega) (show v221 < (64 : Int) by omega) rfl ?_
                have e305 : 0 ≤ (m.2 47) v221 ∧ (m.2 47) v221 ≤ 4000 := (hT.2.1 47) v221
                refine T_gf 80 (.ref 218) rfl rfl rfl rfl rfl rfl ?_
                refine T_ld 81 (.int (i32 v221)) rfl (fun _ => rfl) ?_
                refine T_iald 82 48 (m.2 48) rfl rfl rfl (by omega) (show v221 < (64 : Int) by omega) rfl ?_
                have e306 : 0 ≤ (m.2 48) v221 ∧ (m.2 48) v221 ≤ 4000 := (hT.2.1 48) v221
                refine T_call 85 230 [.ref 189, .int (i32 ((m.2 47) v221)), .int (i32 ((m.2 48) v221))] [] rfl (fun _ => rfl) rfl (c_isHere w (mO m [(7, (m.1 7)), (8, (m.1 8)), (9, (m.1 9)), (10, (m222.1 10)), (11, (m222.1 11)), (12, (m.1 12))] [(46, (m.2 46)), (47, (m.2 47)), (48, (m.2 48)), (49, (m.2 49))]) c N D (by omega) (Ty_mO hT rfl rfl ⟨f7, f8, f9, (q225.1 10), (q225.1 11), f12, trivial⟩ ⟨(hT.2.1 46), (hT.2.1 47), (hT.2.1 48), (hT.2.1 49), trivial⟩) ((m.2 47) v221) ((m.2 48) v221) (r32 (by omega) (by omega)) (r32 (by omega) (by omega)) (show 0 ≤ ((m.2 47) v221) by omega) (show 0 ≤ ((m.2 48) v221) by omega) (show ((m.2 47) v221) + ((m.2 48) v221) ≤ 4000 by omega) (show 1 ≤ (m.1 9) ∧ (m.1 8) + (m.1 9) ≤ (m.1 6) by first | omega | (have h8 := hLx (by omega); omega))) (fun rr307 k308 => ?_)
                obtain ⟨x309, g310, h311, rfl⟩ := k308
                refine ⟨_, _, rfl, ?_⟩
                refine T_nf2 (st' := [.int (i32 x309)]) (l' := [(7, (m.1 7)), (8, (m.1 8)), (9, (m.1 9)), (10, (m222.1 10)), (11, (m222.1 11)), (12, (m.1 12))]) (a' := [(46, (m.2 46)), (47, (m.2 47)), (48, (m.2 48)), (49, (m.2 49))]) [] [] rfl ⟨rfl, rfl, rfl, rfl, rfl, rfl, rfl, rfl, rfl, rfl, rfl, rfl, trivial⟩ ⟨rfl, rfl, rfl, rfl, rfl, rfl, rfl, rfl, trivial⟩ rfl rfl (by decide) (by decide) ?_
                obtain ⟨g310a, g310b⟩ := g310
                replace h311 : (x309 = 1 ∧ sameN (m.2 4) (m.1 8) (m.1 9) ((m.2 47) v221) ((m.2 48) v221)) ∨ (x309 = 0 ∧ ¬ sameN (m.2 4) (m.1 8) (m.1 9) ((m.2 47) v221) ((m.2 48) v221)) := h311
                have hh := h311
                have u312 : (m.1 8) ≤ (m.1 8) := by omega
                refine T_if 97 88 rfl rfl rfl (r32 (by omega) (by omega)) (fun (h313 : x309 = 0) => ?_) (fun (h313 : ¬ (x309 = 0)) => ?_)
                · skip
                  refine T_iinc 100 [(3, .int (i32 (v221 + 1))), (0, .ref 189), (1, .int (i32 a)), (2, .int (i32 ((4 * a) + ((m.2 46) a))))] rfl rfl (by decide) rfl rfl ?_
                  refine T_goto 57 rfl (fun _ => rfl) ?_
                  refine Tm_lv (a := [(0, .ref 189), (1, .int (i32 a)), (2, .int (i32 ((4 * a) + ((m.2 46) a)))), (3, .int (i32 (v221 + 1)))]) rfl rfl ⟨rfl, rfl, rfl, rfl, trivial⟩ ?_
                  exact ih229 (v221 + 1) (mO m [(7, (m.1 7)), (8, (m.1 8)), (9, (m.1 9)), (10, (m222.1 10)), (11, (m222.1 11)), (12, (m.1 12))] [(46, (m.2 46)), (47, (m.2 47)), (48, (m.2 48)), (49, (m.2 49))]) (r32 (by omega) (by omega)) (Ty_mO hT rfl rfl ⟨f7, f8, f9, (q225.1 10), (q225.1 11), f12, trivial⟩ ⟨(hT.2.1 46), (hT.2.1 47), (hT.2.1 48), (hT.2.1 49), trivial⟩) (show 0 ≤ (v221 + 1) by omega) (show (v221 + 1) ≤ (4 * a) + ((m.2 46) a) by omega) (fun _ => trivial) (show ((4 * a) + ((m.2 46) a)) - (v221 + 1) < (n : Int) by omega)
                · skip
                  refine T_ld 89 (.ref 189) rfl (fun _ => rfl) ?_
                  refine T_ld 90 (.int (i32 3)) rfl (fun _ => rfl) ?_
                  refine T_gf 94 (.int (i32 (m.1 8))) rfl rfl rfl rfl rfl rfl ?_
                  refine T_call 97 222 [.ref 189, .int (i32 3), .int (i32 (m.1 8))] [] rfl (fun _ => rfl) rfl (c_wrong w (mO m [(7, (m.1 7)), (8, (m.1 8)), (9, (m.1 9)), (10, (m222.1 10)), (11, (m222.1 11)), (12, (m.1 12))] [(46, (m.2 46)), (47, (m.2 47)), (48, (m.2 48)), (49, (m.2 49))]) c N D (by omega) (Ty_mO hT rfl rfl ⟨f7, f8, f9, (q225.1 10), (q225.1 11), f12, trivial⟩ ⟨(hT.2.1 46), (hT.2.1 47), (hT.2.1 48), (hT.2.1 49), trivial⟩) 3 (m.1 8) ⟨by decide, by decide⟩ (r32 (by omega) (by omega)) (show 1 ≤ (3 : Int) ∧ (3 : Int) ≤ 8 by omega) (show 0 ≤ (m.1 8) ∧ (m.1 8) ≤ 4000 by omega)) (fun rr314 k315 => ?_)
                  obtain ⟨y316, y318, g317, g319, h320, rfl⟩ := k315
                  refine ⟨_, _, rfl, ?_⟩
                  refine T_nf2 (st' := []) (l' := [(7, (m.1 7)), (8, (m.1 8)), (9, (m.1 9)), (10, y316), (11, y318), (12, (m.1 12))]) (a' := [(46, (m.2 46)), (47, (m.2 47)), (48, (m.2 48)), (49, (m.2 49))]) [10, 11] [] rfl ⟨rfl, rfl, rfl, rfl, rfl, rfl, rfl, rfl, rfl, rfl, rfl, rfl, rfl, rfl, rfl, trivial⟩ ⟨rfl, rfl, rfl, rfl, rfl, rfl, rfl, rfl, trivial⟩ rfl rfl (by decide) (by decide) ?_
                  replace h320 : (0 < (m222.1 10) → y316 = (m222.1 10) ∧ y318 = (m222.1 11)) ∧ ((m222.1 10) ≤ 0 → y316 = (3 : Int) ∧ y318 = (m.1 8)) := h320
                  have hf321 : 1 ≤ y316 := by omega
                  clear q225_10 q225_11 h304 g310a g310b h311 h313 h320
                  exact J97_99 v221 (mO m [(7, (m.1 7)), (8, (m.1 8)), (9, (m.1 9)), (10, y316), (11, y318), (12, (m.1 12))] [(46, (m.2 46)), (47, (m.2 47)), (48, (m.2 48)), (49, (m.2 49))]) (r32 (by omega) (by omega)) (Ty_mO hT rfl rfl ⟨f7, f8, f9, g317, g319, f12, trivial⟩ ⟨(hT.2.1 46), (hT.2.1 47), (hT.2.1 48), (hT.2.1 49), trivial⟩) (show 0 ≤ v221 by omega) (show v221 ≤ 63 by omega) (show 1 ≤ y316 by omega) (show y316 ≤ 8 by omega) (show ∀ k, (m.2 47) k + (m.2 48) k ≤ 4000 by first | exact hPA | (intro k; have := hPA0 k; have h7 := hLx0 hf0; unfold upI; split <;> omega)) (show 1 ≤ ((4 * a) + ((m.2 46) a)) ∧ ((4 * a) + ((m.2 46) a)) ≤ 64 by omega)
            · skip
              clear c228
              have hf322 : 1 ≤ (m222.1 10) := by omega
              refine T_ld 58 (.int (i32 v221)) rfl (fun _ => rfl) ?_
              refine T_ld 59 (.int (i32 ((4 * a) + ((m.2 46) a)))) rfl (fun _ => rfl) ?_
              refine T_icmp 103 62 rfl rfl rfl (r32 (by omega) (by omega)) (r32 (by omega) (by omega)) (fun (h323 : (4 * a) + ((m.2 46) a) ≤ v221) => ?_) (fun (h323 : ¬ ((4 * a) + ((m.2 46) a) ≤ v221)) => ?_)
              · skip
                refine T_gf 107 (.int (i32 (m222.1 10))) rfl rfl rfl rfl rfl rfl ?_
                refine T_if 111 110 rfl rfl rfl (r32 (by omega) (by omega)) (fun (h324 : (m222.1 10) ≤ 0) => by exfalso; omega) (fun (h324 : ¬ ((m222.1 10) ≤ 0)) => ?_)
                refine T_ret rfl (fun _ => rfl) ?_
                exact ⟨(mO m [(7, (m.1 7)), (8, (m.1 8)), (9, (m.1 9)), (10, (m222.1 10)), (11, (m222.1 11)), (12, (m.1 12))] [(46, (m.2 46)), (47, (m.2 47)), (48, (m.2 48)), (49, (m.2 49))]), (Ty_mO hT rfl rfl ⟨f7, f8, f9, (q225.1 10), (q225.1 11), f12, trivial⟩ ⟨(hT.2.1 46), (hT.2.1 47), (hT.2.1 48), (hT.2.1 49), trivial⟩), (show (m222.1 10) = 0 → (m.1 10) = 0 by omega), (show LxP (m.1 7) (m.1 8) (m.1 9) (m.1 6) (m222.1 10) by first | (first | exact hLx | exact (fun _ => hLx (by omega)) | (intro h9; exfalso; omega)) | (exfalso; omega)), (show ∀ k, (m.2 47) k + (m.2 48) k ≤ 4000 by first | (first | exact hPA | (intro k; have := hPA0 k; have h7 := hLx0 hf0; unfold upI; split <;> omega)) | (exfalso; omega)), (fun (h : (m222.1 10) = 0) => absurd h (by omega)), rfl⟩
              · skip
                refine T_gf 66 (.int (i32 (m222.1 10))) rfl rfl rfl rfl rfl rfl ?_
                refine T_if 103 69 rfl rfl rfl (r32 (by omega) (by omega)) (fun (h325 : (m222.1 10) ≠ 0) => ?_) (fun (h325 : ¬ ((m222.1 10) ≠ 0)) => by exfalso; omega)
                refine T_gf 107 (.int (i32 (m222.1 10))) rfl rfl rfl rfl rfl rfl ?_
                refine T_if 111 110 rfl rfl rfl (r32 (by omega) (by omega)) (fun (h326 : (m222.1 10) ≤ 0) => by exfalso; omega) (fun (h326 : ¬ ((m222.1 10) ≤ 0)) => ?_)
                refine T_ret rfl (fun _ => rfl) ?_
                exact ⟨(mO m [(7, (m.1 7)), (8, (m.1 8)), (9, (m.1 9)), (10, (m222.1 10)), (11, (m222.1 11)), (12, (m.1 12))] [(46, (m.2 46)), (47, (m.2 47)), (48, (m.2 48)), (49, (m.2 49))]), (Ty_mO hT rfl rfl ⟨f7, f8, f9, (q225.1 10), (q225.1 11), f12, trivial⟩ ⟨(hT.2.1 46), (hT.2.1 47), (hT.2.1 48), (hT.2.1 49), trivial⟩), (show (m222.1 10) = 0 → (m.1 10) = 0 by omega), (show LxP (m.1 7) (m.1 8) (m.1 9) (m.1 6) (m222.1 10) by first | (first | exact hLx | exact (fun _ => hLx (by omega)) | (intro h9; exfalso; omega)) | (exfalso; omega)), (show ∀ k, (m.2 47) k + (m.2 48) k ≤ 4000 by first | (first | exact hPA | (intro k; have := hPA0 k; have h7 := hLx0 hf0; unfold upI; split <;> omega)) | (exfalso; omega)), (fun (h : (m222.1 10) = 0) => absurd h (by omega)), rfl⟩
        refine Tm_lv (a := [(0, .ref 189), (1, .int (i32 a)), (2, .int (i32 ((4 * a) + ((m.2 46) a)))), (3, .int (i32 (4 * a)))]) rfl rfl ⟨rfl, rfl, rfl, rfl, trivial⟩ ?_
        exact L57_223 ((((4 * a) + ((m.2 46) a)) - (4 * a) : Int) + 1).toNat (4 * a) (mO m [(7, (m.1 7)), (8, (m.1 8)), (9, (m.1 9)), (10, (m.1 10)), (11, (m.1 11)), (12, (m.1 12))] [(46, (m.2 46)), (47, (m.2 47)), (48, (m.2 48)), (49, (m.2 49))]) (r32 (by omega) (by omega)) (Ty_mO hT rfl rfl ⟨f7, f8, f9, f10, f11, f12, trivial⟩ ⟨(hT.2.1 46), (hT.2.1 47), (hT.2.1 48), (hT.2.1 49), trivial⟩) (show 0 ≤ (4 * a) by omega) (show (4 * a) ≤ (4 * a) + ((m.2 46) a) by omega) (fun _ => trivial) (show ((4 * a) + ((m.2 46) a)) - (4 * a) < ((((((4 * a) + ((m.2 46) a)) - (4 * a) : Int) + 1).toNat : Nat) : Int) by omega)
      · skip
        refine T_ld 45 (.ref 189) rfl (fun _ => rfl) ?_
        refine T_ld 46 (.int (i32 4)) rfl (fun _ => rfl) ?_
        refine T_gf 50 (.int (i32 (m.1 8))) rfl rfl rfl rfl rfl rfl ?_
        refine T_call 53 222 [.ref 189, .int (i32 4), .int (i32 (m.1 8))] [] rfl (fun _ => rfl) rfl (c_wrong w (mO m [(7, (m.1 7)), (8, (m.1 8)), (9, (m.1 9)), (10, (m.1 10)), (11, (m.1 11)), (12, (m.1 12))] [(46, (m.2 46)), (47, (m.2 47)), (48, (m.2 48)), (49, (m.2 49))]) c N D (by omega) (Ty_mO hT rfl rfl ⟨f7, f8, f9, f10, f11, f12, trivial⟩ ⟨(hT.2.1 46), (hT.2.1 47), (hT.2.1 48), (hT.2.1 49), trivial⟩) 4 (m.1 8) ⟨by decide, by decide⟩ (r32 (by omega) (by omega)) (show 1 ≤ (4 : Int) ∧ (4 : Int) ≤ 8 by omega) (show 0 ≤ (m.1 8) ∧ (m.1 8) ≤ 4000 by omega)) (fun rr327 k328 => ?_)
        obtain ⟨y329, y331, g330, g332, h333, rfl⟩ := k328
        refine ⟨_, _, rfl, ?_⟩
        refine T_nf2 (st' := []) (l' := [(7, (m.1 7)), (8, (m.1 8)), (9, (m.1 9)), (10, y329), (11, y331), (12, (m.1 12))]) (a' := [(46, (m.2 46)), (47, (m.2 47)), (48, (m.2 48)), (49, (m.2 49))]) [10, 11] [] rfl ⟨rfl, rfl, rfl, rfl, rfl, rfl, rfl, rfl, rfl, rfl, rfl, rfl, rfl, rfl, rfl, trivial⟩ ⟨rfl, rfl, rfl, rfl, rfl, rfl, rfl, rfl, trivial⟩ rfl rfl (by decide) (by decide) ?_
        replace h333 : (0 < (m.1 10) → y329 = (m.1 10) ∧ y331 = (m.1 11)) ∧ ((m.1 10) ≤ 0 → y329 = (4 : Int) ∧ y331 = (m.1 8)) := h333
        have hf334 : 1 ≤ y329 := by omega
        refine T_ld 54 (.int (i32 4)) rfl (fun _ => rfl) ?_
        refine T_ld 55 (.int (i32 a)) rfl (fun _ => rfl) ?_
        refine T_imul 56 rfl rfl ?_
        refine T_sto 57 [(3, .int (i32 (4 * a))), (2, .int (i32 ((4 * a) + ((m.2 46) a)))), (0, .ref 189), (1, .int (i32 a))] rfl (fun _ => rfl) ?_
        have L57_337 : ∀ (n : Nat) (v335 : Int) (m336 : mR), (R32 v335) → (Ty m336) → (0 ≤ v335) → (v335 ≤ (4 * a) + ((m.2 46) a)) → ((m336.1 10) = 0 → True) → ((4 * a) + ((m.2 46) a)) - v335 < (n : Int) → TT w D pm_268 (57, [(0, .ref 189), (1, .int (i32 a)), (2, .int (i32 ((4 * a) + ((m.2 46) a)))), (3, .int (i32 v335))], [], (mhp (mO m [(7, (m.1 7)), (8, (m.1 8)), (9, (m.1 9)), (10, (m336.1 10)), (11, (m336.1 11)), (12, (m.1 12))] [(46, (m.2 46)), (47, (m.2 47)), (48, (m.2 48)), (49, (m.2 49))]) c, N), 0, 0) (Q_takeParameter m c N a) := by
          intro n
          induction n with
          | zero =>
            intro v335 m336 q338 q339 ic340 ic341 c342 hmu
            obtain ⟨q338a, q338b⟩ := id q338
            have q339_10 : 0 ≤ m336.1 10 ∧ m336.1 10 ≤ 8 := q339.1 10
            have q339_11 : (-1) ≤ m336.1 11 ∧ m336.1 11 ≤ 4000 := q339.1 11
            exfalso
            omega
          | succ n ih =>
            intro v335 m336 q338 q339 ic340 ic341 c342 hmu
            obtain ⟨q338a, q338b⟩ := id q338
            have q339_10 : 0 ≤ m336.1 10 ∧ m336.1 10 ≤ 8 := q339.1 10
            have q339_11 : (-1) ≤ m336.1 11 ∧ m336.1 11 ≤ 4000 := q339.1 11
            have ih343 := ih
            by_cases hf344 : (m336.1 10) = 0
            · skip
              refine T_ld 58 (.int (i32 v335)) rfl (fun _ => rfl) ?_
              refine T_ld 59 (.int (i32 ((4 * a) + ((m.2 46) a)))) rfl (fun _ => rfl) ?_
              refine T_icmp 103 62 rfl rfl rfl (r32 (by omega) (by omega)) (r32 (by omega) (by omega)) (fun (h345 : (4 * a) + ((m.2 46) a) ≤ v335) => ?_) (fun (h345 : ¬ ((4 * a) + ((m.2 46) a) ≤ v335)) => ?_)
              · skip
                refine T_gf 107 (.int (i32 (m336.1 10))) rfl rfl rfl rfl rfl rfl ?_
                refine T_if 111 110 rfl rfl rfl (r32 (by omega) (by omega)) (fun (h346 : (m336.1 10) ≤ 0) => ?_) (fun (h346 : ¬ ((m336.1 10) ≤ 0)) => by exfalso; omega)
                refine T_gf 115 (.ref 217) rfl rfl rfl rfl rfl rfl ?_
                refine T_ld 116 (.int (i32 ((4 * a) + ((m.2 46) a)))) rfl (fun _ => rfl) ?_
                refine T_gf 120 (.int (i32 (m.1 8))) rfl rfl rfl rfl rfl rfl ?_
                have G347 : ∀ j, 0 ≤ (upI (m.2 47) ((4 * a) + ((m.2 46) a)) (m.1 8)) j ∧ (upI (m.2 47) ((4 * a) + ((m.2 46) a)) (m.1 8)) j ≤ 4000 := upI_rg (hT.2.1 47) ⟨by omega, by omega⟩
                refine T_iast (a' := [(46, (m.2 46)), (47, upI (m.2 47) ((4 * a) + ((m.2 46) a)) (m.1 8)), (48, (m.2 48)), (49, (m.2 49))]) 121 47 (m.2 47) rfl rfl rfl (by omega) (show ((4 * a) + ((m.2 46) a)) < (64 : Int) by omega) rfl rfl ?_
                refine T_gf 125 (.ref 218) rfl rfl rfl rfl rfl rfl ?_
                refine T_ld 126 (.int (i32 ((4 * a) + ((m.2 46) a)))) rfl (fun _ => rfl) ?_
                refine T_gf 130 (.int (i32 (m.1 9))) rfl rfl rfl rfl rfl rfl ?_
                have G348 : ∀ j, 0 ≤ (upI (m.2 48) ((4 * a) + ((m.2 46) a)) (m.1 9)) j ∧ (upI (m.2 48) ((4 * a) + ((m.2 46) a)) (m.1 9)) j ≤ 4000 := upI_rg (hT.2.1 48) ⟨by omega, by omega⟩
                refine T_iast (a' := [(46, (m.2 46)), (47, upI (m.2 47) ((4 * a) + ((m.2 46) a)) (m.1 8)), (48, upI (m.2 48) ((4 * a) + ((m.2 46) a)) (m.1 9)), (49, (m.2 49))]) 131 48 (m.2 48) rfl rfl rfl (by omega) (show ((4 * a) + ((m.2 46) a)) < (64 : Int) by omega) rfl rfl ?_
                refine T_ld 132 (.ref 189) rfl (fun _ => rfl) ?_
                refine T_call 135 212 [.ref 189] [] rfl (fun _ => rfl) rfl (c_next w (mO m [(7, (m.1 7)), (8, (m.1 8)), (9, (m.1 9)), (10, (m336.1 10)), (11, (m336.1 11)), (12, (m.1 12))] [(46, (m.2 46)), (47, upI (m.2 47) ((4 * a) + ((m.2 46) a)) (m.1 8)), (48, upI (m.2 48) ((4 * a) + ((m.2 46) a)) (m.1 9)), (49, (m.2 49))]) c N D (by omega) (Ty_mO hT rfl rfl ⟨f7, f8, f9, (q339.1 10), (q339.1 11), f12, trivial⟩ ⟨(hT.2.1 46), G347, G348, (hT.2.1 49), trivial⟩) (show (m336.1 10) = 0 → (m.1 8) + (m.1 9) ≤ (m.1 6) by first | omega | (intro h9; have h8 := hLx h9; omega))) (fun rr349 k350 => ?_)
                obtain ⟨y351, y353, y355, y357, y359, y361, g352, g354, g356, g358, g360, g362, h363, h364, h365, h366, rfl⟩ := k350
                refine ⟨_, _, rfl, ?_⟩
                refine T_nf2 (st' := []) (l' := [(7, y351), (8, y353), (9, y355), (10, y357), (11, y359), (12, y361)]) (a' := [(46, (m.2 46)), (47, upI (m.2 47) ((4 * a) + ((m.2 46) a)) (m.1 8)), (48, upI (m.2 48) ((4 * a) + ((m.2 46) a)) (m.1 9)), (49, (m.2 49))]) [7, 8, 9, 10, 11, 12] [] rfl ⟨rfl, rfl, rfl, rfl, rfl, rfl, rfl, rfl, rfl, rfl, rfl, rfl, trivial⟩ ⟨rfl, rfl, rfl, rfl, rfl, rfl, rfl, rfl, trivial⟩ rfl rfl (by decide) (by decide) ?_
                by_cases hf367 : y357 = 0
                · skip
                  subst hf367
                  replace h363 : LxP y351 y353 y355 (m.1 6) (0 : Int) := h363
                  have hLx := h363
                  replace h364 : (m336.1 10) = 0 := h364 rfl
                  replace h365 : (m.1 8) ≤ y353 := h365
                  replace h366 : (m.1 8) + (m.1 9) ≤ y353 := h366 rfl
                  have u368 : (m.1 8) + 1 ≤ y353 := by omega
                  clear g330 g332 hf334 h333 q339_10 q339_11 h346 g358 h364
                  refine T_ld 136 (.ref 189) rfl (fun _ => rfl) ?_
                  refine T_ld 138 (.int (i32 58)) rfl (fun _ => rfl) ?_
                  refine T_call 141 232 [.ref 189, .int (i32 58)] [] rfl (fun _ => rfl) rfl (c_need w (mO m [(7, y351), (8, y353), (9, y355), (10, 0), (11, y359), (12, y361)] [(46, (m.2 46)), (47, upI (m.2 47) ((4 * a) + ((m.2 46) a)) (m.1 8)), (48, upI (m.2 48) ((4 * a) + ((m.2 46) a)) (m.1 9)), (49, (m.2 49))]) c N D (by omega) (Ty_mO hT rfl rfl ⟨g352, g354, g356, ⟨(by omega : (0 : Int) ≤ 0), (by omega : (0 : Int) ≤ 8)⟩, g360, g362, trivial⟩ ⟨(hT.2.1 46), G347, G348, (hT.2.1 49), trivial⟩) 58 ⟨by decide, by decide⟩ (show 1 ≤ (58 : Int) by omega) (show LxP y351 y353 y355 (m.1 6) (0 : Int) by first | exact hLx | (intro h9; exfalso; omega) | (intro h9; have h8 := hLx (by omega); omega))) (fun rr369 k370 => ?_)
                  obtain ⟨y371, y373, y375, y377, y379, y381, g372, g374, g376, g378, g380, g382, h383, h384, h385, h386, rfl⟩ := k370
                  refine ⟨_, _, rfl, ?_⟩
                  refine T_nf2 (st' := []) (l' := [(7, y371), (8, y373), (9, y375), (10, y377), (11, y379), (12, y381)]) (a' := [(46, (m.2 46)), (47, upI (m.2 47) ((4 * a) + ((m.2 46) a)) (m.1 8)), (48, upI (m.2 48) ((4 * a) + ((m.2 46) a)) (m.1 9)), (49, (m.2 49))]) [7, 8, 9, 10, 11, 12] [] rfl ⟨rfl, rfl, rfl, rfl, rfl, rfl, rfl, rfl, rfl, rfl, rfl, rfl, trivial⟩ ⟨rfl, rfl, rfl, rfl, rfl, rfl, rfl, rfl, trivial⟩ rfl rfl (by decide) (by decide) ?_
                  by_cases hf387 : y377 = 0
                  · skip
                    subst hf387
                    replace h383 : LxP y371 y373 y375 (m.1 6) (0 : Int) := h383
                    have hLx := h383
                    replace h384 : (0 : Int) = 0 ∧ y351 = (58 : Int) := h384 rfl
                    replace h385 : y353 ≤ y373 := h385
                    replace h386 : y353 + y355 ≤ y373 := h386 rfl
                    have u388 : (m.1 8) + 1 ≤ y373 := by omega
                    clear g352 g354 g356 g360 g362 h363 h365 h366 u368 g378 h384 h385 h386
                    refine T_gf 145 (.ref 219) rfl rfl rfl rfl rfl rfl ?_
                    refine T_ld 146 (.int (i32 ((4 * a) + ((m.2 46) a)))) rfl (fun _ => rfl) ?_
                    refine T_ld 147 (.ref 189) rfl (fun _ => rfl) ?_
                    refine T_ld 148 (.int (i32 1)) rfl (fun _ => rfl) ?_
                    refine T_ld 150 (.int (i32 64)) rfl (fun _ => rfl) ?_
                    refine T_call 153 234 [.ref 189, .int (i32 1), .int (i32 64)] [.int (i32 ((4 * a) + ((m.2 46) a))), .ref 219] rfl (fun _ => rfl) rfl (c_number w (mO m [(7, y371), (8, y373), (9, y375), (10, 0), (11, y379), (12, y381)] [(46, (m.2 46)), (47, upI (m.2 47) ((4 * a) + ((m.2 46) a)) (m.1 8)), (48, upI (m.2 48) ((4 * a) + ((m.2 46) a)) (m.1 9)), (49, (m.2 49))]) c N D (by omega) (Ty_mO hT rfl rfl ⟨g372, g374, g376, ⟨(by omega : (0 : Int) ≤ 0), (by omega : (0 : Int) ≤ 8)⟩, g380, g382, trivial⟩ ⟨(hT.2.1 46), G347, G348, (hT.2.1 49), trivial⟩) 1 64 ⟨by decide, by decide⟩ ⟨by decide, by decide⟩ (show LxP y371 y373 y375 (m.1 6) (0 : Int) by first | exact hLx | (intro h9; exfalso; omega) | (intro h9; have h8 := hLx (by omega); omega)) (show (1 : Int) ≤ (64 : Int) by omega)) (fun rr389 k390 => ?_)
                    obtain ⟨y391, y393, y395, y397, y399, y401, nu, g392, g394, g396, g398, g400, g402, g403, h404, h405, h406, h407, h408, h409, rfl⟩ := k390
                    refine ⟨_, _, rfl, ?_⟩
                    refine T_nf2 (st' := [.int (i32 nu), .int (i32 ((4 * a) + ((m.2 46) a))), .ref 219]) (l' := [(7, y391), (8, y393), (9, y395), (10, y397), (11, y399), (12, y401)]) (a' := [(46, (m.2 46)), (47, upI (m.2 47) ((4 * a) + ((m.2 46) a)) (m.1 8)), (48, upI (m.2 48) ((4 * a) + ((m.2 46) a)) (m.1 9)), (49, (m.2 49))]) [7, 8, 9, 10, 11, 12] [] rfl ⟨rfl, rfl, rfl, rfl, rfl, rfl, rfl, rfl, rfl, rfl, rfl, rfl, trivial⟩ ⟨rfl, rfl, rfl, rfl, rfl, rfl, rfl, rfl, trivial⟩ rfl rfl (by decide) (by decide) ?_
                    obtain ⟨g403a, g403b⟩ := g403
                    by_cases hf410 : y397 = 0
                    · skip
                      subst hf410
                      replace h404 : LxP y391 y393 y395 (m.1 6) (0 : Int) := h404
                      have hLx := h404
                      replace h405 : y373 ≤ y393 := h405
                      replace h406 : (0 : Int) = 0 ∧ y373 + y375 ≤ y393 := h406 rfl
                      replace h407 : y371 = 2 := h407 rfl
                      replace h408 : (1 : Int) ≤ nu ∧ nu ≤ (64 : Int) := h408
                      replace h409 : nu = y381 := h409 rfl
                      have u411 : (m.1 8) + 1 ≤ y393 := by omega
                      clear g372 g374 g376 g380 g382 h383 u388 g398 h405 h406 h407 h409
                      have G412 : ∀ j, 0 ≤ (upI (m.2 49) ((4 * a) + ((m.2 46) a)) nu) j ∧ (upI (m.2 49) ((4 * a) + ((m.2 46) a)) nu) j ≤ 64 := upI_rg (hT.2.1 49) ⟨by omega, by omega⟩
                      refine T_iast (a' := [(46, (m.2 46)), (47, upI (m.2 47) ((4 * a) + ((m.2 46) a)) (m.1 8)), (48, upI (m.2 48) ((4 * a) + ((m.2 46) a)) (m.1 9)), (49, upI (m.2 49) ((4 * a) + ((m.2 46) a)) nu)]) 154 49 (m.2 49) rfl rfl rfl (by omega) (show ((4 * a) + ((m.2 46) a)) < (64 : Int) by omega) rfl rfl ?_
                      refine T_gf 158 (.ref 216) rfl rfl rfl rfl rfl rfl ?_
                      refine T_ld 159 (.int (i32 a)) rfl (fun _ => rfl) ?_
                      refine T_dup2 160 rfl (fun _ => rfl) ?_
                      refine T_iald 161 46 (m.2 46) rfl rfl rfl (by omega) (show a < (16 : Int) by omega) rfl ?_
                      have e413 : 0 ≤ (m.2 46) a ∧ (m.2 46) a ≤ 4 := (hT.2.1 46) a
                      refine T_ld 162 (.int (i32 1)) rfl (fun _ => rfl) ?_
                      refine T_iadd 163 rfl rfl ?_
                      have G414 : ∀ j, 0 ≤ (upI (m.2 46) a (((m.2 46) a) + 1)) j ∧ (upI (m.2 46) a (((m.2 46) a) + 1)) j ≤ 4 := upI_rg (hT.2.1 46) ⟨by omega, by omega⟩
                      refine T_iast (a' := [(46, upI (m.2 46) a (((m.2 46) a) + 1)), (47, upI (m.2 47) ((4 * a) + ((m.2 46) a)) (m.1 8)), (48, upI (m.2 48) ((4 * a) + ((m.2 46) a)) (m.1 9)), (49, upI (m.2 49) ((4 * a) + ((m.2 46) a)) nu)]) 164 46 (m.2 46) rfl rfl rfl (by omega) (show a < (16 : Int) by omega) rfl rfl ?_
                      refine T_ret rfl (fun _ => rfl) ?_
                      exact ⟨(mO m [(7, y391), (8, y393), (9, y395), (10, 0), (11, y399), (12, y401)] [(46, upI (m.2 46) a (((m.2 46) a) + 1)), (47, upI (m.2 47) ((4 * a) + ((m.2 46) a)) (m.1 8)), (48, upI (m.2 48) ((4 * a) + ((m.2 46) a)) (m.1 9)), (49, upI (m.2 49) ((4 * a) + ((m.2 46) a)) nu)]), (Ty_mO hT rfl rfl ⟨g392, g394, g396, ⟨(by omega : (0 : Int) ≤ 0), (by omega : (0 : Int) ≤ 8)⟩, g400, g402, trivial⟩ ⟨G414, G347, G348, G412, trivial⟩), (show (0 : Int) = 0 → (m.1 10) = 0 by omega), (show LxP y391 y393 y395 (m.1 6) (0 : Int) by first | (first | exact hLx | exact (fun _ => hLx (by omega)) | (intro h9; exfalso; omega)) | (exfalso; omega)), (show ∀ k, (upI (m.2 47) ((4 * a) + ((m.2 46) a)) (m.1 8)) k + (upI (m.2 48) ((4 * a) + ((m.2 46) a)) (m.1 9)) k ≤ 4000 by first | (first | exact hPA | (intro k; have := hPA0 k; have h7 := hLx0 hf0; unfold upI; split <;> omega)) | (exfalso; omega)), (fun _ => (show (m.1 8) + 1 ≤ y393 by omega)), rfl⟩
                    · skip
                      replace h404 : LxP y391 y393 y395 (m.1 6) y397 := h404
                      have hLx := h404
                      replace h405 : y373 ≤ y393 := h405
                      clear h406
                      clear h407
                      replace h408 : (1 : Int) ≤ nu ∧ nu ≤ (64 : Int) := h408
                      clear h409
                      have hf415 : 1 ≤ y397 := by omega
                      clear g372 g374 g376 g380 g382 h383 u388 h405
                      exact J153_15 v335 nu (mO m [(7, y391), (8, y393), (9, y395), (10, y397), (11, y399), (12, y401)] [(46, (m.2 46)), (47, upI (m.2 47) ((4 * a) + ((m.2 46) a)) (m.1 8)), (48, upI (m.2 48) ((4 * a) + ((m.2 46) a)) (m.1 9)), (49, (m.2 49))]) (r32 (by omega) (by omega)) (r32 (by omega) (by omega)) (Ty_mO hT rfl rfl ⟨g392, g394, g396, g398, g400, g402, trivial⟩ ⟨(hT.2.1 46), G347, G348, (hT.2.1 49), trivial⟩) (show 0 ≤ v335 by omega) (show 1 ≤ nu by omega) (show nu ≤ 64 by omega) (show 1 ≤ y397 by omega) (show y397 ≤ 8 by omega) (show ∀ k, (upI (m.2 47) ((4 * a) + ((m.2 46) a)) (m.1 8)) k + (upI (m.2 48) ((4 * a) + ((m.2 46) a)) (m.1 9)) k ≤ 4000 by first | exact hPA | (intro k; have := hPA0 k; have h7 := hLx0 hf0; unfold upI; split <;> omega)) (show (m.2 46) a ≤ 3 by omega) (show 0 ≤ ((4 * a) + ((m.2 46) a)) ∧ ((4 * a) + ((m.2 46) a)) ≤ 64 by omega) (show 0 ≤ (4 * a) + ((m.2 46) a) ∧ (4 * a) + ((m.2 46) a) ≤ 64 by omega)
                  · skip
                    replace h383 : LxP y371 y373 y375 (m.1 6) y377 := h383
                    have hLx := h383
                    clear h384
                    replace h385 : y353 ≤ y373 := h385
                    clear h386
                    have hf416 : 1 ≤ y377 := by omega
                    clear g352 g354 g356 g360 g362 h363 h365 h366 u368 h385
                    exact J141_34 v335 (mO m [(7, y371), (8, y373), (9, y375), (10, y377), (11, y379), (12, y381)] [(46, (m.2 46)), (47, upI (m.2 47) ((4 * a) + ((m.2 46) a)) (m.1 8)), (48, upI (m.2 48) ((4 * a) + ((m.2 46) a)) (m.1 9)), (49, (m.2 49))]) (r32 (by omega) (by omega)) (Ty_mO hT rfl rfl ⟨g372, g374, g376, g378, g380, g382, trivial⟩ ⟨(hT.2.1 46), G347, G348, (hT.2.1 49), trivial⟩) (show 0 ≤ v335 by omega) (show 1 ≤ y377 by omega) (show y377 ≤ 8 by omega) (show ∀ k, (upI (m.2 47) ((4 * a) + ((m.2 46) a)) (m.1 8)) k + (upI (m.2 48) ((4 * a) + ((m.2 46) a)) (m.1 9)) k ≤ 4000 by first | exact hPA | (intro k; have := hPA0 k; have h7 := hLx0 hf0; unfold upI; split <;> omega)) (show (m.2 46) a ≤ 3 by omega) (show 0 ≤ ((4 * a) + ((m.2 46) a)) ∧ ((4 * a) + ((m.2 46) a)) ≤ 64 by omega)
                · skip
                  replace h363 : LxP y351 y353 y355 (m.1 6) y357 := h363
                  have hLx := h363
                  clear h364
                  replace h365 : (m.1 8) ≤ y353 := h365
                  clear h366
                  have hf417 : 1 ≤ y357 := by omega
                  clear g330 g332 hf334 h333 q339_10 q339_11 h346
                  exact J135_68 v335 (mO m [(7, y351), (8, y353), (9, y355), (10, y357), (11, y359), (12, y361)] [(46, (m.2 46)), (47, upI (m.2 47) ((4 * a) + ((m.2 46) a)) (m.1 8)), (48, upI (m.2 48) ((4 * a) + ((m.2 46) a)) (m.1 9)), (49, (m.2 49))]) (r32 (by omega) (by omega)) (Ty_mO hT rfl rfl ⟨g352, g354, g356, g358, g360, g362, trivial⟩ ⟨(hT.2.1 46), G347, G348, (hT.2.1 49), trivial⟩) (show 0 ≤ v335 by omega) (show 1 ≤ y357 by omega) (show y357 ≤ 8 by omega) (show ∀ k, (upI (m.2 47) ((4 * a) + ((m.2 46) a)) (m.1 8)) k + (upI (m.2 48) ((4 * a) + ((m.2 46) a)) (m.1 9)) k ≤ 4000 by first | exact hPA | (intro k; have := hPA0 k; have h7 := hLx0 hf0; unfold upI; split <;> omega)) (show (m.2 46) a ≤ 3 by omega) (show 0 ≤ ((4 * a) + ((m.2 46) a)) ∧ ((4 * a) + ((m.2 46) a)) ≤ 64 by omega)
              · skip
                refine T_gf 66 (.int (i32 (m336.1 10))) rfl rfl rfl rfl rfl rfl ?_
                refine T_if 103 69 rfl rfl rfl (r32 (by omega) (by omega)) (fun (h418 : (m336.1 10) ≠ 0) => by exfalso; omega) (fun (h418 : ¬ ((m336.1 10) ≠ 0)) => ?_)
                have hp3 := hPA v335
                refine T_ld 70 (.ref 189) rfl (fun _ => rfl) ?_
                refine T_gf 74 (.ref 217) rfl rfl rfl rfl rfl rfl ?_
                refine T_ld 75 (.int (i32 v335)) rfl (fun _ => rfl) ?_
                refine T_iald 76 47 (m.2 47) rfl rfl rfl (by omega) (show v335 < (64 : Int) by omega) rfl ?_
                have e419 : 0 ≤ (m.2 47) v335 ∧ (m.2 47) v335 ≤ 4000 := (hT.2.1 47) v335
                refine T_gf 80 (.ref 218) rfl rfl rfl rfl rfl rfl ?_
                refine T_ld 81 (.int (i32 v335)) rfl (fun _ => rfl) ?_
                refine T_iald 82 48 (m.2 48) rfl rfl rfl (by omega) (show v335 < (64 : Int) by omega) rfl ?_
                have e420 : 0 ≤ (m.2 48) v335 ∧ (m.2 48) v335 ≤ 4000 := (hT.2.1 48) v335
                refine T_call 85 230 [.ref 189, .int (i32 ((m.2 47) v335)), .int (i32 ((m.2 48) v335))] [] rfl (fun _ => rfl) rfl (c_isHere w (mO m [(7, (m.1 7)), (8, (m.1 8)), (9, (m.1 9)), (10, (m336.1 10)), (11, (m336.1 11)), (12, (m.1 12))] [(46, (m.2 46)), (47, (m.2 47)), (48, (m.2 48)), (49, (m.2 49))]) c N D (by omega) (Ty_mO hT rfl rfl ⟨f7, f8, f9, (q339.1 10), (q339.1 11), f12, trivial⟩ ⟨(hT.2.1 46), (hT.2.1 47), (hT.2.1 48), (hT.2.1 49), trivial⟩) ((m.2 47) v335) ((m.2 48) v335) (r32 (by omega) (by omega)) (r32 (by omega) (by omega)) (show 0 ≤ ((m.2 47) v335) by omega) (show 0 ≤ ((m.2 48) v335) by omega) (show ((m.2 47) v335) + ((m.2 48) v335) ≤ 4000 by omega) (show 1 ≤ (m.1 9) ∧ (m.1 8) + (m.1 9) ≤ (m.1 6) by first | omega | (have h8 := hLx (by omega); omega))) (fun rr421 k422 => ?_)
                obtain ⟨x423, g424, h425, rfl⟩ := k422
                refine ⟨_, _, rfl, ?_⟩
                refine T_nf2 (st' := [.int (i32 x423)]) (l' := [(7, (m.1 7)), (8, (m.1 8)), (9, (m.1 9)), (10, (m336.1 10)), (11, (m336.1 11)), (12, (m.1 12))]) (a' := [(46, (m.2 46)), (47, (m.2 47)), (48, (m.2 48)), (49, (m.2 49))]) [] [] rfl ⟨rfl, rfl, rfl, rfl, rfl, rfl, rfl, rfl, rfl, rfl, rfl, rfl, trivial⟩ ⟨rfl, rfl, rfl, rfl, rfl, rfl, rfl, rfl, trivial⟩ rfl rfl (by decide) (by decide) ?_
                obtain ⟨g424a, g424b⟩ := g424
                replace h425 : (x423 = 1 ∧ sameN (m.2 4) (m.1 8) (m.1 9) ((m.2 47) v335) ((m.2 48) v335)) ∨ (x423 = 0 ∧ ¬ sameN (m.2 4) (m.1 8) (m.1 9) ((m.2 47) v335) ((m.2 48) v335)) := h425
                have hh := h425
                have u426 : (m.1 8) ≤ (m.1 8) := by omega
                clear g330 g332 hf334 h333
                refine T_if 97 88 rfl rfl rfl (r32 (by omega) (by omega)) (fun (h427 : x423 = 0) => ?_) (fun (h427 : ¬ (x423 = 0)) => ?_)
                · skip
                  refine T_iinc 100 [(3, .int (i32 (v335 + 1))), (0, .ref 189), (1, .int (i32 a)), (2, .int (i32 ((4 * a) + ((m.2 46) a))))] rfl rfl (by decide) rfl rfl ?_
                  refine T_goto 57 rfl (fun _ => rfl) ?_
                  refine Tm_lv (a := [(0, .ref 189), (1, .int (i32 a)), (2, .int (i32 ((4 * a) + ((m.2 46) a)))), (3, .int (i32 (v335 + 1)))]) rfl rfl ⟨rfl, rfl, rfl, rfl, trivial⟩ ?_
                  exact ih343 (v335 + 1) (mO m [(7, (m.1 7)), (8, (m.1 8)), (9, (m.1 9)), (10, (m336.1 10)), (11, (m336.1 11)), (12, (m.1 12))] [(46, (m.2 46)), (47, (m.2 47)), (48, (m.2 48)), (49, (m.2 49))]) (r32 (by omega) (by omega)) (Ty_mO hT rfl rfl ⟨f7, f8, f9, (q339.1 10), (q339.1 11), f12, trivial⟩ ⟨(hT.2.1 46), (hT.2.1 47), (hT.2.1 48), (hT.2.1 49), trivial⟩) (show 0 ≤ (v335 + 1) by omega) (show (v335 + 1) ≤ (4 * a) + ((m.2 46) a) by omega) (fun _ => trivial) (show ((4 * a) + ((m.2 46) a)) - (v335 + 1) < (n : Int) by omega)
                · skip
                  refine T_ld 89 (.ref 189) rfl (fun _ => rfl) ?_
                  refine T_ld 90 (.int (i32 3)) rfl (fun _ => rfl) ?_
                  refine T_gf 94 (.int (i32 (m.1 8))) rfl rfl rfl rfl rfl rfl ?_
                  refine T_call 97 222 [.ref 189, .int (i32 3), .int (i32 (m.1 8))] [] rfl (fun _ => rfl) rfl (c_wrong w (mO m [(7, (m.1 7)), (8, (m.1 8)), (9, (m.1 9)), (10, (m336.1 10)), (11, (m336.1 11)), (12, (m.1 12))] [(46, (m.2 46)), (47, (m.2 47)), (48, (m.2 48)), (49, (m.2 49))]) c N D (by omega) (Ty_mO hT rfl rfl ⟨f7, f8, f9, (q339.1 10), (q339.1 11), f12, trivial⟩ ⟨(hT.2.1 46), (hT.2.1 47), (hT.2.1 48), (hT.2.1 49), trivial⟩) 3 (m.1 8) ⟨by decide, by decide⟩ (r32 (by omega) (by omega)) (show 1 ≤ (3 : Int) ∧ (3 : Int) ≤ 8 by omega) (show 0 ≤ (m.1 8) ∧ (m.1 8) ≤ 4000 by omega)) (fun rr428 k429 => ?_)
                  obtain ⟨y430, y432, g431, g433, h434, rfl⟩ := k429
                  refine ⟨_, _, rfl, ?_⟩
                  refine T_nf2 (st' := []) (l' := [(7, (m.1 7)), (8, (m.1 8)), (9, (m.1 9)), (10, y430), (11, y432), (12, (m.1 12))]) (a' := [(46, (m.2 46)), (47, (m.2 47)), (48, (m.2 48)), (49, (m.2 49))]) [10, 11] [] rfl ⟨rfl, rfl, rfl, rfl, rfl, rfl, rfl, rfl, rfl, rfl, rfl, rfl, rfl, rfl, rfl, trivial⟩ ⟨rfl, rfl, rfl, rfl, rfl, rfl, rfl, rfl, trivial⟩ rfl rfl (by decide) (by decide) ?_
                  replace h434 : (0 < (m336.1 10) → y430 = (m336.1 10) ∧ y432 = (m336.1 11)) ∧ ((m336.1 10) ≤ 0 → y430 = (3 : Int) ∧ y432 = (m.1 8)) := h434
                  have hf435 : 1 ≤ y430 := by omega
                  clear q339_10 q339_11 h418 g424a g424b h425 h427 h434
                  exact J97_99 v335 (mO m [(7, (m.1 7)), (8, (m.1 8)), (9, (m.1 9)), (10, y430), (11, y432), (12, (m.1 12))] [(46, (m.2 46)), (47, (m.2 47)), (48, (m.2 48)), (49, (m.2 49))]) (r32 (by omega) (by omega)) (Ty_mO hT rfl rfl ⟨f7, f8, f9, g431, g433, f12, trivial⟩ ⟨(hT.2.1 46), (hT.2.1 47), (hT.2.1 48), (hT.2.1 49), trivial⟩) (show 0 ≤ v335 by omega) (show v335 ≤ 63 by omega) (show 1 ≤ y430 by omega) (show y430 ≤ 8 by omega) (show ∀ k, (m.2 47) k + (m.2 48) k ≤ 4000 by first | exact hPA | (intro k; have := hPA0 k; have h7 := hLx0 hf0; unfold upI; split <;> omega)) (show 1 ≤ ((4 * a) + ((m.2 46) a)) ∧ ((4 * a) + ((m.2 46) a)) ≤ 64 by omega)
            · skip
              clear c342
              have hf436 : 1 ≤ (m336.1 10) := by omega
              refine T_ld 58 (.int (i32 v335)) rfl (fun _ => rfl) ?_
              refine T_ld 59 (.int (i32 ((4 * a) + ((m.2 46) a)))) rfl (fun _ => rfl) ?_
              refine T_icmp 103 62 rfl rfl rfl (r32 (by omega) (by omega)) (r32 (by omega) (by omega)) (fun (h437 : (4 * a) + ((m.2 46) a) ≤ v335) => ?_) (fun (h437 : ¬ ((4 * a) + ((m.2 46) a) ≤ v335)) => ?_)
              · skip
                refine T_gf 107 (.int (i32 (m336.1 10))) rfl rfl rfl rfl rfl rfl ?_
                refine T_if 111 110 rfl rfl rfl (r32 (by omega) (by omega)) (fun (h438 : (m336.1 10) ≤ 0) => by exfalso; omega) (fun (h438 : ¬ ((m336.1 10) ≤ 0)) => ?_)
                refine T_ret rfl (fun _ => rfl) ?_
                exact ⟨(mO m [(7, (m.1 7)), (8, (m.1 8)), (9, (m.1 9)), (10, (m336.1 10)), (11, (m336.1 11)), (12, (m.1 12))] [(46, (m.2 46)), (47, (m.2 47)), (48, (m.2 48)), (49, (m.2 49))]), (Ty_mO hT rfl rfl ⟨f7, f8, f9, (q339.1 10), (q339.1 11), f12, trivial⟩ ⟨(hT.2.1 46), (hT.2.1 47), (hT.2.1 48), (hT.2.1 49), trivial⟩), (show (m336.1 10) = 0 → (m.1 10) = 0 by omega), (show LxP (m.1 7) (m.1 8) (m.1 9) (m.1 6) (m336.1 10) by first | (first | exact hLx | exact (fun _ => hLx (by omega)) | (intro h9; exfalso; omega)) | (exfalso; omega)), (show ∀ k, (m.2 47) k + (m.2 48) k ≤ 4000 by first | (first | exact hPA | (intro k; have := hPA0 k; have h7 := hLx0 hf0; unfold upI; split <;> omega)) | (exfalso; omega)), (fun (h : (m336.1 10) = 0) => absurd h (by omega)), rfl⟩
              · skip
                refine T_gf 66 (.int (i32 (m336.1 10))) rfl rfl rfl rfl rfl rfl ?_
                refine T_if 103 69 rfl rfl rfl (r32 (by omega) (by omega)) (fun (h439 : (m336.1 10) ≠ 0) => ?_) (fun (h439 : ¬ ((m336.1 10) ≠ 0)) => by exfalso; omega)
                refine T_gf 107 (.int (i32 (m336.1 10))) rfl rfl rfl rfl rfl rfl ?_
                refine T_if 111 110 rfl rfl rfl (r32 (by omega) (by omega)) (fun (h440 : (m336.1 10) ≤ 0) => by exfalso; omega) (fun (h440 : ¬ ((m336.1 10) ≤ 0)) => ?_)
                refine T_ret rfl (fun _ => rfl) ?_
                exact ⟨(mO m [(7, (m.1 7)), (8, (m.1 8)), (9, (m.1 9)), (10, (m336.1 10)), (11, (m336.1 11)), (12, (m.1 12))] [(46, (m.2 46)), (47, (m.2 47)), (48, (m.2 48)), (49, (m.2 49))]), (Ty_mO hT rfl rfl ⟨f7, f8, f9, (q339.1 10), (q339.1 11), f12, trivial⟩ ⟨(hT.2.1 46), (hT.2.1 47), (hT.2.1 48), (hT.2.1 49), trivial⟩), (show (m336.1 10) = 0 → (m.1 10) = 0 by omega), (show LxP (m.1 7) (m.1 8) (m.1 9) (m.1 6) (m336.1 10) by first | (first | exact hLx | exact (fun _ => hLx (by omega)) | (intro h9; exfalso; omega)) | (exfalso; omega)), (show ∀ k, (m.2 47) k + (m.2 48) k ≤ 4000 by first | (first | exact hPA | (intro k; have := hPA0 k; have h7 := hLx0 hf0; unfold upI; split <;> omega)) | (exfalso; omega)), (fun (h : (m336.1 10) = 0) => absurd h (by omega)), rfl⟩
        refine Tm_lv (a := [(0, .ref 189), (1, .int (i32 a)), (2, .int (i32 ((4 * a) + ((m.2 46) a)))), (3, .int (i32 (4 * a)))]) rfl rfl ⟨rfl, rfl, rfl, rfl, trivial⟩ ?_
        exact L57_337 ((((4 * a) + ((m.2 46) a)) - (4 * a) : Int) + 1).toNat (4 * a) (mO m [(7, (m.1 7)), (8, (m.1 8)), (9, (m.1 9)), (10, y329), (11, y331), (12, (m.1 12))] [(46, (m.2 46)), (47, (m.2 47)), (48, (m.2 48)), (49, (m.2 49))]) (r32 (by omega) (by omega)) (Ty_mO hT rfl rfl ⟨f7, f8, f9, g330, g332, f12, trivial⟩ ⟨(hT.2.1 46), (hT.2.1 47), (hT.2.1 48), (hT.2.1 49), trivial⟩) (show 0 ≤ (4 * a) by omega) (show (4 * a) ≤ (4 * a) + ((m.2 46) a) by omega) (fun (h : y329 = 0) => absurd h (by omega)) (show ((4 * a) + ((m.2 46) a)) - (4 * a) < ((((((4 * a) + ((m.2 46) a)) - (4 * a) : Int) + 1).toNat : Nat) : Int) by omega)
    · skip
      refine T_ld 28 (.ref 189) rfl (fun _ => rfl) ?_
      refine T_call 31 226 [.ref 189] [] rfl (fun _ => rfl) rfl (c_bad w (mO m [(7, (m.1 7)), (8, (m.1 8)), (9, (m.1 9)), (10, (m.1 10)), (11, (m.1 11)), (12, (m.1 12))] [(46, (m.2 46)), (47, (m.2 47)), (48, (m.2 48)), (49, (m.2 49))]) c N D (by omega) (Ty_mO hT rfl rfl ⟨f7, f8, f9, f10, f11, f12, trivial⟩ ⟨(hT.2.1 46), (hT.2.1 47), (hT.2.1 48), (hT.2.1 49), trivial⟩) ) (fun rr441 k442 => ?_)
      obtain ⟨y443, y445, g444, g446, h447, rfl⟩ := k442
      refine ⟨_, _, rfl, ?_⟩
      refine T_nf2 (st' := []) (l' := [(7, (m.1 7)), (8, (m.1 8)), (9, (m.1 9)), (10, y443), (11, y445), (12, (m.1 12))]) (a' := [(46, (m.2 46)), (47, (m.2 47)), (48, (m.2 48)), (49, (m.2 49))]) [10, 11] [] rfl ⟨rfl, rfl, rfl, rfl, rfl, rfl, rfl, rfl, rfl, rfl, rfl, rfl, rfl, rfl, rfl, trivial⟩ ⟨rfl, rfl, rfl, rfl, rfl, rfl, rfl, rfl, trivial⟩ rfl rfl (by decide) (by decide) ?_
      replace h447 : (0 < (m.1 10) → y443 = (m.1 10) ∧ y445 = (m.1 11)) ∧ ((m.1 10) ≤ 0 → y443 = 1 ∧ y445 = (m.1 8)) := h447
      have hf448 : 1 ≤ y443 := by omega
      refine T_goto 53 rfl (fun _ => rfl) ?_
      refine T_ld 54 (.int (i32 4)) rfl (fun _ => rfl) ?_
      refine T_ld 55 (.int (i32 a)) rfl (fun _ => rfl) ?_
      refine T_imul 56 rfl rfl ?_
      refine T_sto 57 [(3, .int (i32 (4 * a))), (2, .int (i32 ((4 * a) + ((m.2 46) a)))), (0, .ref 189), (1, .int (i32 a))] rfl (fun _ => rfl) ?_
      have L57_451 : ∀ (n : Nat) (v449 : Int) (m450 : mR), (R32 v449) → (Ty m450) → (0 ≤ v449) → (v449 ≤ (4 * a) + ((m.2 46) a)) → ((m450.1 10) = 0 → True) → ((4 * a) + ((m.2 46) a)) - v449 < (n : Int) → TT w D pm_268 (57, [(0, .ref 189), (1, .int (i32 a)), (2, .int (i32 ((4 * a) + ((m.2 46) a)))), (3, .int (i32 v449))], [], (mhp (mO m [(7, (m.1 7)), (8, (m.1 8)), (9, (m.1 9)), (10, (m450.1 10)), (11, (m450.1 11)), (12, (m.1 12))] [(46, (m.2 46)), (47, (m.2 47)), (48, (m.2 48)), (49, (m.2 49))]) c, N), 0, 0) (Q_takeParameter m c N a) := by
        intro n
        induction n with
        | zero =>
          intro v449 m450 q452 q453 ic454 ic455 c456 hmu
          obtain ⟨q452a, q452b⟩ := id q452
          have q453_10 : 0 ≤ m450.1 10 ∧ m450.1 10 ≤ 8 := q453.1 10
          have q453_11 : (-1) ≤ m450.1 11 ∧ m450.1 11 ≤ 4000 := q453.1 11
          exfalso
          omega
        | succ n ih =>
          intro v449 m450 q452 q453 ic454 ic455 c456 hmu
          obtain ⟨q452a, q452b⟩ := id q452
          have q453_10 : 0 ≤ m450.1 10 ∧ m450.1 10 ≤ 8 := q453.1 10
          have q453_11 : (-1) ≤ m450.1 11 ∧ m450.1 11 ≤ 4000 := q453.1 11
          have ih457 := ih
          by_cases hf458 : (m450.1 10) = 0
          · skip
            refine T_ld 58 (.int (i32 v449)) rfl (fun _ => rfl) ?_
            refine T_ld 59 (.int (i32 ((4 * a) + ((m.2 46) a)))) rfl (fun _ => rfl) ?_
            refine T_icmp 103 62 rfl rfl rfl (r32 (by omega) (by omega)) (r32 (by omega) (by omega)) (fun (h459 : (4 * a) + ((m.2 46) a) ≤ v449) => ?_) (fun (h459 : ¬ ((4 * a) + ((m.2 46) a) ≤ v449)) => ?_)
            · skip
              refine T_gf 107 (.int (i32 (m450.1 10))) rfl rfl rfl rfl rfl rfl ?_
              refine T_if 111 110 rfl rfl rfl (r32 (by omega) (by omega)) (fun (h460 : (m450.1 10) ≤ 0) => ?_) (fun (h460 : ¬ ((m450.1 10) ≤ 0)) => by exfalso; omega)
              refine T_gf 115 (.ref 217) rfl rfl rfl rfl rfl rfl ?_
              refine T_ld 116 (.int (i32 ((4 * a) + ((m.2 46) a)))) rfl (fun _ => rfl) ?_
              refine T_gf 120 (.int (i32 (m.1 8))) rfl rfl rfl rfl rfl rfl ?_
              have G461 : ∀ j, 0 ≤ (upI (m.2 47) ((4 * a) + ((m.2 46) a)) (m.1 8)) j ∧ (upI (m.2 47) ((4 * a) + ((m.2 46) a)) (m.1 8)) j ≤ 4000 := upI_rg (hT.2.1 47) ⟨by omega, by omega⟩
              refine T_iast (a' := [(46, (m.2 46)), (47, upI (m.2 47) ((4 * a) + ((m.2 46) a)) (m.1 8)), (48, (m.2 48)), (49, (m.2 49))]) 121 47 (m.2 47) rfl rfl rfl (by omega) (show ((4 * a) + ((m.2 46) a)) < (64 : Int) by omega) rfl rfl ?_
              refine T_gf 125 (.ref 218) rfl rfl rfl rfl rfl rfl ?_
              refine T_ld 126 (.int (i32 ((4 * a) + ((m.2 46) a)))) rfl (fun _ => rfl) ?_
              refine T_gf 130 (.int (i32 (m.1 9))) rfl rfl rfl rfl rfl rfl ?_
              have G462 : ∀ j, 0 ≤ (upI (m.2 48) ((4 * a) + ((m.2 46) a)) (m.1 9)) j ∧ (upI (m.2 48) ((4 * a) + ((m.2 46) a)) (m.1 9)) j ≤ 4000 := upI_rg (hT.2.1 48) ⟨by omega, by omega⟩
              refine T_iast (a' := [(46, (m.2 46)), (47, upI (m.2 47) ((4 * a) + ((m.2 46) a)) (m.1 8)), (48, upI (m.2 48) ((4 * a) + ((m.2 46) a)) (m.1 9)), (49, (m.2 49))]) 131 48 (m.2 48) rfl rfl rfl (by omega) (show ((4 * a) + ((m.2 46) a)) < (64 : Int) by omega) rfl rfl ?_
              refine T_ld 132 (.ref 189) rfl (fun _ => rfl) ?_
              refine T_call 135 212 [.ref 189] [] rfl (fun _ => rfl) rfl (c_next w (mO m [(7, (m.1 7)), (8, (m.1 8)), (9, (m.1 9)), (10, (m450.1 10)), (11, (m450.1 11)), (12, (m.1 12))] [(46, (m.2 46)), (47, upI (m.2 47) ((4 * a) + ((m.2 46) a)) (m.1 8)), (48, upI (m.2 48) ((4 * a) + ((m.2 46) a)) (m.1 9)), (49, (m.2 49))]) c N D (by omega) (Ty_mO hT rfl rfl ⟨f7, f8, f9, (q453.1 10), (q453.1 11), f12, trivial⟩ ⟨(hT.2.1 46), G461, G462, (hT.2.1 49), trivial⟩) (show (m450.1 10) = 0 → (m.1 8) + (m.1 9) ≤ (m.1 6) by first | omega | (intro h9; have h8 := hLx h9; omega))) (fun rr463 k464 => ?_)
              obtain ⟨y465, y467, y469, y471, y473, y475, g466, g468, g470, g472, g474, g476, h477, h478, h479, h480, rfl⟩ := k464
              refine ⟨_, _, rfl, ?_⟩
              refine T_nf2 (st' := []) (l' := [(7, y465), (8, y467), (9, y469), (10, y471), (11, y473), (12, y475)]) (a' := [(46, (m.2 46)), (47, upI (m.2 47) ((4 * a) + ((m.2 46) a)) (m.1 8)), (48, upI (m.2 48) ((4 * a) + ((m.2 46) a)) (m.1 9)), (49, (m.2 49))]) [7, 8, 9, 10, 11, 12] [] rfl ⟨rfl, rfl, rfl, rfl, rfl, rfl, rfl, rfl, rfl, rfl, rfl, rfl, trivial⟩ ⟨rfl, rfl, rfl, rfl, rfl, rfl, rfl, rfl, trivial⟩ rfl rfl (by decide) (by decide) ?_
              by_cases hf481 : y471 = 0
              · skip
                subst hf481
                replace h477 : LxP y465 y467 y469 (m.1 6) (0 : Int) := h477
                have hLx := h477
                replace h478 : (m450.1 10) = 0 := h478 rfl
                replace h479 : (m.1 8) ≤ y467 := h479
                replace h480 : (m.1 8) + (m.1 9) ≤ y467 := h480 rfl
                have u482 : (m.1 8) + 1 ≤ y467 := by omega
                clear g444 g446 hf448 h447 q453_10 q453_11 h460 g472 h478
                refine T_ld 136 (.ref 189) rfl (fun _ => rfl) ?_
                refine T_ld 138 (.int (i32 58)) rfl (fun _ => rfl) ?_
                refine T_call 141 232 [.ref 189, .int (i32 58)] [] rfl (fun _ => rfl) rfl (c_need w (mO m [(7, y465), (8, y467), (9, y469), (10, 0), (11, y473), (12, y475)] [(46, (m.2 46)), (47, upI (m.2 47) ((4 * a) + ((m.2 46) a)) (m.1 8)), (48, upI (m.2 48) ((4 * a) + ((m.2 46) a)) (m.1 9)), (49, (m.2 49))]) c N D (by omega) (Ty_mO hT rfl rfl ⟨g466, g468, g470, ⟨(by omega : (0 : Int) ≤ 0), (by omega : (0 : Int) ≤ 8)⟩, g474, g476, trivial⟩ ⟨(hT.2.1 46), G461, G462, (hT.2.1 49), trivial⟩) 58 ⟨by decide, by decide⟩ (show 1 ≤ (58 : Int) by omega) (show LxP y465 y467 y469 (m.1 6) (0 : Int) by first | exact hLx | (intro h9; exfalso; omega) | (intro h9; have h8 := hLx (by omega); omega))) (fun rr483 k484 => ?_)
                obtain ⟨y485, y487, y489, y491, y493, y495, g486, g488, g490, g492, g494, g496, h497, h498, h499, h500, rfl⟩ := k484
                refine ⟨_, _, rfl, ?_⟩
                refine T_nf2 (st' := []) (l' := [(7, y485), (8, y487), (9, y489), (10, y491), (11, y493), (12, y495)]) (a' := [(46, (m.2 46)), (47, upI (m.2 47) ((4 * a) + ((m.2 46) a)) (m.1 8)), (48, upI (m.2 48) ((4 * a) + ((m.2 46) a)) (m.1 9)), (49, (m.2 49))]) [7, 8, 9, 10, 11, 12] [] rfl ⟨rfl, rfl, rfl, rfl, rfl, rfl, rfl, rfl, rfl, rfl, rfl, rfl, trivial⟩ ⟨rfl, rfl, rfl, rfl, rfl, rfl, rfl, rfl, trivial⟩ rfl rfl (by decide) (by decide) ?_
                by_cases hf501 : y491 = 0
                · skip
                  subst hf501
                  replace h497 : LxP y485 y487 y489 (m.1 6) (0 : Int) := h497
                  have hLx := h497
                  replace h498 : (0 : Int) = 0 ∧ y465 = (58 : Int) := h498 rfl
                  replace h499 : y467 ≤ y487 := h499
                  replace h500 : y467 + y469 ≤ y487 := h500 rfl
                  have u502 : (m.1 8) + 1 ≤ y487 := by omega
                  clear g466 g468 g470 g474 g476 h477 h479 h480 u482 g492 h498 h499 h500
                  refine T_gf 145 (.ref 219) rfl rfl rfl rfl rfl rfl ?_
                  refine T_ld 146 (.int (i32 ((4 * a) + ((m.2 46) a)))) rfl (fun _ => rfl) ?_
                  refine T_ld 147 (.ref 189) rfl (fun _ => rfl) ?_
                  refine T_ld 148 (.int (i32 1)) rfl (fun _ => rfl) ?_
                  refine T_ld 150 (.int (i32 64)) rfl (fun _ => rfl) ?_
                  refine T_call 153 234 [.ref 189, .int (i32 1), .int (i32 64)] [.int (i32 ((4 * a) + ((m.2 46) a))), .ref 219] rfl (fun _ => rfl) rfl (c_number w (mO m [(7, y485), (8, y487), (9, y489), (10, 0), (11, y493), (12, y495)] [(46, (m.2 46)), (47, upI (m.2 47) ((4 * a) + ((m.2 46) a)) (m.1 8)), (48, upI (m.2 48) ((4 * a) + ((m.2 46) a)) (m.1 9)), (49, (m.2 49))]) c N D (by omega) (Ty_mO hT rfl rfl ⟨g486, g488, g490, ⟨(by omega : (0 : Int) ≤ 0), (by omega : (0 : Int) ≤ 8)⟩, g494, g496, trivial⟩ ⟨(hT.2.1 46), G461, G462, (hT.2.1 49), trivial⟩) 1 64 ⟨by decide, by decide⟩ ⟨by decide, by decide⟩ (show LxP y485 y487 y489 (m.1 6) (0 : Int) by first | exact hLx | (intro h9; exfalso; omega) | (intro h9; have h8 := hLx (by omega); omega)) (show (1 : Int) ≤ (64 : Int) by omega)) (fun rr503 k504 => ?_)
                  obtain ⟨y505, y507, y509, y511, y513, y515, nu, g506, g508, g510, g512, g514, g516, g517, h518, h519, h520, h521, h522, h523, rfl⟩ := k504
                  refine ⟨_, _, rfl, ?_⟩
                  refine T_nf2 (st' := [.int (i32 nu), .int (i32 ((4 * a) + ((m.2 46) a))), .ref 219]) (l' := [(7, y505), (8, y507), (9, y509), (10, y511), (11, y513), (12, y515)]) (a' := [(46, (m.2 46)), (47, upI (m.2 47) ((4 * a) + ((m.2 46) a)) (m.1 8)), (48, upI (m.2 48) ((4 * a) + ((m.2 46) a)) (m.1 9)), (49, (m.2 49))]) [7, 8, 9, 10, 11, 12] [] rfl ⟨rfl, rfl, rfl, rfl, rfl, rfl, rfl, rfl, rfl, rfl, rfl, rfl, trivial⟩ ⟨rfl, rfl, rfl, rfl, rfl, rfl, rfl, rfl, trivial⟩ rfl rfl (by decide) (by decide) ?_
                  obtain ⟨g517a, g517b⟩ := g517
                  by_cases hf524 : y511 = 0
                  · skip
                    subst hf524
                    replace h518 : LxP y505 y507 y509 (m.1 6) (0 : Int) := h518
                    have hLx := h518
                    replace h519 : y487 ≤ y507 := h519
                    replace h520 : (0 : Int) = 0 ∧ y487 + y489 ≤ y507 := h520 rfl
                    replace h521 : y485 = 2 := h521 rfl
                    replace h522 : (1 : Int) ≤ nu ∧ nu ≤ (64 : Int) := h522
                    replace h523 : nu = y495 := h523 rfl
                    have u525 : (m.1 8) + 1 ≤ y507 := by omega
                    clear g486 g488 g490 g494 g496 h497 u502 g512 h519 h520 h521 h523
                    have G526 : ∀ j, 0 ≤ (upI (m.2 49) ((4 * a) + ((m.2 46) a)) nu) j ∧ (upI (m.2 49) ((4 * a) + ((m.2 46) a)) nu) j ≤ 64 := upI_rg (hT.2.1 49) ⟨by omega, by omega⟩
                    refine T_iast (a' := [(46, (m.2 46)), (47, upI (m.2 47) ((4 * a) + ((m.2 46) a)) (m.1 8)), (48, upI (m.2 48) ((4 * a) + ((m.2 46) a)) (m.1 9)), (49, upI (m.2 49) ((4 * a) + ((m.2 46) a)) nu)]) 154 49 (m.2 49) rfl rfl rfl (by omega) (show ((4 * a) + ((m.2 46) a)) < (64 : Int) by omega) rfl rfl ?_
                    refine T_gf 158 (.ref 216) rfl rfl rfl rfl rfl rfl ?_
                    refine T_ld 159 (.int (i32 a)) rfl (fun _ => rfl) ?_
                    refine T_dup2 160 rfl (fun _ => rfl) ?_
                    refine T_iald 161 46 (m.2 46) rfl rfl rfl (by omega) (show a < (16 : Int) by omega) rfl ?_
                    have e527 : 0 ≤ (m.2 46) a ∧ (m.2 46) a ≤ 4 := (hT.2.1 46) a
                    refine T_ld 162 (.int (i32 1)) rfl (fun _ => rfl) ?_
                    refine T_iadd 163 rfl rfl ?_
                    have G528 : ∀ j, 0 ≤ (upI (m.2 46) a (((m.2 46) a) + 1)) j ∧ (upI (m.2 46) a (((m.2 46) a) + 1)) j ≤ 4 := upI_rg (hT.2.1 46) ⟨by omega, by omega⟩
                    refine T_iast (a' := [(46, upI (m.2 46) a (((m.2 46) a) + 1)), (47, upI (m.2 47) ((4 * a) + ((m.2 46) a)) (m.1 8)), (48, upI (m.2 48) ((4 * a) + ((m.2 46) a)) (m.1 9)), (49, upI (m.2 49) ((4 * a) + ((m.2 46) a)) nu)]) 164 46 (m.2 46) rfl rfl rfl (by omega) (show a < (16 : Int) by omega) rfl rfl ?_
                    refine T_ret rfl (fun _ => rfl) ?_
                    exact ⟨(mO m [(7, y505), (8, y507), (9, y509), (10, 0), (11, y513), (12, y515)] [(46, upI (m.2 46) a (((m.2 46) a) + 1)), (47, upI (m.2 47) ((4 * a) + ((m.2 46) a)) (m.1 8)), (48, upI (m.2 48) ((4 * a) + ((m.2 46) a)) (m.1 9)), (49, upI (m.2 49) ((4 * a) + ((m.2 46) a)) nu)]), (Ty_mO hT rfl rfl ⟨g506, g508, g510, ⟨(by omega : (0 : Int) ≤ 0), (by omega : (0 : Int) ≤ 8)⟩, g514, g516, trivial⟩ ⟨G528, G461, G462, G526, trivial⟩), (show (0 : Int) = 0 → (m.1 10) = 0 by omega), (show LxP y505 y507 y509 (m.1 6) (0 : Int) by first | (first | exact hLx | exact (fun _ => hLx (by omega)) | (intro h9; exfalso; omega)) | (exfalso; omega)), (show ∀ k, (upI (m.2 47) ((4 * a) + ((m.2 46) a)) (m.1 8)) k + (upI (m.2 48) ((4 * a) + ((m.2 46) a)) (m.1 9)) k ≤ 4000 by first | (first | exact hPA | (intro k; have := hPA0 k; have h7 := hLx0 hf0; unfold upI; split <;> omega)) | (exfalso; omega)), (fun _ => (show (m.1 8) + 1 ≤ y507 by omega)), rfl⟩
                  · skip
                    replace h518 : LxP y505 y507 y509 (m.1 6) y511 := h518
                    have hLx := h518
                    replace h519 : y487 ≤ y507 := h519
                    clear h520
                    clear h521
                    replace h522 : (1 : Int) ≤ nu ∧ nu ≤ (64 : Int) := h522
                    clear h523
                    have hf529 : 1 ≤ y511 := by omega
                    clear g486 g488 g490 g494 g496 h497 u502 h519
                    exact J153_15 v449 nu (mO m [(7, y505), (8, y507), (9, y509), (10, y511), (11, y513), (12, y515)] [(46, (m.2 46)), (47, upI (m.2 47) ((4 * a) + ((m.2 46) a)) (m.1 8)), (48, upI (m.2 48) ((4 * a) + ((m.2 46) a)) (m.1 9)), (49, (m.2 49))]) (r32 (by omega) (by omega)) (r32 (by omega) (by omega)) (Ty_mO hT rfl rfl ⟨g506, g508, g510, g512, g514, g516, trivial⟩ ⟨(hT.2.1 46), G461, G462, (hT.2.1 49), trivial⟩) (show 0 ≤ v449 by omega) (show 1 ≤ nu by omega) (show nu ≤ 64 by omega) (show 1 ≤ y511 by omega) (show y511 ≤ 8 by omega) (show ∀ k, (upI (m.2 47) ((4 * a) + ((m.2 46) a)) (m.1 8)) k + (upI (m.2 48) ((4 * a) + ((m.2 46) a)) (m.1 9)) k ≤ 4000 by first | exact hPA | (intro k; have := hPA0 k; have h7 := hLx0 hf0; unfold upI; split <;> omega)) (show (m.2 46) a ≤ 3 by omega) (show 0 ≤ ((4 * a) + ((m.2 46) a)) ∧ ((4 * a) + ((m.2 46) a)) ≤ 64 by omega) (show 0 ≤ (4 * a) + ((m.2 46) a) ∧ (4 * a) + ((m.2 46) a) ≤ 64 by omega)
                · skip
                  replace h497 : LxP y485 y487 y489 (m.1 6) y491 := h497
                  have hLx := h497
                  clear h498
                  replace h499 : y467 ≤ y487 := h499
                  clear h500
                  have hf530 : 1 ≤ y491 := by omega
                  clear g466 g468 g470 g474 g476 h477 h479 h480 u482 h499
                  exact J141_34 v449 (mO m [(7, y485), (8, y487), (9, y489), (10, y491), (11, y493), (12, y495)] [(46, (m.2 46)), (47, upI (m.2 47) ((4 * a) + ((m.2 46) a)) (m.1 8)), (48, upI (m.2 48) ((4 * a) + ((m.2 46) a)) (m.1 9)), (49, (m.2 49))]) (r32 (by omega) (by omega)) (Ty_mO hT rfl rfl ⟨g486, g488, g490, g492, g494, g496, trivial⟩ ⟨(hT.2.1 46), G461, G462, (hT.2.1 49), trivial⟩) (show 0 ≤ v449 by omega) (show 1 ≤ y491 by omega) (show y491 ≤ 8 by omega) (show ∀ k, (upI (m.2 47) ((4 * a) + ((m.2 46) a)) (m.1 8)) k + (upI (m.2 48) ((4 * a) + ((m.2 46) a)) (m.1 9)) k ≤ 4000 by first | exact hPA | (intro k; have := hPA0 k; have h7 := hLx0 hf0; unfold upI; split <;> omega)) (show (m.2 46) a ≤ 3 by omega) (show 0 ≤ ((4 * a) + ((m.2 46) a)) ∧ ((4 * a) + ((m.2 46) a)) ≤ 64 by omega)
              · skip
                replace h477 : LxP y465 y467 y469 (m.1 6) y471 := h477
                have hLx := h477
                clear h478
                replace h479 : (m.1 8) ≤ y467 := h479
                clear h480
                have hf531 : 1 ≤ y471 := by omega
                clear g444 g446 hf448 h447 q453_10 q453_11 h460
                exact J135_68 v449 (mO m [(7, y465), (8, y467), (9, y469), (10, y471), (11, y473), (12, y475)] [(46, (m.2 46)), (47, upI (m.2 47) ((4 * a) + ((m.2 46) a)) (m.1 8)), (48, upI (m.2 48) ((4 * a) + ((m.2 46) a)) (m.1 9)), (49, (m.2 49))]) (r32 (by omega) (by omega)) (Ty_mO hT rfl rfl ⟨g466, g468, g470, g472, g474, g476, trivial⟩ ⟨(hT.2.1 46), G461, G462, (hT.2.1 49), trivial⟩) (show 0 ≤ v449 by omega) (show 1 ≤ y471 by omega) (show y471 ≤ 8 by omega) (show ∀ k, (upI (m.2 47) ((4 * a) + ((m.2 46) a)) (m.1 8)) k + (upI (m.2 48) ((4 * a) + ((m.2 46) a)) (m.1 9)) k ≤ 4000 by first | exact hPA | (intro k; have := hPA0 k; have h7 := hLx0 hf0; unfold upI; split <;> omega)) (show (m.2 46) a ≤ 3 by omega) (show 0 ≤ ((4 * a) + ((m.2 46) a)) ∧ ((4 * a) + ((m.2 46) a)) ≤ 64 by omega)
            · skip
              refine T_gf 66 (.int (i32 (m450.1 10))) rfl rfl rfl rfl rfl rfl ?_
              refine T_if 103 69 rfl rfl rfl (r32 (by omega) (by omega)) (fun (h532 : (m450.1 10) ≠ 0) => by exfalso; omega) (fun (h532 : ¬ ((m450.1 10) ≠ 0)) => ?_)
              have hp3 := hPA v449
              refine T_ld 70 (.ref 189) rfl (fun _ => rfl) ?_
              refine T_gf 74 (.ref 217) rfl rfl rfl rfl rfl rfl ?_
              refine T_ld 75 (.int (i32 v449)) rfl (fun _ => rfl) ?_
              refine T_iald 76 47 (m.2 47) rfl rfl rfl (by omega) (show v449 < (64 : Int) by omega) rfl ?_
              have e533 : 0 ≤ (m.2 47) v449 ∧ (m.2 47) v449 ≤ 4000 := (hT.2.1 47) v449
              refine T_gf 80 (.ref 218) rfl rfl rfl rfl rfl rfl ?_
              refine T_ld 81 (.int (i32 v449)) rfl (fun _ => rfl) ?_
              refine T_iald 82 48 (m.2 48) rfl rfl rfl (by omega) (show v449 < (64 : Int) by omega) rfl ?_
              have e534 : 0 ≤ (m.2 48) v449 ∧ (m.2 48) v449 ≤ 4000 := (hT.2.1 48) v449
              refine T_call 85 230 [.ref 189, .int (i32 ((m.2 47) v449)), .int (i32 ((m.2 48) v449))] [] rfl (fun _ => rfl) rfl (c_isHere w (mO m [(7, (m.1 7)), (8, (m.1 8)), (9, (m.1 9)), (10, (m450.1 10)), (11, (m450.1 11)), (12, (m.1 12))] [(46, (m.2 46)), (47, (m.2 47)), (48, (m.2 48)), (49, (m.2 49))]) c N D (by omega) (Ty_mO hT rfl rfl ⟨f7, f8, f9, (q453.1 10), (q453.1 11), f12, trivial⟩ ⟨(hT.2.1 46), (hT.2.1 47), (hT.2.1 48), (hT.2.1 49), trivial⟩) ((m.2 47) v449) ((m.2 48) v449) (r32 (by omega) (by omega)) (r32 (by omega) (by omega)) (show 0 ≤ ((m.2 47) v449) by omega) (show 0 ≤ ((m.2 48) v449) by omega) (show ((m.2 47) v449) + ((m.2 48) v449) ≤ 4000 by omega) (show 1 ≤ (m.1 9) ∧ (m.1 8) + (m.1 9) ≤ (m.1 6) by first | omega | (have h8 := hLx (by omega); omega))) (fun rr535 k536 => ?_)
              obtain ⟨x537, g538, h539, rfl⟩ := k536
              refine ⟨_, _, rfl, ?_⟩
              refine T_nf2 (st' := [.int (i32 x537)]) (l' := [(7, (m.1 7)), (8, (m.1 8)), (9, (m.1 9)), (10, (m450.1 10)), (11, (m450.1 11)), (12, (m.1 12))]) (a' := [(46, (m.2 46)), (47, (m.2 47)), (48, (m.2 48)), (49, (m.2 49))]) [] [] rfl ⟨rfl, rfl, rfl, rfl, rfl, rfl, rfl, rfl, rfl, rfl, rfl, rfl, trivial⟩ ⟨rfl, rfl, rfl, rfl, rfl, rfl, rfl, rfl, trivial⟩ rfl rfl (by decide) (by decide) ?_
              obtain ⟨g538a, g538b⟩ := g538
              replace h539 : (x537 = 1 ∧ sameN (m.2 4) (m.1 8) (m.1 9) ((m.2 47) v449) ((m.2 48) v449)) ∨ (x537 = 0 ∧ ¬ sameN (m.2 4) (m.1 8) (m.1 9) ((m.2 47) v449) ((m.2 48) v449)) := h539
              have hh := h539
              have u540 : (m.1 8) ≤ (m.1 8) := by omega
              clear g444 g446 hf448 h447
              refine T_if 97 88 rfl rfl rfl (r32 (by omega) (by omega)) (fun (h541 : x537 = 0) => ?_) (fun (h541 : ¬ (x537 = 0)) => ?_)
              · skip
                refine T_iinc 100 [(3, .int (i32 (v449 + 1))), (0, .ref 189), (1, .int (i32 a)), (2, .int (i32 ((4 * a) + ((m.2 46) a))))] rfl rfl (by decide) rfl rfl ?_
                refine T_goto 57 rfl (fun _ => rfl) ?_
                refine Tm_lv (a := [(0, .ref 189), (1, .int (i32 a)), (2, .int (i32 ((4 * a) + ((m.2 46) a)))), (3, .int (i32 (v449 + 1)))]) rfl rfl ⟨rfl, rfl, rfl, rfl, trivial⟩ ?_
                exact ih457 (v449 + 1) (mO m [(7, (m.1 7)), (8, (m.1 8)), (9, (m.1 9)), (10, (m450.1 10)), (11, (m450.1 11)), (12, (m.1 12))] [(46, (m.2 46)), (47, (m.2 47)), (48, (m.2 48)), (49, (m.2 49))]) (r32 (by omega) (by omega)) (Ty_mO hT rfl rfl ⟨f7, f8, f9, (q453.1 10), (q453.1 11), f12, trivial⟩ ⟨(hT.2.1 46), (hT.2.1 47), (hT.2.1 48), (hT.2.1 49), trivial⟩) (show 0 ≤ (v449 + 1) by omega) (show (v449 + 1) ≤ (4 * a) + ((m.2 46) a) by omega) (fun _ => trivial) (show ((4 * a) + ((m.2 46) a)) - (v449 + 1) < (n : Int) by omega)
              · skip
                refine T_ld 89 (.ref 189) rfl (fun _ => rfl) ?_
                refine T_ld 90 (.int (i32 3)) rfl (fun _ => rfl) ?_
                refine T_gf 94 (.int (i32 (m.1 8))) rfl rfl rfl rfl rfl rfl ?_
                refine T_call 97 222 [.ref 189, .int (i32 3), .int (i32 (m.1 8))] [] rfl (fun _ => rfl) rfl (c_wrong w (mO m [(7, (m.1 7)), (8, (m.1 8)), (9, (m.1 9)), (10, (m450.1 10)), (11, (m450.1 11)), (12, (m.1 12))] [(46, (m.2 46)), (47, (m.2 47)), (48, (m.2 48)), (49, (m.2 49))]) c N D (by omega) (Ty_mO hT rfl rfl ⟨f7, f8, f9, (q453.1 10), (q453.1 11), f12, trivial⟩ ⟨(hT.2.1 46), (hT.2.1 47), (hT.2.1 48), (hT.2.1 49), trivial⟩) 3 (m.1 8) ⟨by decide, by decide⟩ (r32 (by omega) (by omega)) (show 1 ≤ (3 : Int) ∧ (3 : Int) ≤ 8 by omega) (show 0 ≤ (m.1 8) ∧ (m.1 8) ≤ 4000 by omega)) (fun rr542 k543 => ?_)
                obtain ⟨y544, y546, g545, g547, h548, rfl⟩ := k543
                refine ⟨_, _, rfl, ?_⟩
                refine T_nf2 (st' := []) (l' := [(7, (m.1 7)), (8, (m.1 8)), (9, (m.1 9)), (10, y544), (11, y546), (12, (m.1 12))]) (a' := [(46, (m.2 46)), (47, (m.2 47)), (48, (m.2 48)), (49, (m.2 49))]) [10, 11] [] rfl ⟨rfl, rfl, rfl, rfl, rfl, rfl, rfl, rfl, rfl, rfl, rfl, rfl, rfl, rfl, rfl, trivial⟩ ⟨rfl, rfl, rfl, rfl, rfl, rfl, rfl, rfl, trivial⟩ rfl rfl (by decide) (by decide) ?_
                replace h548 : (0 < (m450.1 10) → y544 = (m450.1 10) ∧ y546 = (m450.1 11)) ∧ ((m450.1 10) ≤ 0 → y544 = (3 : Int) ∧ y546 = (m.1 8)) := h548
                have hf549 : 1 ≤ y544 := by omega
                clear q453_10 q453_11 h532 g538a g538b h539 h541 h548
                exact J97_99 v449 (mO m [(7, (m.1 7)), (8, (m.1 8)), (9, (m.1 9)), (10, y544), (11, y546), (12, (m.1 12))] [(46, (m.2 46)), (47, (m.2 47)), (48, (m.2 48)), (49, (m.2 49))]) (r32 (by omega) (by omega)) (Ty_mO hT rfl rfl ⟨f7, f8, f9, g545, g547, f12, trivial⟩ ⟨(hT.2.1 46), (hT.2.1 47), (hT.2.1 48), (hT.2.1 49), trivial⟩) (show 0 ≤ v449 by omega) (show v449 ≤ 63 by omega) (show 1 ≤ y544 by omega) (show y544 ≤ 8 by omega) (show ∀ k, (m.2 47) k + (m.2 48) k ≤ 4000 by first | exact hPA | (intro k; have := hPA0 k; have h7 := hLx0 hf0; unfold upI; split <;> omega)) (show 1 ≤ ((4 * a) + ((m.2 46) a)) ∧ ((4 * a) + ((m.2 46) a)) ≤ 64 by omega)
          · skip
            clear c456
            have hf550 : 1 ≤ (m450.1 10) := by omega
            refine T_ld 58 (.int (i32 v449)) rfl (fun _ => rfl) ?_
            refine T_ld 59 (.int (i32 ((4 * a) + ((m.2 46) a)))) rfl (fun _ => rfl) ?_
            refine T_icmp 103 62 rfl rfl rfl (r32 (by omega) (by omega)) (r32 (by omega) (by omega)) (fun (h551 : (4 * a) + ((m.2 46) a) ≤ v449) => ?_) (fun (h551 : ¬ ((4 * a) + ((m.2 46) a) ≤ v449)) => ?_)
            · skip
              refine T_gf 107 (.int (i32 (m450.1 10))) rfl rfl rfl rfl rfl rfl ?_
              refine T_if 111 110 rfl rfl rfl (r32 (by omega) (by omega)) (fun (h552 : (m450.1 10) ≤ 0) => by exfalso; omega) (fun (h552 : ¬ ((m450.1 10) ≤ 0)) => ?_)
              refine T_ret rfl (fun _ => rfl) ?_
              exact ⟨(mO m [(7, (m.1 7)), (8, (m.1 8)), (9, (m.1 9)), (10, (m450.1 10)), (11, (m450.1 11)), (12, (m.1 12))] [(46, (m.2 46)), (47, (m.2 47)), (48, (m.2 48)), (49, (m.2 49))]), (Ty_mO hT rfl rfl ⟨f7, f8, f9, (q453.1 10), (q453.1 11), f12, trivial⟩ ⟨(hT.2.1 46), (hT.2.1 47), (hT.2.1 48), (hT.2.1 49), trivial⟩), (show (m450.1 10) = 0 → (m.1 10) = 0 by omega), (show LxP (m.1 7) (m.1 8) (m.1 9) (m.1 6) (m450.1 10) by first | (first | exact hLx | exact (fun _ => hLx (by omega)) | (intro h9; exfalso; omega)) | (exfalso; omega)), (show ∀ k, (m.2 47) k + (m.2 48) k ≤ 4000 by first | (first | exact hPA | (intro k; have := hPA0 k; have h7 := hLx0 hf0; unfold upI; split <;> omega)) | (exfalso; omega)), (fun (h : (m450.1 10) = 0) => absurd h (by omega)), rfl⟩
            · skip
              refine T_gf 66 (.int (i32 (m450.1 10))) rfl rfl rfl rfl rfl rfl ?_
              refine T_if 103 69 rfl rfl rfl (r32 (by omega) (by omega)) (fun (h553 : (m450.1 10) ≠ 0) => ?_) (fun (h553 : ¬ ((m450.1 10) ≠ 0)) => by exfalso; omega)
              refine T_gf 107 (.int (i32 (m450.1 10))) rfl rfl rfl rfl rfl rfl ?_
              refine T_if 111 110 rfl rfl rfl (r32 (by omega) (by omega)) (fun (h554 : (m450.1 10) ≤ 0) => by exfalso; omega) (fun (h554 : ¬ ((m450.1 10) ≤ 0)) => ?_)
              refine T_ret rfl (fun _ => rfl) ?_
              exact ⟨(mO m [(7, (m.1 7)), (8, (m.1 8)), (9, (m.1 9)), (10, (m450.1 10)), (11, (m450.1 11)), (12, (m.1 12))] [(46, (m.2 46)), (47, (m.2 47)), (48, (m.2 48)), (49, (m.2 49))]), (Ty_mO hT rfl rfl ⟨f7, f8, f9, (q453.1 10), (q453.1 11), f12, trivial⟩ ⟨(hT.2.1 46), (hT.2.1 47), (hT.2.1 48), (hT.2.1 49), trivial⟩), (show (m450.1 10) = 0 → (m.1 10) = 0 by omega), (show LxP (m.1 7) (m.1 8) (m.1 9) (m.1 6) (m450.1 10) by first | (first | exact hLx | exact (fun _ => hLx (by omega)) | (intro h9; exfalso; omega)) | (exfalso; omega)), (show ∀ k, (m.2 47) k + (m.2 48) k ≤ 4000 by first | (first | exact hPA | (intro k; have := hPA0 k; have h7 := hLx0 hf0; unfold upI; split <;> omega)) | (exfalso; omega)), (fun (h : (m450.1 10) = 0) => absurd h (by omega)), rfl⟩
      refine Tm_lv (a := [(0, .ref 189), (1, .int (i32 a)), (2, .int (i32 ((4 * a) + ((m.2 46) a)))), (3, .int (i32 (4 * a)))]) rfl rfl ⟨rfl, rfl, rfl, rfl, trivial⟩ ?_
      exact L57_451 ((((4 * a) + ((m.2 46) a)) - (4 * a) : Int) + 1).toNat (4 * a) (mO m [(7, (m.1 7)), (8, (m.1 8)), (9, (m.1 9)), (10, y443), (11, y445), (12, (m.1 12))] [(46, (m.2 46)), (47, (m.2 47)), (48, (m.2 48)), (49, (m.2 49))]) (r32 (by omega) (by omega)) (Ty_mO hT rfl rfl ⟨f7, f8, f9, g444, g446, f12, trivial⟩ ⟨(hT.2.1 46), (hT.2.1 47), (hT.2.1 48), (hT.2.1 49), trivial⟩) (show 0 ≤ (4 * a) by omega) (show (4 * a) ≤ (4 * a) + ((m.2 46) a) by omega) (fun (h : y443 = 0) => absurd h (by omega)) (show ((4 * a) + ((m.2 46) a)) - (4 * a) < ((((((4 * a) + ((m.2 46) a)) - (4 * a) : Int) + 1).toNat : Nat) : Int) by omega)
  · skip
    clear hC
    refine T_gf 4 (.int (i32 (m.1 10))) rfl rfl rfl rfl rfl rfl ?_
    refine T_if 8 7 rfl rfl rfl (r32 (by omega) (by omega)) (fun (h555 : (m.1 10) ≤ 0) => by exfalso; omega) (fun (h555 : ¬ ((m.1 10) ≤ 0)) => ?_)
    refine T_ret rfl (fun _ => rfl) ?_
    exact ⟨(mO m [(7, (m.1 7)), (8, (m.1 8)), (9, (m.1 9)), (10, (m.1 10)), (11, (m.1 11)), (12, (m.1 12))] [(46, (m.2 46)), (47, (m.2 47)), (48, (m.2 48)), (49, (m.2 49))]), (Ty_mO hT rfl rfl ⟨f7, f8, f9, f10, f11, f12, trivial⟩ ⟨(hT.2.1 46), (hT.2.1 47), (hT.2.1 48), (hT.2.1 49), trivial⟩), (show (m.1 10) = 0 → (m.1 10) = 0 by omega), (show LxP (m.1 7) (m.1 8) (m.1 9) (m.1 6) (m.1 10) by first | (first | exact hLx | exact (fun _ => hLx (by omega)) | (intro h9; exfalso; omega)) | (exfalso; omega)), (show ∀ k, (m.2 47) k + (m.2 48) k ≤ 4000 by first | (first | exact hPA | (intro k; have := hPA0 k; have h7 := hLx0 hf0; unfold upI; split <;> omega)) | (exfalso; omega)), (fun (h : (m.1 10) = 0) => absurd h (by omega)), rfl⟩
def Q_takeAction (m : mR) (c : Nat → Option am_C) (N : Nat) : ag_Re af_T → Prop := fun R => ∃ (M : mR), Ty M ∧ ((M.1 10) = 0 → (m.1 10) = 0) ∧ (LxP (M.1 7) (M.1 8) (M.1 9) (m.1 6) (M.1 10)) ∧ (∀ k, (M.2 14) k + (M.2 15) k ≤ 4000) ∧ (∀ k, (M.2 47) k + (M.2 48) k ≤ 4000) ∧ (M.1 10 = 0 → ((m.1 8) + 1 ≤ (M.1 8)) ∧ (PN (M.1 13) (m.1 19) (m.1 20) (m.1 21) (m.1 22) (m.1 23) (M.1 25) (m.1 26) (M.2 16) (M.2 17)) ∧ (CN (M.2 65) (M.2 67) (M.1 28)) ∧ ((m.1 28) ≤ (M.1 28)) ∧ (agr (m.2 65) (M.2 65) (m.1 28)) ∧ (TdP (M.2 65) (M.1 28) (m.1 22) (M.1 99) (M.2 101) (M.2 103) (M.2 105) (M.2 106) (M.2 107) (M.2 108)) ∧ (AcP (M.1 25) (M.1 99) (M.2 109) (M.2 50)) ∧ ((M.1 99) ≤ 12 * (M.1 25)) ∧ ((m.1 25) ≤ (M.1 25))) ∧ R = (.inl (none), (mhp (mO m [(7, (M.1 7)), (8, (M.1 8)), (9, (M.1 9)), (10, (M.1 10)), (11, (M.1 11)), (12, (M.1 12)), (13, (M.1 13)), (25, (M.1 25)), (28, (M.1 28)), (64, (M.1 64)), (69, (M.1 69)), (70, (M.1 70)), (71, (M.1 71)), (72, (M.1 72)), (73, (M.1 73)), (74, (M.1 74)), (75, (M.1 75)), (99, (M.1 99)), (100, (M.1 100))] [(14, (M.2 14)), (15, (M.2 15)), (16, (M.2 16)), (17, (M.2 17)), (46, (M.2 46)), (47, (M.2 47)), (48, (M.2 48)), (49, (M.2 49)), (50, (M.2 50)), (65, (M.2 65)), (66, (M.2 66)), (67, (M.2 67)), (68, (M.2 68)), (76, (M.2 76)), (77, (M.2 77)), (78, (M.2 78)), (79, (M.2 79)), (80, (M.2 80)), (81, (M.2 81)), (82, (M.2 82)), (83, (M.2 83)), (84, (M.2 84)), (85, (M.2 85)), (86, (M.2 86)), (87, (M.2 87)), (88, (M.2 88)), (89, (M.2 89)), (90, (M.2 90)), (91, (M.2 91)), (92, (M.2 92)), (101, (M.2 101)), (102, (M.2 102)), (103, (M.2 103)), (104, (M.2 104)), (105, (M.2 105)), (106, (M.2 106)), (107, (M.2 107)), (108, (M.2 108)), (109, (M.2 109))]) c, N), 0, 0)
set_option maxHeartbeats 8000000 in
theorem c_takeAction (w : wX) (m : mR) (c : Nat → Option am_C) (N D : Nat) (hD : 14 ≤ D) (hT : Ty m) (hLx0 : LxP (m.1 7) (m.1 8) (m.1 9) (m.1 6) (m.1 10)) (hNM0 : ∀ k, (m.2 14) k + (m.2 15) k ≤ 4000) (hFA0 : ∀ k, (m.2 31) k + (m.2 32) k ≤ 4000) (hPA0 : ∀ k, (m.2 47) k + (m.2 48) k ≤ 4000) (hC : m.1 10 = 0 → (PN (m.1 13) (m.1 19) (m.1 20) (m.1 21) (m.1 22) (m.1 23) (m.1 25) (m.1 26) (m.2 16) (m.2 17)) ∧ (CN (m.2 65) (m.2 67) (m.1 28)) ∧ (TdP (m.2 65) (m.1 28) (m.1 22) (m.1 99) (m.2 101) (m.2 103) (m.2 105) (m.2 106) (m.2 107) (m.2 108)) ∧ (AcP (m.1 25) (m.1 99) (m.2 109) (m.2 50)) ∧ ((m.1 99) ≤ 12 * (m.1 25)) ∧ ((m.1 7) ≠ 0)) : TC w D 267 [.ref 189] (mhp m c, N) (Q_takeAction m c N) := by
  obtain ⟨D, rfl⟩ : ∃ k, D = k + 1 := ⟨D - 1, by omega⟩
  have hLx := hLx0
  have hNM := hNM0
  have hFA := hFA0
  have hPA := hPA0
  have f7 : 0 ≤ m.1 7 ∧ m.1 7 ≤ 330 := hT.1 7
  have f8 : 0 ≤ m.1 8 ∧ m.1 8 ≤ 4000 := hT.1 8
  have f9 : 0 ≤ m.1 9 ∧ m.1 9 ≤ 4000 := hT.1 9
  have f10 : 0 ≤ m.1 10 ∧ m.1 10 ≤ 8 := hT.1 10
  have f11 : (-1) ≤ m.1 11 ∧ m.1 11 ≤ 4000 := hT.1 11
  have f12 : (-9223372036854775808) ≤ m.1 12 ∧ m.1 12 ≤ 9223372036854775807 := hT.1 12
  have f13 : 0 ≤ m.1 13 ∧ m.1 13 ≤ 120 := hT.1 13
  have f25 : 0 ≤ m.1 25 ∧ m.1 25 ≤ 16 := hT.1 25
  have f28 : 0 ≤ m.1 28 ∧ m.1 28 ≤ 800 := hT.1 28
  have f64 : (-1) ≤ m.1 64 ∧ m.1 64 ≤ 15 := hT.1 64
  have f69 : 0 ≤ m.1 69 ∧ m.1 69 ≤ 1024 := hT.1 69
  have f70 : 0 ≤ m.1 70 ∧ m.1 70 ≤ 4000 := hT.1 70
  have f71 : 0 ≤ m.1 71 ∧ m.1 71 ≤ 1 := hT.1 71
  have f72 : (-9223372036854775808) ≤ m.1 72 ∧ m.1 72 ≤ 9223372036854775807 := hT.1 72
  have f73 : 0 ≤ m.1 73 ∧ m.1 73 ≤ 60 := hT.1 73
  have f74 : 0 ≤ m.1 74 ∧ m.1 74 ≤ 24 := hT.1 74
  have f75 : 0 ≤ m.1 75 ∧ m.1 75 ≤ 3 := hT.1 75
  have f99 : 0 ≤ m.1 99 ∧ m.1 99 ≤ 240 := hT.1 99
  have f100 : 0 ≤ m.1 100 ∧ m.1 100 ≤ 64 := hT.1 100
  have f22 : 0 ≤ m.1 22 ∧ m.1 22 ≤ 8 := hT.1 22
  have f19 : 0 ≤ m.1 19 ∧ m.1 19 ≤ 12 := hT.1 19
  have f20 : 0 ≤ m.1 20 ∧ m.1 20 ≤ 12 := hT.1 20
  have f21 : 0 ≤ m.1 21 ∧ m.1 21 ≤ 16 := hT.1 21
  have f6 : 0 ≤ m.1 6 ∧ m.1 6 ≤ 4000 := hT.1 6
  have f23 : 0 ≤ m.1 23 ∧ m.1 23 ≤ 16 := hT.1 23
  have f26 : 0 ≤ m.1 26 ∧ m.1 26 ≤ 8 := hT.1 26
  refine Tc_of rfl ?_
  show TT w D pm_267 (0, [(0, .ref 189)], [], (mhp m c, N), 0, 0) (Q_takeAction m c N)
  rw [show (mhp m c, N) = (mhp (mO m [(7, (m.1 7)), (8, (m.1 8)), (9, (m.1 9)), (10, (m.1 10)), (11, (m.1 11)), (12, (m.1 12)), (13, (m.1 13)), (25, (m.1 25)), (28, (m.1 28)), (64, (m.1 64)), (69, (m.1 69)), (70, (m.1 70)), (71, (m.1 71)), (72, (m.1 72)), (73, (m.1 73)), (74, (m.1 74)), (75, (m.1 75)), (99, (m.1 99)), (100, (m.1 100))] [(14, (m.2 14)), (15, (m.2 15)), (16, (m.2 16)), (17, (m.2 17)), (46, (m.2 46)), (47, (m.2 47)), (48, (m.2 48)), (49, (m.2 49)), (50, (m.2 50)), (65, (m.2 65)), (66, (m.2 66)), (67, (m.2 67)), (68, (m.2 68)), (76, (m.2 76)), (77, (m.2 77)), (78, (m.2 78)), (79, (m.2 79)), (80, (m.2 80)), (81, (m.2 81)), (82, (m.2 82)), (83, (m.2 83)), (84, (m.2 84)), (85, (m.2 85)), (86, (m.2 86)), (87, (m.2 87)), (88, (m.2 88)), (89, (m.2 89)), (90, (m.2 90)), (91, (m.2 91)), (92, (m.2 92)), (101, (m.2 101)), (102, (m.2 102)), (103, (m.2 103)), (104, (m.2 104)), (105, (m.2 105)), (106, (m.2 106)), (107, (m.2 107)), (108, (m.2 108)), (109, (m.2 109))]) c, N) from congrArg (fun M => (mhp M c, N)) (mO_pad m [7, 8, 9, 10, 11, 12, 13, 25, 28, 64, 69, 70, 71, 72, 73, 74, 75, 99, 100] [14, 15, 16, 17, 46, 47, 48, 49, 50, 65, 66, 67, 68, 76, 77, 78, 79, 80, 81, 82, 83, 84, 85, 86, 87, 88, 89, 90, 91, 92, 101, 102, 103, 104, 105, 106, 107, 108, 109])]
  by_cases hf0 : m.1 10 = 0
  · skip
    obtain ⟨pPN, hCN, pTd, pAc, c1, c2⟩ := hC hf0
    have h7 := hLx (by omega)
    have hAgC := agr_r (m.2 65) (m.1 28)
    have hNM := hNM0
    have hPA := hPA0
    have hn := pPN.1
    refine T_ld 1 (.ref 189) rfl (fun _ => rfl) ?_
    refine T_call 4 212 [.ref 189] [] rfl (fun _ => rfl) rfl (c_next w (mO m [(7, (m.1 7)), (8, (m.1 8)), (9, (m.1 9)), (10, (m.1 10)), (11, (m.1 11)), (12, (m.1 12)), (13, (m.1 13)), (25, (m.1 25)), (28, (m.1 28)), (64, (m.1 64)), (69, (m.1 69)), (70, (m.1 70)), (71, (m.1 71)), (72, (m.1 72)), (73, (m.1 73)), (74, (m.1 74)), (75, (m.1 75)), (99, (m.1 99)), (100, (m.1 100))] [(14, (m.2 14)), (15, (m.2 15)), (16, (m.2 16)), (17, (m.2 17)), (46, (m.2 46)), (47, (m.2 47)), (48, (m.2 48)), (49, (m.2 49)), (50, (m.2 50)), (65, (m.2 65)), (66, (m.2 66)), (67, (m.2 67)), (68, (m.2 68)), (76, (m.2 76)), (77, (m.2 77)), (78, (m.2 78)), (79, (m.2 79)), (80, (m.2 80)), (81, (m.2 81)), (82, (m.2 82)), (83, (m.2 83)), (84, (m.2 84)), (85, (m.2 85)), (86, (m.2 86)), (87, (m.2 87)), (88, (m.2 88)), (89, (m.2 89)), (90, (m.2 90)), (91, (m.2 91)), (92, (m.2 92)), (101, (m.2 101)), (102, (m.2 102)), (103, (m.2 103)), (104, (m.2 104)), (105, (m.2 105)), (106, (m.2 106)), (107, (m.2 107)), (108, (m.2 108)), (109, (m.2 109))]) c N D (by omega) (Ty_mO hT rfl rfl ⟨f7, f8, f9, f10, f11, f12, f13, f25, f28, f64, f69, f70, f71, f72, f73, f74, f75, f99, f100, trivial⟩ ⟨(hT.2.1 14), (hT.2.1 15), (hT.2.1 16), (hT.2.1 17), (hT.2.1 46), (hT.2.1 47), (hT.2.1 48), (hT.2.1 49), (hT.2.1 50), (hT.2.1 65), (hT.2.1 66), (hT.2.1 67), (hT.2.1 68), (hT.2.1 76), (hT.2.1 77), (hT.2.1 78), (hT.2.1 79), (hT.2.1 80), (hT.2.1 81), (hT.2.1 82), (hT.2.1 83), (hT.2.1 84), (hT.2.1 85), (hT.2.1 86), (hT.2.1 87), (hT.2.1 88), (hT.2.1 89), (hT.2.1 90), (hT.2.1 91), (hT.2.1 92), (hT.2.1 101), (hT.2.1 102), (hT.2.1 103), (hT.2.1 104), (hT.2.1 105), (hT.2.1 106), (hT.2.1 107), (hT.2.1 108), (hT.2.1 109), trivial⟩) (show (m.1 10) = 0 → (m.1 8) + (m.1 9) ≤ (m.1 6) by first | omega | (intro h9; have h8 := hLx h9; omega))) (fun rr3 k4 => ?_)
    obtain ⟨y5, y7, y9, y11, y13, y15, g6, g8, g10, g12, g14, g16, h17, h18, h19, h20, rfl⟩ := k4
    refine ⟨_, _, rfl, ?_⟩
    refine T_nf2 (st' := []) (l' := [(7, y5), (8, y7), (9, y9), (10, y11), (11, y13), (12, y15), (13, (m.1 13)), (25, (m.1 25)), (28, (m.1 28)), (64, (m.1 64)), (69, (m.1 69)), (70, (m.1 70)), (71, (m.1 71)), (72, (m.1 72)), (73, (m.1 73)), (74, (m.1 74)), (75, (m.1 75)), (99, (m.1 99)), (100, (m.1 100))]) (a' := [(14, (m.2 14)), (15, (m.2 15)), (16, (m.2 16)), (17, (m.2 17)), (46, (m.2 46)), (47, (m.2 47)), (48, (m.2 48)), (49, (m.2 49)), (50, (m.2 50)), (65, (m.2 65)), (66, (m.2 66)), (67, (m.2 67)), (68, (m.2 68)), (76, (m.2 76)), (77, (m.2 77)), (78, (m.2 78)), (79, (m.2 79)), (80, (m.2 80)), (81, (m.2 81)), (82, (m.2 82)), (83, (m.2 83)), (84, (m.2 84)), (85, (m.2 85)), (86, (m.2 86)), (87, (m.2 87)), (88, (m.2 88)), (89, (m.2 89)), (90, (m.2 90)), (91, (m.2 91)), (92, (m.2 92)), (101, (m.2 101)), (102, (m.2 102)), (103, (m.2 103)), (104, (m.2 104)), (105, (m.2 105)), (106, (m.2 106)), (107, (m.2 107)), (108, (m.2 108)), (109, (m.2 109))]) [7, 8, 9, 10, 11, 12] [] rfl ⟨rfl, rfl, rfl, rfl, rfl, rfl, rfl, rfl, rfl, rfl, rfl, rfl, rfl, rfl, rfl, rfl, rfl, rfl, rfl, rfl, rfl, rfl, rfl, rfl, rfl, rfl, rfl, rfl, rfl, rfl, rfl, rfl, rfl, rfl, rfl, rfl, rfl, rfl, trivial⟩ ⟨rfl, rfl, rfl, rfl, rfl, rfl, rfl, rfl, rfl, rfl, rfl, rfl, rfl, rfl, rfl, rfl, rfl, rfl, rfl, rfl, rfl, rfl, rfl, rfl, rfl, rfl, rfl, rfl, rfl, rfl, rfl, rfl, rfl, rfl, rfl, rfl, rfl, rfl, rfl, rfl, rfl, rfl, rfl, rfl, rfl, rfl, rfl, rfl, rfl, rfl, rfl, rfl, rfl, rfl, rfl, rfl, rfl, rfl, rfl, rfl, rfl, rfl, rfl, rfl, rfl, rfl, rfl, rfl, rfl, rfl, rfl, rfl, rfl, rfl, rfl, rfl, rfl, rfl, trivial⟩ rfl rfl (by decide) (by decide) ?_
    by_cases hf21 : y11 = 0
    · skip
      subst hf21
      replace h17 : LxP y5 y7 y9 (m.1 6) (0 : Int) := h17
      have hLx := h17
      replace h18 : (m.1 10) = 0 := h18 rfl
      replace h19 : (m.1 8) ≤ y7 := h19
      replace h20 : (m.1 8) + (m.1 9) ≤ y7 := h20 rfl
      have u22 : (m.1 8) + 1 ≤ y7 := by omega
      have hAgC : agr (m.2 65) (m.2 65) (m.1 28) := by first | exact agr_r _ _ | exact hAgC | exact agr_t hAgC hAg (by omega)
      clear g12
      refine T_ld 5 (.ref 189) rfl (fun _ => rfl) ?_
      refine T_ld 7 (.int (i32 6)) rfl (fun _ => rfl) ?_
      refine T_gf 11 (.int (i32 (m.1 25))) rfl rfl rfl rfl rfl rfl ?_
      refine T_ld 13 (.int (i32 16)) rfl (fun _ => rfl) ?_
      refine T_call 16 225 [.ref 189, .int (i32 6), .int (i32 (m.1 25)), .int (i32 16)] [] rfl (fun _ => rfl) rfl (c_newName w (mO m [(7, y5), (8, y7), (9, y9), (10, 0), (11, y13), (12, y15), (13, (m.1 13)), (25, (m.1 25)), (28, (m.1 28)), (64, (m.1 64)), (69, (m.1 69)), (70, (m.1 70)), (71, (m.1 71)), (72, (m.1 72)), (73, (m.1 73)), (74, (m.1 74)), (75, (m.1 75)), (99, (m.1 99)), (100, (m.1 100))] [(14, (m.2 14)), (15, (m.2 15)), (16, (m.2 16)), (17, (m.2 17)), (46, (m.2 46)), (47, (m.2 47)), (48, (m.2 48)), (49, (m.2 49)), (50, (m.2 50)), (65, (m.2 65)), (66, (m.2 66)), (67, (m.2 67)), (68, (m.2 68)), (76, (m.2 76)), (77, (m.2 77)), (78, (m.2 78)), (79, (m.2 79)), (80, (m.2 80)), (81, (m.2 81)), (82, (m.2 82)), (83, (m.2 83)), (84, (m.2 84)), (85, (m.2 85)), (86, (m.2 86)), (87, (m.2 87)), (88, (m.2 88)), (89, (m.2 89)), (90, (m.2 90)), (91, (m.2 91)), (92, (m.2 92)), (101, (m.2 101)), (102, (m.2 102)), (103, (m.2 103)), (104, (m.2 104)), (105, (m.2 105)), (106, (m.2 106)), (107, (m.2 107)), (108, (m.2 108)), (109, (m.2 109))]) c N D (by omega) (Ty_mO hT rfl rfl ⟨g6, g8, g10, ⟨(by omega : (0 : Int) ≤ 0), (by omega : (0 : Int) ≤ 8)⟩, g14, g16, f13, f25, f28, f64, f69, f70, f71, f72, f73, f74, f75, f99, f100, trivial⟩ ⟨(hT.2.1 14), (hT.2.1 15), (hT.2.1 16), (hT.2.1 17), (hT.2.1 46), (hT.2.1 47), (hT.2.1 48), (hT.2.1 49), (hT.2.1 50), (hT.2.1 65), (hT.2.1 66), (hT.2.1 67), (hT.2.1 68), (hT.2.1 76), (hT.2.1 77), (hT.2.1 78), (hT.2.1 79), (hT.2.1 80), (hT.2.1 81), (hT.2.1 82), (hT.2.1 83), (hT.2.1 84), (hT.2.1 85), (hT.2.1 86), (hT.2.1 87), (hT.2.1 88), (hT.2.1 89), (hT.2.1 90), (hT.2.1 91), (hT.2.1 92), (hT.2.1 101), (hT.2.1 102), (hT.2.1 103), (hT.2.1 104), (hT.2.1 105), (hT.2.1 106), (hT.2.1 107), (hT.2.1 108), (hT.2.1 109), trivial⟩) 6 (m.1 25) 16 ⟨by decide, by decide⟩ (r32 (by omega) (by omega)) ⟨by decide, by decide⟩ (show LxP y5 y7 y9 (m.1 6) (0 : Int) by first | exact hLx | (intro h9; exfalso; omega) | (intro h9; have h8 := hLx (by omega); omega)) (show ∀ k, (m.2 14) k + (m.2 15) k ≤ 4000 by first | exact p1 | exact hNM) (show (0 : Int) = 0 → (m.1 13) ≤ 119 by omega) (show 1 ≤ (6 : Int) ∧ (6 : Int) ≤ 7 by omega) (show 0 ≤ (m.1 25) ∧ ((m.1 25) ≠ (16 : Int) → (m.1 25) ≤ 15) by omega)) (fun rr23 k24 => ?_)
      obtain ⟨y25, y27, y29, y31, y33, y35, y37, F39, F41, F43, F45, nn, g26, g28, g30, g32, g34, g36, g38, G40, G42, G44, G46, g47, h48, h49, h50, h51, h52, h53, h54, rfl⟩ := k24
      refine ⟨_, _, rfl, ?_⟩
      refine T_nf2 (st' := [.int (i32 nn)]) (l' := [(7, y25), (8, y27), (9, y29), (10, y31), (11, y33), (12, y35), (13, y37), (25, (m.1 25)), (28, (m.1 28)), (64, (m.1 64)), (69, (m.1 69)), (70, (m.1 70)), (71, (m.1 71)), (72, (m.1 72)), (73, (m.1 73)), (74, (m.1 74)), (75, (m.1 75)), (99, (m.1 99)), (100, (m.1 100))]) (a' := [(14, F39), (15, F41), (16, F43), (17, F45), (46, (m.2 46)), (47, (m.2 47)), (48, (m.2 48)), (49, (m.2 49)), (50, (m.2 50)), (65, (m.2 65)), (66, (m.2 66)), (67, (m.2 67)), (68, (m.2 68)), (76, (m.2 76)), (77, (m.2 77)), (78, (m.2 78)), (79, (m.2 79)), (80, (m.2 80)), (81, (m.2 81)), (82, (m.2 82)), (83, (m.2 83)), (84, (m.2 84)), (85, (m.2 85)), (86, (m.2 86)), (87, (m.2 87)), (88, (m.2 88)), (89, (m.2 89)), (90, (m.2 90)), (91, (m.2 91)), (92, (m.2 92)), (101, (m.2 101)), (102, (m.2 102)), (103, (m.2 103)), (104, (m.2 104)), (105, (m.2 105)), (106, (m.2 106)), (107, (m.2 107)), (108, (m.2 108)), (109, (m.2 109))]) [7, 8, 9, 10, 11, 12, 13] [14, 15, 16, 17] rfl ⟨rfl, rfl, rfl, rfl, rfl, rfl, rfl, rfl, rfl, rfl, rfl, rfl, rfl, rfl, rfl, rfl, rfl, rfl, rfl, rfl, rfl, rfl, rfl, rfl, rfl, rfl, rfl, rfl, rfl, rfl, rfl, rfl, rfl, rfl, rfl, rfl, rfl, rfl, trivial⟩ ⟨rfl, rfl, rfl, rfl, rfl, rfl, rfl, rfl, rfl, rfl, rfl, rfl, rfl, rfl, rfl, rfl, rfl, rfl, rfl, rfl, rfl, rfl, rfl, rfl, rfl, rfl, rfl, rfl, rfl, rfl, rfl, rfl, rfl, rfl, rfl, rfl, rfl, rfl, rfl, rfl, rfl, rfl, rfl, rfl, rfl, rfl, rfl, rfl, rfl, rfl, rfl, rfl, rfl, rfl, rfl, rfl, rfl, rfl, rfl, rfl, rfl, rfl, rfl, rfl, rfl, rfl, rfl, rfl, rfl, rfl, rfl, rfl, rfl, rfl, rfl, rfl, rfl, rfl, trivial⟩ rfl rfl (by decide) (by decide) ?_
      obtain ⟨g47a, g47b⟩ := g47
      by_cases hf55 : y31 = 0
      · skip
        subst hf55
        replace h48 : LxP y25 y27 y29 (m.1 6) (0 : Int) := h48
        have hLx := h48
        replace h49 : y7 ≤ y27 := h49
        replace h50 : (0 : Int) = 0 ∧ y7 + y9 ≤ y27 := h50 rfl
        replace h51 : nn = 1 ∧ y5 = 1 := h51 rfl
        replace h52 : nn = 1 → (m.1 25) ≠ (16 : Int) := h52
        replace h53 : ∀ k, F39 k + F41 k ≤ 4000 := h53
        have hNM := h53
        replace h54 : (nn = 1 ∧ (0 : Int) = 0 ∧ y37 = (m.1 13) + 1 ∧ F39 = upI (m.2 14) (m.1 13) y7 ∧ F41 = upI (m.2 15) (m.1 13) y9 ∧ F43 = upI (m.2 16) (m.1 13) (6 : Int) ∧ F45 = upI (m.2 17) (m.1 13) (m.1 25)) ∨ (nn = 0 ∧ 0 < (0 : Int) ∧ y37 = (m.1 13) ∧ F39 = (m.2 14) ∧ F41 = (m.2 15) ∧ F43 = (m.2 16) ∧ F45 = (m.2 17)) := h54
        have hN := h54
        have u56 : (m.1 8) + 1 ≤ y27 := by omega
        have hAgC : agr (m.2 65) (m.2 65) (m.1 28) := by first | exact agr_r _ _ | exact hAgC | exact agr_t hAgC hAg (by omega)
        clear g6 g8 g10 g14 g16 h17 h19 h20 u22 g32 h49 h50 h51 h54
        refine T_if 20 19 rfl rfl rfl (r32 (by omega) (by omega)) (fun (h57 : nn ≠ 0) => ?_) (fun (h57 : ¬ (nn ≠ 0)) => by exfalso; omega)
        have hlt : (m.1 25) ≤ 15 := by omega
        have hn7 : y37 = (m.1 13) + 1 ∧ F43 = upI (m.2 16) (m.1 13) 6 ∧ F45 = upI (m.2 17) (m.1 13) (m.1 25) := by
          rcases hN with ⟨e1, e2, e3, e4, e5, e6, e7⟩ | ⟨e1, e2⟩
          · exact ⟨e3, e6, e7⟩
          · omega
        have pPN : PN y37 (m.1 19) (m.1 20) (m.1 21) (m.1 22) (m.1 23) ((m.1 25) + 1) (m.1 26) F43 F45 := by
          rw [hn7.1, hn7.2.1, hn7.2.2]
          exact PN_6 pPN (by omega)
        refine T_gf 24 (.int (i32 (m.1 25))) rfl rfl rfl rfl rfl rfl ?_
        refine T_sto 25 [(1, .int (i32 (m.1 25))), (0, .ref 189)] rfl (fun _ => rfl) ?_
        refine T_ld 26 (.ref 189) rfl (fun _ => rfl) ?_
        refine T_ld 27 (.ref 189) rfl (fun _ => rfl) ?_
        refine T_gf1 30 (.int (i32 (m.1 25))) rfl rfl rfl rfl ?_
        refine T_ld 31 (.int (i32 1)) rfl (fun _ => rfl) ?_
        refine T_iadd 32 rfl rfl ?_
        refine T_pf (l' := [(7, y25), (8, y27), (9, y29), (10, 0), (11, y33), (12, y35), (13, y37), (25, (m.1 25) + 1), (28, (m.1 28)), (64, (m.1 64)), (69, (m.1 69)), (70, (m.1 70)), (71, (m.1 71)), (72, (m.1 72)), (73, (m.1 73)), (74, (m.1 74)), (75, (m.1 75)), (99, (m.1 99)), (100, (m.1 100))]) 35 ((m.1 25) + 1) rfl rfl rfl rfl rfl rfl ?_
        have g58 : 0 ≤ (m.1 25) + 1 ∧ (m.1 25) + 1 ≤ 16 := ⟨by omega, by omega⟩
        refine T_gf 39 (.ref 269) rfl rfl rfl rfl rfl rfl ?_
        refine T_ld 40 (.int (i32 (m.1 25))) rfl (fun _ => rfl) ?_
        refine T_gf 44 (.int (i32 (m.1 99))) rfl rfl rfl rfl rfl rfl ?_
        have G59 : ∀ j, 0 ≤ (upI (m.2 109) (m.1 25) (m.1 99)) j ∧ (upI (m.2 109) (m.1 25) (m.1 99)) j ≤ 192 := upI_rg (hT.2.1 109) ⟨by omega, by omega⟩
        refine T_iast (a' := [(14, F39), (15, F41), (16, F43), (17, F45), (46, (m.2 46)), (47, (m.2 47)), (48, (m.2 48)), (49, (m.2 49)), (50, (m.2 50)), (65, (m.2 65)), (66, (m.2 66)), (67, (m.2 67)), (68, (m.2 68)), (76, (m.2 76)), (77, (m.2 77)), (78, (m.2 78)), (79, (m.2 79)), (80, (m.2 80)), (81, (m.2 81)), (82, (m.2 82)), (83, (m.2 83)), (84, (m.2 84)), (85, (m.2 85)), (86, (m.2 86)), (87, (m.2 87)), (88, (m.2 88)), (89, (m.2 89)), (90, (m.2 90)), (91, (m.2 91)), (92, (m.2 92)), (101, (m.2 101)), (102, (m.2 102)), (103, (m.2 103)), (104, (m.2 104)), (105, (m.2 105)), (106, (m.2 106)), (107, (m.2 107)), (108, (m.2 108)), (109, upI (m.2 109) (m.1 25) (m.1 99))]) 45 109 (m.2 109) rfl rfl rfl (by omega) (show (m.1 25) < (16 : Int) by omega) rfl rfl ?_
        refine T_gf 49 (.ref 216) rfl rfl rfl rfl rfl rfl ?_
        refine T_ld 50 (.int (i32 (m.1 25))) rfl (fun _ => rfl) ?_
        refine T_ld 51 (.int (i32 0)) rfl (fun _ => rfl) ?_
        have G60 : ∀ j, 0 ≤ (upI (m.2 46) (m.1 25) 0) j ∧ (upI (m.2 46) (m.1 25) 0) j ≤ 4 := upI_rg (hT.2.1 46) ⟨by omega, by omega⟩
        refine T_iast (a' := [(14, F39), (15, F41), (16, F43), (17, F45), (46, upI (m.2 46) (m.1 25) 0), (47, (m.2 47)), (48, (m.2 48)), (49, (m.2 49)), (50, (m.2 50)), (65, (m.2 65)), (66, (m.2 66)), (67, (m.2 67)), (68, (m.2 68)), (76, (m.2 76)), (77, (m.2 77)), (78, (m.2 78)), (79, (m.2 79)), (80, (m.2 80)), (81, (m.2 81)), (82, (m.2 82)), (83, (m.2 83)), (84, (m.2 84)), (85, (m.2 85)), (86, (m.2 86)), (87, (m.2 87)), (88, (m.2 88)), (89, (m.2 89)), (90, (m.2 90)), (91, (m.2 91)), (92, (m.2 92)), (101, (m.2 101)), (102, (m.2 102)), (103, (m.2 103)), (104, (m.2 104)), (105, (m.2 105)), (106, (m.2 106)), (107, (m.2 107)), (108, (m.2 108)), (109, upI (m.2 109) (m.1 25) (m.1 99))]) 52 46 (m.2 46) rfl rfl rfl (by omega) (show (m.1 25) < (16 : Int) by omega) rfl rfl ?_
        refine T_gf 56 (.ref 220) rfl rfl rfl rfl rfl rfl ?_
        refine T_ld 57 (.int (i32 (m.1 25))) rfl (fun _ => rfl) ?_
        refine T_ld 58 (.int (i32 0)) rfl (fun _ => rfl) ?_
        have G61 : ∀ j, 0 ≤ (upI (m.2 50) (m.1 25) 0) j ∧ (upI (m.2 50) (m.1 25) 0) j ≤ 13 := upI_rg (hT.2.1 50) ⟨by omega, by omega⟩
        refine T_iast (a' := [(14, F39), (15, F41), (16, F43), (17, F45), (46, upI (m.2 46) (m.1 25) 0), (47, (m.2 47)), (48, (m.2 48)), (49, (m.2 49)), (50, upI (m.2 50) (m.1 25) 0), (65, (m.2 65)), (66, (m.2 66)), (67, (m.2 67)), (68, (m.2 68)), (76, (m.2 76)), (77, (m.2 77)), (78, (m.2 78)), (79, (m.2 79)), (80, (m.2 80)), (81, (m.2 81)), (82, (m.2 82)), (83, (m.2 83)), (84, (m.2 84)), (85, (m.2 85)), (86, (m.2 86)), (87, (m.2 87)), (88, (m.2 88)), (89, (m.2 89)), (90, (m.2 90)), (91, (m.2 91)), (92, (m.2 92)), (101, (m.2 101)), (102, (m.2 102)), (103, (m.2 103)), (104, (m.2 104)), (105, (m.2 105)), (106, (m.2 106)), (107, (m.2 107)), (108, (m.2 108)), (109, upI (m.2 109) (m.1 25) (m.1 99))]) 59 50 (m.2 50) rfl rfl rfl (by omega) (show (m.1 25) < (16 : Int) by omega) rfl rfl ?_
        refine T_ld 60 (.ref 189) rfl (fun _ => rfl) ?_
        refine T_ld 62 (.int (i32 40)) rfl (fun _ => rfl) ?_
        refine T_call 65 232 [.ref 189, .int (i32 40)] [] rfl (fun _ => rfl) rfl (c_need w (mO m [(7, y25), (8, y27), (9, y29), (10, 0), (11, y33), (12, y35), (13, y37), (25, (m.1 25) + 1), (28, (m.1 28)), (64, (m.1 64)), (69, (m.1 69)), (70, (m.1 70)), (71, (m.1 71)), (72, (m.1 72)), (73, (m.1 73)), (74, (m.1 74)), (75, (m.1 75)), (99, (m.1 99)), (100, (m.1 100))] [(14, F39), (15, F41), (16, F43), (17, F45), (46, upI (m.2 46) (m.1 25) 0), (47, (m.2 47)), (48, (m.2 48)), (49, (m.2 49)), (50, upI (m.2 50) (m.1 25) 0), (65, (m.2 65)), (66, (m.2 66)), (67, (m.2 67)), (68, (m.2 68)), (76, (m.2 76)), (77, (m.2 77)), (78, (m.2 78)), (79, (m.2 79)), (80, (m.2 80)), (81, (m.2 81)), (82, (m.2 82)), (83, (m.2 83)), (84, (m.2 84)), (85, (m.2 85)), (86, (m.2 86)), (87, (m.2 87)), (88, (m.2 88)), (89, (m.2 89)), (90, (m.2 90)), (91, (m.2 91)), (92, (m.2 92)), (101, (m.2 101)), (102, (m.2 102)), (103, (m.2 103)), (104, (m.2 104)), (105, (m.2 105)), (106, (m.2 106)), (107, (m.2 107)), (108, (m.2 108)), (109, upI (m.2 109) (m.1 25) (m.1 99))]) c N D (by omega) (Ty_mO hT rfl rfl ⟨g26, g28, g30, ⟨(by omega : (0 : Int) ≤ 0), (by omega : (0 : Int) ≤ 8)⟩, g34, g36, g38, g58, f28, f64, f69, f70, f71, f72, f73, f74, f75, f99, f100, trivial⟩ ⟨G40, G42, G44, G46, G60, (hT.2.1 47), (hT.2.1 48), (hT.2.1 49), G61, (hT.2.1 65), (hT.2.1 66), (hT.2.1 67), (hT.2.1 68), (hT.2.1 76), (hT.2.1 77), (hT.2.1 78), (hT.2.1 79), (hT.2.1 80), (hT.2.1 81), (hT.2.1 82), (hT.2.1 83), (hT.2.1 84), (hT.2.1 85), (hT.2.1 86), (hT.2.1 87), (hT.2.1 88), (hT.2.1 89), (hT.2.1 90), (hT.2.1 91), (hT.2.1 92), (hT.2.1 101), (hT.2.1 102), (hT.2.1 103), (hT.2.1 104), (hT.2.1 105), (hT.2.1 106), (hT.2.1 107), (hT.2.1 108), G59, trivial⟩) 40 ⟨by decide, by decide⟩ (show 1 ≤ (40 : Int) by omega) (show LxP y25 y27 y29 (m.1 6) (0 : Int) by first | exact hLx | (intro h9; exfalso; omega) | (intro h9; have h8 := hLx (by omega); omega))) (fun rr62 k63 => ?_)
        obtain ⟨y64, y66, y68, y70, y72, y74, g65, g67, g69, g71, g73, g75, h76, h77, h78, h79, rfl⟩ := k63
        refine ⟨_, _, rfl, ?_⟩
        refine T_nf2 (st' := []) (l' := [(7, y64), (8, y66), (9, y68), (10, y70), (11, y72), (12, y74), (13, y37), (25, (m.1 25) + 1), (28, (m.1 28)), (64, (m.1 64)), (69, (m.1 69)), (70, (m.1 70)), (71, (m.1 71)), (72, (m.1 72)), (73, (m.1 73)), (74, (m.1 74)), (75, (m.1 75)), (99, (m.1 99)), (100, (m.1 100))]) (a' := [(14, F39), (15, F41), (16, F43), (17, F45), (46, upI (m.2 46) (m.1 25) 0), (47, (m.2 47)), (48, (m.2 48)), (49, (m.2 49)), (50, upI (m.2 50) (m.1 25) 0), (65, (m.2 65)), (66, (m.2 66)), (67, (m.2 67)), (68, (m.2 68)), (76, (m.2 76)), (77, (m.2 77)), (78, (m.2 78)), (79, (m.2 79)), (80, (m.2 80)), (81, (m.2 81)), (82, (m.2 82)), (83, (m.2 83)), (84, (m.2 84)), (85, (m.2 85)), (86, (m.2 86)), (87, (m.2 87)), (88, (m.2 88)), (89, (m.2 89)), (90, (m.2 90)), (91, (m.2 91)), (92, (m.2 92)), (101, (m.2 101)), (102, (m.2 102)), (103, (m.2 103)), (104, (m.2 104)), (105, (m.2 105)), (106, (m.2 106)), (107, (m.2 107)), (108, (m.2 108)), (109, upI (m.2 109) (m.1 25) (m.1 99))]) [7, 8, 9, 10, 11, 12] [] rfl ⟨rfl, rfl, rfl, rfl, rfl, rfl, rfl, rfl, rfl, rfl, rfl, rfl, rfl, rfl, rfl, rfl, rfl, rfl, rfl, rfl, rfl, rfl, rfl, rfl, rfl, rfl, rfl, rfl, rfl, rfl, rfl, rfl, rfl, rfl, rfl, rfl, rfl, rfl, trivial⟩ ⟨rfl, rfl, rfl, rfl, rfl, rfl, rfl, rfl, rfl, rfl, rfl, rfl, rfl, rfl, rfl, rfl, rfl, rfl, rfl, rfl, rfl, rfl, rfl, rfl, rfl, rfl, rfl, rfl, rfl, rfl, rfl, rfl, rfl, rfl, rfl, rfl, rfl, rfl, rfl, rfl, rfl, rfl, rfl, rfl, rfl, rfl, rfl, rfl, rfl, rfl, rfl, rfl, rfl, rfl, rfl, rfl, rfl, rfl, rfl, rfl, rfl, rfl, rfl, rfl, rfl, rfl, rfl, rfl, rfl, rfl, rfl, rfl, rfl, rfl, rfl, rfl, rfl, rfl, trivial⟩ rfl rfl (by decide) (by decide) ?_
        by_cases hf80 : y70 = 0
        · skip
          subst hf80
          replace h76 : LxP y64 y66 y68 (m.1 6) (0 : Int) := h76
          have hLx := h76
          replace h77 : (0 : Int) = 0 ∧ y25 = (40 : Int) := h77 rfl
          replace h78 : y27 ≤ y66 := h78
          replace h79 : y27 + y29 ≤ y66 := h79 rfl
          have u81 : (m.1 8) + 1 ≤ y66 := by omega
          have hAgC : agr (m.2 65) (m.2 65) (m.1 28) := by first | exact agr_r _ _ | exact hAgC | exact agr_t hAgC hAg (by omega)
          clear g26 g28 g30 g34 g36 g47a g47b h48 h52 u56 h57 g71 h77 h78 h79
          refine T_gf 69 (.int (i32 0)) rfl rfl rfl rfl rfl rfl ?_
          refine T_if 85 72 rfl rfl rfl ⟨by decide, by decide⟩ (fun h82 => absurd (show (0 : Int) ≠ 0 from h82) (by decide)) (fun _ => ?_)
          refine T_gf 76 (.int (i32 y64)) rfl rfl rfl rfl rfl rfl ?_
          refine T_ld 78 (.int (i32 41)) rfl (fun _ => rfl) ?_
          have J86_84 : ∀ (s83 : Int), (R32 s83) → (0 ≤ s83) → (s83 ≤ 1) → TT w D pm_267 (86, [(0, .ref 189), (1, .int (i32 (m.1 25)))], [.int (i32 s83)], (mhp (mO m [(7, y64), (8, y66), (9, y68), (10, 0), (11, y72), (12, y74), (13, y37), (25, (m.1 25) + 1), (28, (m.1 28)), (64, (m.1 64)), (69, (m.1 69)), (70, (m.1 70)), (71, (m.1 71)), (72, (m.1 72)), (73, (m.1 73)), (74, (m.1 74)), (75, (m.1 75)), (99, (m.1 99)), (100, (m.1 100))] [(14, F39), (15, F41), (16, F43), (17, F45), (46, upI (m.2 46) (m.1 25) 0), (47, (m.2 47)), (48, (m.2 48)), (49, (m.2 49)), (50, upI (m.2 50) (m.1 25) 0), (65, (m.2 65)), (66, (m.2 66)), (67, (m.2 67)), (68, (m.2 68)), (76, (m.2 76)), (77, (m.2 77)), (78, (m.2 78)), (79, (m.2 79)), (80, (m.2 80)), (81, (m.2 81)), (82, (m.2 82)), (83, (m.2 83)), (84, (m.2 84)), (85, (m.2 85)), (86, (m.2 86)), (87, (m.2 87)), (88, (m.2 88)), (89, (m.2 89)), (90, (m.2 90)), (91, (m.2 91)), (92, (m.2 92)), (101, (m.2 101)), (102, (m.2 102)), (103, (m.2 103)), (104, (m.2 104)), (105, (m.2 105)), (106, (m.2 106)), (107, (m.2 107)), (108, (m.2 108)), (109, upI (m.2 109) (m.1 25) (m.1 99))]) c, N), 0, 0) (Q_takeAction m c N) := by
            intro s83 q85 ic86 ic87
            obtain ⟨q85a, q85b⟩ := id q85
            refine T_sto 87 [(2, .int (i32 s83)), (0, .ref 189), (1, .int (i32 (m.1 25)))] rfl (fun _ => rfl) ?_
            have L87_91 : ∀ (n : Nat) (v89 : Int) (m90 : mR), (R32 v89) → (Ty m90) → (0 ≤ v89) → (v89 ≤ 1) → (LxP (m90.1 7) (m90.1 8) (m90.1 9) (m.1 6) (m90.1 10)) → (∀ k, (m90.2 47) k + (m90.2 48) k ≤ 4000) → (v89 = 0 ∨ v89 = 1) → ((m90.1 10) = 0 → ((m.1 8) + 1 ≤ (m90.1 8))) → 1000000 * (8 - (m90.1 10)) + 2 * (4000 - (m90.1 8)) + v89 < (n : Int) → TT w D pm_267 (87, [(0, .ref 189), (1, .int (i32 (m.1 25))), (2, .int (i32 v89))], [], (mhp (mO m [(7, (m90.1 7)), (8, (m90.1 8)), (9, (m90.1 9)), (10, (m90.1 10)), (11, (m90.1 11)), (12, (m90.1 12)), (13, y37), (25, (m.1 25) + 1), (28, (m.1 28)), (64, (m.1 64)), (69, (m.1 69)), (70, (m.1 70)), (71, (m.1 71)), (72, (m.1 72)), (73, (m.1 73)), (74, (m.1 74)), (75, (m.1 75)), (99, (m.1 99)), (100, (m.1 100))] [(14, F39), (15, F41), (16, F43), (17, F45), (46, (m90.2 46)), (47, (m90.2 47)), (48, (m90.2 48)), (49, (m90.2 49)), (50, upI (m.2 50) (m.1 25) 0), (65, (m.2 65)), (66, (m.2 66)), (67, (m.2 67)), (68, (m.2 68)), (76, (m.2 76)), (77, (m.2 77)), (78, (m.2 78)), (79, (m.2 79)), (80, (m.2 80)), (81, (m.2 81)), (82, (m.2 82)), (83, (m.2 83)), (84, (m.2 84)), (85, (m.2 85)), (86, (m.2 86)), (87, (m.2 87)), (88, (m.2 88)), (89, (m.2 89)), (90, (m.2 90)), (91, (m.2 91)), (92, (m.2 92)), (101, (m.2 101)), (102, (m.2 102)), (103, (m.2 103)), (104, (m.2 104)), (105, (m.2 105)), (106, (m.2 106)), (107, (m.2 107)), (108, (m.2 108)), (109, upI (m.2 109) (m.1 25) (m.1 99))]) c, N), 0, 0) (Q_takeAction m c N) := by
              intro n
              induction n with
              | zero =>
                intro v89 m90 q92 q93 ic94 ic95 ic96 ic97 ic98 c99 hmu
                obtain ⟨q92a, q92b⟩ := id q92
                have q93_7 : 0 ≤ m90.1 7 ∧ m90.1 7 ≤ 330 := q93.1 7
                have q93_8 : 0 ≤ m90.1 8 ∧ m90.1 8 ≤ 4000 := q93.1 8
                have q93_9 : 0 ≤ m90.1 9 ∧ m90.1 9 ≤ 4000 := q93.1 9
                have q93_10 : 0 ≤ m90.1 10 ∧ m90.1 10 ≤ 8 := q93.1 10
                have q93_11 : (-1) ≤ m90.1 11 ∧ m90.1 11 ≤ 4000 := q93.1 11
                have q93_12 : (-9223372036854775808) ≤ m90.1 12 ∧ m90.1 12 ≤ 9223372036854775807 := q93.1 12
                have hLx := ic96
                have hPA := ic97
                exfalso
                omega
              | succ n ih =>
                intro v89 m90 q92 q93 ic94 ic95 ic96 ic97 ic98 c99 hmu
                obtain ⟨q92a, q92b⟩ := id q92
                have q93_7 : 0 ≤ m90.1 7 ∧ m90.1 7 ≤ 330 := q93.1 7
                have q93_8 : 0 ≤ m90.1 8 ∧ m90.1 8 ≤ 4000 := q93.1 8
                have q93_9 : 0 ≤ m90.1 9 ∧ m90.1 9 ≤ 4000 := q93.1 9
                have q93_10 : 0 ≤ m90.1 10 ∧ m90.1 10 ≤ 8 := q93.1 10
                have q93_11 : (-1) ≤ m90.1 11 ∧ m90.1 11 ≤ 4000 := q93.1 11
                have q93_12 : (-9223372036854775808) ≤ m90.1 12 ∧ m90.1 12 ≤ 9223372036854775807 := q93.1 12
                have hLx := ic96
                have hPA := ic97
                have ih100 := ih
                by_cases hf101 : (m90.1 10) = 0
                · skip
                  have c102 := c99 hf101
                  clear c99
                  refine T_ld 88 (.int (i32 v89)) rfl (fun _ => rfl) ?_
                  refine T_if 136 91 rfl rfl rfl (r32 (by omega) (by omega)) (fun (h103 : v89 = 0) => ?_) (fun (h103 : ¬ (v89 = 0)) => ?_)
                  · skip
                    refine T_ld 137 (.ref 189) rfl (fun _ => rfl) ?_
                    refine T_ld 139 (.int (i32 41)) rfl (fun _ => rfl) ?_
                    refine T_call 142 232 [.ref 189, .int (i32 41)] [] rfl (fun _ => rfl) rfl (c_need w (mO m [(7, (m90.1 7)), (8, (m90.1 8)), (9, (m90.1 9)), (10, (m90.1 10)), (11, (m90.1 11)), (12, (m90.1 12)), (13, y37), (25, (m.1 25) + 1), (28, (m.1 28)), (64, (m.1 64)), (69, (m.1 69)), (70, (m.1 70)), (71, (m.1 71)), (72, (m.1 72)), (73, (m.1 73)), (74, (m.1 74)), (75, (m.1 75)), (99, (m.1 99)), (100, (m.1 100))] [(14, F39), (15, F41), (16, F43), (17, F45), (46, (m90.2 46)), (47, (m90.2 47)), (48, (m90.2 48)), (49, (m90.2 49)), (50, upI (m.2 50) (m.1 25) 0), (65, (m.2 65)), (66, (m.2 66)), (67, (m.2 67)), (68, (m.2 68)), (76, (m.2 76)), (77, (m.2 77)), (78, (m.2 78)), (79, (m.2 79)), (80, (m.2 80)), (81, (m.2 81)), (82, (m.2 82)), (83, (m.2 83)), (84, (m.2 84)), (85, (m.2 85)), (86, (m.2 86)), (87, (m.2 87)), (88, (m.2 88)), (89, (m.2 89)), (90, (m.2 90)), (91, (m.2 91)), (92, (m.2 92)), (101, (m.2 101)), (102, (m.2 102)), (103, (m.2 103)), (104, (m.2 104)), (105, (m.2 105)), (106, (m.2 106)), (107, (m.2 107)), (108, (m.2 108)), (109, upI (m.2 109) (m.1 25) (m.1 99))]) c N D (by omega) (Ty_mO hT rfl rfl ⟨(q93.1 7), (q93.1 8), (q93.1 9), (q93.1 10), (q93.1 11), (q93.1 12), g38, g58, f28, f64, f69, f70, f71, f72, f73, f74, f75, f99, f100, trivial⟩ ⟨G40, G42, G44, G46, (q93.2.1 46), (q93.2.1 47), (q93.2.1 48), (q93.2.1 49), G61, (hT.2.1 65), (hT.2.1 66), (hT.2.1 67), (hT.2.1 68), (hT.2.1 76), (hT.2.1 77), (hT.2.1 78), (hT.2.1 79), (hT.2.1 80), (hT.2.1 81), (hT.2.1 82), (hT.2.1 83), (hT.2.1 84), (hT.2.1 85), (hT.2.1 86), (hT.2.1 87), (hT.2.1 88), (hT.2.1 89), (hT.2.1 90), (hT.2.1 91), (hT.2.1 92), (hT.2.1 101), (hT.2.1 102), (hT.2.1 103), (hT.2.1 104), (hT.2.1 105), (hT.2.1 106), (hT.2.1 107), (hT.2.1 108), G59, trivial⟩) 41 ⟨by decide, by decide⟩ (show 1 ≤ (41 : Int) by omega) (show LxP (m90.1 7) (m90.1 8) (m90.1 9) (m.1 6) (m90.1 10) by first | exact hLx | (intro h9; exfalso; omega) | (intro h9; have h8 := hLx (by omega); omega))) (fun rr104 k105 => ?_)
                    obtain ⟨y106, y108, y110, y112, y114, y116, g107, g109, g111, g113, g115, g117, h118, h119, h120, h121, rfl⟩ := k105
                    refine ⟨_, _, rfl, ?_⟩
                    refine T_nf2 (st' := []) (l' := [(7, y106), (8, y108), (9, y110), (10, y112), (11, y114), (12, y116), (13, y37), (25, (m.1 25) + 1), (28, (m.1 28)), (64, (m.1 64)), (69, (m.1 69)), (70, (m.1 70)), (71, (m.1 71)), (72, (m.1 72)), (73, (m.1 73)), (74, (m.1 74)), (75, (m.1 75)), (99, (m.1 99)), (100, (m.1 100))]) (a' := [(14, F39), (15, F41), (16, F43), (17, F45), (46, (m90.2 46)), (47, (m90.2 47)), (48, (m90.2 48)), (49, (m90.2 49)), (50, upI (m.2 50) (m.1 25) 0), (65, (m.2 65)), (66, (m.2 66)), (67, (m.2 67)), (68, (m.2 68)), (76, (m.2 76)), (77, (m.2 77)), (78, (m.2 78)), (79, (m.2 79)), (80, (m.2 80)), (81, (m.2 81)), (82, (m.2 82)), (83, (m.2 83)), (84, (m.2 84)), (85, (m.2 85)), (86, (m.2 86)), (87, (m.2 87)), (88, (m.2 88)), (89, (m.2 89)), (90, (m.2 90)), (91, (m.2 91)), (92, (m.2 92)), (101, (m.2 101)), (102, (m.2 102)), (103, (m.2 103)), (104, (m.2 104)), (105, (m.2 105)), (106, (m.2 106)), (107, (m.2 107)), (108, (m.2 108)), (109, upI (m.2 109) (m.1 25) (m.1 99))]) [7, 8, 9, 10, 11, 12] [] rfl ⟨rfl, rfl, rfl, rfl, rfl, rfl, rfl, rfl, rfl, rfl, rfl, rfl, rfl, rfl, rfl, rfl, rfl, rfl, rfl, rfl, rfl, rfl, rfl, rfl, rfl, rfl, rfl, rfl, rfl, rfl, rfl, rfl, rfl, rfl, rfl, rfl, rfl, rfl, trivial⟩ ⟨rfl, rfl, rfl, rfl, rfl, rfl, rfl, rfl, rfl, rfl, rfl, rfl, rfl, rfl, rfl, rfl, rfl, rfl, rfl, rfl, rfl, rfl, rfl, rfl, rfl, rfl, rfl, rfl, rfl, rfl, rfl, rfl, rfl, rfl, rfl, rfl, rfl, rfl, rfl, rfl, rfl, rfl, rfl, rfl, rfl, rfl, rfl, rfl, rfl, rfl, rfl, rfl, rfl, rfl, rfl, rfl, rfl, rfl, rfl, rfl, rfl, rfl, rfl, rfl, rfl, rfl, rfl, rfl, rfl, rfl, rfl, rfl, rfl, rfl, rfl, rfl, rfl, rfl, trivial⟩ rfl rfl (by decide) (by decide) ?_
                    by_cases hf122 : y112 = 0
                    · skip
                      subst hf122
                      replace h118 : LxP y106 y108 y110 (m.1 6) (0 : Int) := h118
                      have hLx := h118
                      replace h119 : (m90.1 10) = 0 ∧ (m90.1 7) = (41 : Int) := h119 rfl
                      replace h120 : (m90.1 8) ≤ y108 := h120
                      replace h121 : (m90.1 8) + (m90.1 9) ≤ y108 := h121 rfl
                      have u123 : (m.1 8) + 1 ≤ y108 := by omega
                      have hAgC : agr (m.2 65) (m.2 65) (m.1 28) := by first | exact agr_r _ _ | exact hAgC | exact agr_t hAgC hAg (by omega)
                      clear g65 g67 g69 g73 g75 h76 u81 q85a q85b q85 ic86 ic87 q93_7 q93_9 q93_11 q93_12 ic96 g113 h119 h121
                      refine T_ld 143 (.ref 189) rfl (fun _ => rfl) ?_
                      refine T_ld 145 (.int (i32 123)) rfl (fun _ => rfl) ?_
                      refine T_call 148 232 [.ref 189, .int (i32 123)] [] rfl (fun _ => rfl) rfl (c_need w (mO m [(7, y106), (8, y108), (9, y110), (10, 0), (11, y114), (12, y116), (13, y37), (25, (m.1 25) + 1), (28, (m.1 28)), (64, (m.1 64)), (69, (m.1 69)), (70, (m.1 70)), (71, (m.1 71)), (72, (m.1 72)), (73, (m.1 73)), (74, (m.1 74)), (75, (m.1 75)), (99, (m.1 99)), (100, (m.1 100))] [(14, F39), (15, F41), (16, F43), (17, F45), (46, (m90.2 46)), (47, (m90.2 47)), (48, (m90.2 48)), (49, (m90.2 49)), (50, upI (m.2 50) (m.1 25) 0), (65, (m.2 65)), (66, (m.2 66)), (67, (m.2 67)), (68, (m.2 68)), (76, (m.2 76)), (77, (m.2 77)), (78, (m.2 78)), (79, (m.2 79)), (80, (m.2 80)), (81, (m.2 81)), (82, (m.2 82)), (83, (m.2 83)), (84, (m.2 84)), (85, (m.2 85)), (86, (m.2 86)), (87, (m.2 87)), (88, (m.2 88)), (89, (m.2 89)), (90, (m.2 90)), (91, (m.2 91)), (92, (m.2 92)), (101, (m.2 101)), (102, (m.2 102)), (103, (m.2 103)), (104, (m.2 104)), (105, (m.2 105)), (106, (m.2 106)), (107, (m.2 107)), (108, (m.2 108)), (109, upI (m.2 109) (m.1 25) (m.1 99))]) c N D (by omega) (Ty_mO hT rfl rfl ⟨g107, g109, g111, ⟨(by omega : (0 : Int) ≤ 0), (by omega : (0 : Int) ≤ 8)⟩, g115, g117, g38, g58, f28, f64, f69, f70, f71, f72, f73, f74, f75, f99, f100, trivial⟩ ⟨G40, G42, G44, G46, (q93.2.1 46), (q93.2.1 47), (q93.2.1 48), (q93.2.1 49), G61, (hT.2.1 65), (hT.2.1 66), (hT.2.1 67), (hT.2.1 68), (hT.2.1 76), (hT.2.1 77), (hT.2.1 78), (hT.2.1 79), (hT.2.1 80), (hT.2.1 81), (hT.2.1 82), (hT.2.1 83), (hT.2.1 84), (hT.2.1 85), (hT.2.1 86), (hT.2.1 87), (hT.2.1 88), (hT.2.1 89), (hT.2.1 90), (hT.2.1 91), (hT.2.1 92), (hT.2.1 101), (hT.2.1 102), (hT.2.1 103), (hT.2.1 104), (hT.2.1 105), (hT.2.1 106), (hT.2.1 107), (hT.2.1 108), G59, trivial⟩) 123 ⟨by decide, by decide⟩ (show 1 ≤ (123 : Int) by omega) (show LxP y106 y108 y110 (m.1 6) (0 : Int) by first | exact hLx | (intro h9; exfalso; omega) | (intro h9; have h8 := hLx (by omega); omega))) (fun rr124 k125 => ?_)
                      obtain ⟨y126, y128, y130, y132, y134, y136, g127, g129, g131, g133, g135, g137, h138, h139, h140, h141, rfl⟩ := k125
                      refine ⟨_, _, rfl, ?_⟩
                      refine T_nf2 (st' := []) (l' := [(7, y126), (8, y128), (9, y130), (10, y132), (11, y134), (12, y136), (13, y37), (25, (m.1 25) + 1), (28, (m.1 28)), (64, (m.1 64)), (69, (m.1 69)), (70, (m.1 70)), (71, (m.1 71)), (72, (m.1 72)), (73, (m.1 73)), (74, (m.1 74)), (75, (m.1 75)), (99, (m.1 99)), (100, (m.1 100))]) (a' := [(14, F39), (15, F41), (16, F43), (17, F45), (46, (m90.2 46)), (47, (m90.2 47)), (48, (m90.2 48)), (49, (m90.2 49)), (50, upI (m.2 50) (m.1 25) 0), (65, (m.2 65)), (66, (m.2 66)), (67, (m.2 67)), (68, (m.2 68)), (76, (m.2 76)), (77, (m.2 77)), (78, (m.2 78)), (79, (m.2 79)), (80, (m.2 80)), (81, (m.2 81)), (82, (m.2 82)), (83, (m.2 83)), (84, (m.2 84)), (85, (m.2 85)), (86, (m.2 86)), (87, (m.2 87)), (88, (m.2 88)), (89, (m.2 89)), (90, (m.2 90)), (91, (m.2 91)), (92, (m.2 92)), (101, (m.2 101)), (102, (m.2 102)), (103, (m.2 103)), (104, (m.2 104)), (105, (m.2 105)), (106, (m.2 106)), (107, (m.2 107)), (108, (m.2 108)), (109, upI (m.2 109) (m.1 25) (m.1 99))]) [7, 8, 9, 10, 11, 12] [] rfl ⟨rfl, rfl, rfl, rfl, rfl, rfl, rfl, rfl, rfl, rfl, rfl, rfl, rfl, rfl, rfl, rfl, rfl, rfl, rfl, rfl, rfl, rfl, rfl, rfl, rfl, rfl, rfl, rfl, rfl, rfl, rfl, rfl, rfl, rfl, rfl, rfl, rfl, rfl, trivial⟩ ⟨rfl, rfl, rfl, rfl, rfl, rfl, rfl, rfl, rfl, rfl, rfl, rfl, rfl, rfl, rfl, rfl, rfl, rfl, rfl, rfl, rfl, rfl, rfl, rfl, rfl, rfl, rfl, rfl, rfl, rfl, rfl, rfl, rfl, rfl, rfl, rfl, rfl, rfl, rfl, rfl, rfl, rfl, rfl, rfl, rfl, rfl, rfl, rfl, rfl, rfl, rfl, rfl, rfl, rfl, rfl, rfl, rfl, rfl, rfl, rfl, rfl, rfl, rfl, rfl, rfl, rfl, rfl, rfl, rfl, rfl, rfl, rfl, rfl, rfl, rfl, rfl, rfl, rfl, trivial⟩ rfl rfl (by decide) (by decide) ?_
                      by_cases hf142 : y132 = 0
                      · skip
                        subst hf142
                        replace h138 : LxP y126 y128 y130 (m.1 6) (0 : Int) := h138
                        have hLx := h138
                        replace h139 : (0 : Int) = 0 ∧ y106 = (123 : Int) := h139 rfl
                        replace h140 : y108 ≤ y128 := h140
                        replace h141 : y108 + y110 ≤ y128 := h141 rfl
                        have u143 : (m.1 8) + 1 ≤ y128 := by omega
                        have hAgC : agr (m.2 65) (m.2 65) (m.1 28) := by first | exact agr_r _ _ | exact hAgC | exact agr_t hAgC hAg (by omega)
                        clear g107 g109 g111 g115 g117 h118 h120 u123 g133 h139 h140 h141
                        refine T_ld 149 (.ref 189) rfl (fun _ => rfl) ?_
                        refine T_ld 150 (.int (i32 (m.1 25))) rfl (fun _ => rfl) ?_
                        refine T_pf (l' := [(7, y126), (8, y128), (9, y130), (10, 0), (11, y134), (12, y136), (13, y37), (25, (m.1 25) + 1), (28, (m.1 28)), (64, (m.1 25)), (69, (m.1 69)), (70, (m.1 70)), (71, (m.1 71)), (72, (m.1 72)), (73, (m.1 73)), (74, (m.1 74)), (75, (m.1 75)), (99, (m.1 99)), (100, (m.1 100))]) 153 (m.1 25) rfl rfl rfl rfl rfl rfl ?_
                        have g144 : (-1) ≤ (m.1 25) ∧ (m.1 25) ≤ 15 := ⟨by omega, by omega⟩
                        have L153_146 : ∀ (n : Nat) (m145 : mR), (Ty m145) → (LxP (m145.1 7) (m145.1 8) (m145.1 9) (m.1 6) (m145.1 10)) → ((m145.2 50) (m.1 25) ≤ 13) → ((m145.1 10) = 0 → ((m.1 8) + 1 ≤ (m145.1 8)) ∧ (CN (m145.2 65) (m145.2 67) (m145.1 28)) ∧ ((m.1 28) ≤ (m145.1 28)) ∧ (agr (m.2 65) (m145.2 65) (m.1 28)) ∧ (TdP (m145.2 65) (m145.1 28) (m.1 22) (m145.1 99) (m145.2 101) (m145.2 103) (m145.2 105) (m145.2 106) (m145.2 107) (m145.2 108)) ∧ ((m145.1 99) = (m.1 99) + (m145.2 50) (m.1 25)) ∧ ((m145.2 50) (m.1 25) ≤ 12) ∧ (agr (m.2 50) (m145.2 50) (m.1 25))) → 1000000 * (8 - (m145.1 10)) + (4000 - (m145.1 8)) < (n : Int) → TT w D pm_267 (153, [(0, .ref 189), (1, .int (i32 (m.1 25))), (2, .int (i32 v89))], [], (mhp (mO m [(7, (m145.1 7)), (8, (m145.1 8)), (9, (m145.1 9)), (10, (m145.1 10)), (11, (m145.1 11)), (12, (m145.1 12)), (13, y37), (25, (m.1 25) + 1), (28, (m145.1 28)), (64, (m.1 25)), (69, (m145.1 69)), (70, (m145.1 70)), (71, (m145.1 71)), (72, (m145.1 72)), (73, (m145.1 73)), (74, (m145.1 74)), (75, (m145.1 75)), (99, (m145.1 99)), (100, (m145.1 100))] [(14, F39), (15, F41), (16, F43), (17, F45), (46, (m90.2 46)), (47, (m90.2 47)), (48, (m90.2 48)), (49, (m90.2 49)), (50, (m145.2 50)), (65, (m145.2 65)), (66, (m145.2 66)), (67, (m145.2 67)), (68, (m145.2 68)), (76, (m145.2 76)), (77, (m145.2 77)), (78, (m145.2 78)), (79, (m145.2 79)), (80, (m145.2 80)), (81, (m145.2 81)), (82, (m145.2 82)), (83, (m145.2 83)), (84, (m145.2 84)), (85, (m145.2 85)), (86, (m145.2 86)), (87, (m145.2 87)), (88, (m145.2 88)), (89, (m145.2 89)), (90, (m145.2 90)), (91, (m145.2 91)), (92, (m145.2 92)), (101, (m145.2 101)), (102, (m145.2 102)), (103, (m145.2 103)), (104, (m145.2 104)), (105, (m145.2 105)), (106, (m145.2 106)), (107, (m145.2 107)), (108, (m145.2 108)), (109, upI (m.2 109) (m.1 25) (m.1 99))]) c, N), 0, 0) (Q_takeAction m c N) := by
                          intro n
                          induction n with
                          | zero =>
                            intro m145 q147 ic148 ic149 c150 hmu
                            have q147_7 : 0 ≤ m145.1 7 ∧ m145.1 7 ≤ 330 := q147.1 7
                            have q147_8 : 0 ≤ m145.1 8 ∧ m145.1 8 ≤ 4000 := q147.1 8
                            have q147_9 : 0 ≤ m145.1 9 ∧ m145.1 9 ≤ 4000 := q147.1 9
                            have q147_10 : 0 ≤ m145.1 10 ∧ m145.1 10 ≤ 8 := q147.1 10
                            have q147_11 : (-1) ≤ m145.1 11 ∧ m145.1 11 ≤ 4000 := q147.1 11
                            have q147_12 : (-9223372036854775808) ≤ m145.1 12 ∧ m145.1 12 ≤ 9223372036854775807 := q147.1 12
                            have q147_28 : 0 ≤ m145.1 28 ∧ m145.1 28 ≤ 800 := q147.1 28
                            have q147_69 : 0 ≤ m145.1 69 ∧ m145.1 69 ≤ 1024 := q147.1 69
                            have q147_70 : 0 ≤ m145.1 70 ∧ m145.1 70 ≤ 4000 := q147.1 70
                            have q147_71 : 0 ≤ m145.1 71 ∧ m145.1 71 ≤ 1 := q147.1 71
                            have q147_72 : (-9223372036854775808) ≤ m145.1 72 ∧ m145.1 72 ≤ 9223372036854775807 := q147.1 72
                            have q147_73 : 0 ≤ m145.1 73 ∧ m145.1 73 ≤ 60 := q147.1 73
                            have q147_74 : 0 ≤ m145.1 74 ∧ m145.1 74 ≤ 24 := q147.1 74
                            have q147_75 : 0 ≤ m145.1 75 ∧ m145.1 75 ≤ 3 := q147.1 75
                            have q147_99 : 0 ≤ m145.1 99 ∧ m145.1 99 ≤ 240 := q147.1 99
                            have q147_100 : 0 ≤ m145.1 100 ∧ m145.1 100 ≤ 64 := q147.1 100
                            have hLx := ic148
                            exfalso
                            omega
                          | succ n ih =>
                            intro m145 q147 ic148 ic149 c150 hmu
                            have q147_7 : 0 ≤ m145.1 7 ∧ m145.1 7 ≤ 330 := q147.1 7
                            have q147_8 : 0 ≤ m145.1 8 ∧ m145.1 8 ≤ 4000 := q147.1 8
                            have q147_9 : 0 ≤ m145.1 9 ∧ m145.1 9 ≤ 4000 := q147.1 9
                            have q147_10 : 0 ≤ m145.1 10 ∧ m145.1 10 ≤ 8 := q147.1 10
                            have q147_11 : (-1) ≤ m145.1 11 ∧ m145.1 11 ≤ 4000 := q147.1 11
                            have q147_12 : (-9223372036854775808) ≤ m145.1 12 ∧ m145.1 12 ≤ 9223372036854775807 := q147.1 12
                            have q147_28 : 0 ≤ m145.1 28 ∧ m145.1 28 ≤ 800 := q147.1 28
                            have q147_69 : 0 ≤ m145.1 69 ∧ m145.1 69 ≤ 1024 := q147.1 69
                            have q147_70 : 0 ≤ m145.1 70 ∧ m145.1 70 ≤ 4000 := q147.1 70
                            have q147_71 : 0 ≤ m145.1 71 ∧ m145.1 71 ≤ 1 := q147.1 71
                            have q147_72 : (-9223372036854775808) ≤ m145.1 72 ∧ m145.1 72 ≤ 9223372036854775807 := q147.1 72
                            have q147_73 : 0 ≤ m145.1 73 ∧ m145.1 73 ≤ 60 := q147.1 73
                            have q147_74 : 0 ≤ m145.1 74 ∧ m145.1 74 ≤ 24 := q147.1 74
                            have q147_75 : 0 ≤ m145.1 75 ∧ m145.1 75 ≤ 3 := q147.1 75
                            have q147_99 : 0 ≤ m145.1 99 ∧ m145.1 99 ≤ 240 := q147.1 99
                            have q147_100 : 0 ≤ m145.1 100 ∧ m145.1 100 ≤ 64 := q147.1 100
                            have hLx := ic148
                            have ih151 := ih
                            by_cases hf152 : (m145.1 10) = 0
                            · skip
                              obtain ⟨c153, c154, c155, c156, c157, c158, c159, c160⟩ := c150 hf152
                              clear c150
                              have hCN := c154
                              have hAgC := c156
                              have pTd := c157
                              have hS1 := c160
                              refine T_gf 157 (.int (i32 (m145.1 10))) rfl rfl rfl rfl rfl rfl ?_
                              refine T_if 211 160 rfl rfl rfl (r32 (by omega) (by omega)) (fun (h161 : (m145.1 10) ≠ 0) => by exfalso; omega) (fun (h161 : ¬ ((m145.1 10) ≠ 0)) => ?_)
                              refine T_ld 161 (.ref 189) rfl (fun _ => rfl) ?_
                              refine T_call 164 269 [.ref 189] [] rfl (fun _ => rfl) rfl (c_isStatement w (mO m [(7, (m145.1 7)), (8, (m145.1 8)), (9, (m145.1 9)), (10, (m145.1 10)), (11, (m145.1 11)), (12, (m145.1 12)), (13, y37), (25, (m.1 25) + 1), (28, (m145.1 28)), (64, (m.1 25)), (69, (m145.1 69)), (70, (m145.1 70)), (71, (m145.1 71)), (72, (m145.1 72)), (73, (m145.1 73)), (74, (m145.1 74)), (75, (m145.1 75)), (99, (m145.1 99)), (100, (m145.1 100))] [(14, F39), (15, F41), (16, F43), (17, F45), (46, (m90.2 46)), (47, (m90.2 47)), (48, (m90.2 48)), (49, (m90.2 49)), (50, (m145.2 50)), (65, (m145.2 65)), (66, (m145.2 66)), (67, (m145.2 67)), (68, (m145.2 68)), (76, (m145.2 76)), (77, (m145.2 77)), (78, (m145.2 78)), (79, (m145.2 79)), (80, (m145.2 80)), (81, (m145.2 81)), (82, (m145.2 82)), (83, (m145.2 83)), (84, (m145.2 84)), (85, (m145.2 85)), (86, (m145.2 86)), (87, (m145.2 87)), (88, (m145.2 88)), (89, (m145.2 89)), (90, (m145.2 90)), (91, (m145.2 91)), (92, (m145.2 92)), (101, (m145.2 101)), (102, (m145.2 102)), (103, (m145.2 103)), (104, (m145.2 104)), (105, (m145.2 105)), (106, (m145.2 106)), (107, (m145.2 107)), (108, (m145.2 108)), (109, upI (m.2 109) (m.1 25) (m.1 99))]) c N D (by omega) (Ty_mO hT rfl rfl ⟨(q147.1 7), (q147.1 8), (q147.1 9), (q147.1 10), (q147.1 11), (q147.1 12), g38, g58, (q147.1 28), g144, (q147.1 69), (q147.1 70), (q147.1 71), (q147.1 72), (q147.1 73), (q147.1 74), (q147.1 75), (q147.1 99), (q147.1 100), trivial⟩ ⟨G40, G42, G44, G46, (q93.2.1 46), (q93.2.1 47), (q93.2.1 48), (q93.2.1 49), (q147.2.1 50), (q147.2.1 65), (q147.2.1 66), (q147.2.1 67), (q147.2.1 68), (q147.2.1 76), (q147.2.1 77), (q147.2.1 78), (q147.2.1 79), (q147.2.1 80), (q147.2.1 81), (q147.2.1 82), (q147.2.1 83), (q147.2.1 84), (q147.2.1 85), (q147.2.1 86), (q147.2.1 87), (q147.2.1 88), (q147.2.1 89), (q147.2.1 90), (q147.2.1 91), (q147.2.1 92), (q147.2.1 101), (q147.2.1 102), (q147.2.1 103), (q147.2.1 104), (q147.2.1 105), (q147.2.1 106), (q147.2.1 107), (q147.2.1 108), G59, trivial⟩) ) (fun rr162 k163 => ?_)
                              obtain ⟨x164, g165, h166, rfl⟩ := k163
                              refine ⟨_, _, rfl, ?_⟩
                              refine T_nf2 (st' := [.int (i32 x164)]) (l' := [(7, (m145.1 7)), (8, (m145.1 8)), (9, (m145.1 9)), (10, (m145.1 10)), (11, (m145.1 11)), (12, (m145.1 12)), (13, y37), (25, (m.1 25) + 1), (28, (m145.1 28)), (64, (m.1 25)), (69, (m145.1 69)), (70, (m145.1 70)), (71, (m145.1 71)), (72, (m145.1 72)), (73, (m145.1 73)), (74, (m145.1 74)), (75, (m145.1 75)), (99, (m145.1 99)), (100, (m145.1 100))]) (a' := [(14, F39), (15, F41), (16, F43), (17, F45), (46, (m90.2 46)), (47, (m90.2 47)), (48, (m90.2 48)), (49, (m90.2 49)), (50, (m145.2 50)), (65, (m145.2 65)), (66, (m145.2 66)), (67, (m145.2 67)), (68, (m145.2 68)), (76, (m145.2 76)), (77, (m145.2 77)), (78, (m145.2 78)), (79, (m145.2 79)), (80, (m145.2 80)), (81, (m145.2 81)), (82, (m145.2 82)), (83, (m145.2 83)), (84, (m145.2 84)), (85, (m145.2 85)), (86, (m145.2 86)), (87, (m145.2 87)), (88, (m145.2 88)), (89, (m145.2 89)), (90, (m145.2 90)), (91, (m145.2 91)), (92, (m145.2 92)), (101, (m145.2 101)), (102, (m145.2 102)), (103, (m145.2 103)), (104, (m145.2 104)), (105, (m145.2 105)), (106, (m145.2 106)), (107, (m145.2 107)), (108, (m145.2 108)), (109, upI (m.2 109) (m.1 25) (m.1 99))]) [] [] rfl ⟨rfl, rfl, rfl, rfl, rfl, rfl, rfl, rfl, rfl, rfl, rfl, rfl, rfl, rfl, rfl, rfl, rfl, rfl, rfl, rfl, rfl, rfl, rfl, rfl, rfl, rfl, rfl, rfl, rfl, rfl, rfl, rfl, rfl, rfl, rfl, rfl, rfl, rfl, trivial⟩ ⟨rfl, rfl, rfl, rfl, rfl, rfl, rfl, rfl, rfl, rfl, rfl, rfl, rfl, rfl, rfl, rfl, rfl, rfl, rfl, rfl, rfl, rfl, rfl, rfl, rfl, rfl, rfl, rfl, rfl, rfl, rfl, rfl, rfl, rfl, rfl, rfl, rfl, rfl, rfl, rfl, rfl, rfl, rfl, rfl, rfl, rfl, rfl, rfl, rfl, rfl, rfl, rfl, rfl, rfl, rfl, rfl, rfl, rfl, rfl, rfl, rfl, rfl, rfl, rfl, rfl, rfl, rfl, rfl, rfl, rfl, rfl, rfl, rfl, rfl, rfl, rfl, rfl, rfl, trivial⟩ rfl rfl (by decide) (by decide) ?_
                              obtain ⟨g165a, g165b⟩ := g165
                              replace h166 : x164 = 1 → (m145.1 7) ≠ 0 := h166
                              have u167 : (m.1 8) + 1 ≤ (m145.1 8) := by omega
                              have hAgC : agr (m.2 65) (m145.2 65) (m.1 28) := by first | exact agr_r _ _ | exact hAgC | exact agr_t hAgC hAg (by omega)
                              clear g127 g129 g131 g135 g137 h138 u143
                              refine T_if 211 167 rfl rfl rfl (r32 (by omega) (by omega)) (fun (h168 : x164 = 0) => ?_) (fun (h168 : ¬ (x164 = 0)) => ?_)
                              · skip
                                refine T_ld 212 (.ref 189) rfl (fun _ => rfl) ?_
                                refine T_ld 213 (.int (i32 (-1))) rfl (fun _ => rfl) ?_
                                refine T_pf (l' := [(7, (m145.1 7)), (8, (m145.1 8)), (9, (m145.1 9)), (10, (m145.1 10)), (11, (m145.1 11)), (12, (m145.1 12)), (13, y37), (25, (m.1 25) + 1), (28, (m145.1 28)), (64, (-1)), (69, (m145.1 69)), (70, (m145.1 70)), (71, (m145.1 71)), (72, (m145.1 72)), (73, (m145.1 73)), (74, (m145.1 74)), (75, (m145.1 75)), (99, (m145.1 99)), (100, (m145.1 100))]) 216 (-1) rfl rfl rfl rfl rfl rfl ?_
                                have hAc2 : AcP ((m.1 25) + 1) (m145.1 99) (upI (m.2 109) (m.1 25) (m.1 99)) (m145.2 50) := AcP_add (AcP_k pAc (by omega)) (agr_u (Int.le_refl _)) hS1 (by rw [upI_s]; omega)
                                refine T_ld 217 (.ref 189) rfl (fun _ => rfl) ?_
                                refine T_ld 219 (.int (i32 125)) rfl (fun _ => rfl) ?_
                                refine T_call 222 232 [.ref 189, .int (i32 125)] [] rfl (fun _ => rfl) rfl (c_need w (mO m [(7, (m145.1 7)), (8, (m145.1 8)), (9, (m145.1 9)), (10, (m145.1 10)), (11, (m145.1 11)), (12, (m145.1 12)), (13, y37), (25, (m.1 25) + 1), (28, (m145.1 28)), (64, (-1)), (69, (m145.1 69)), (70, (m145.1 70)), (71, (m145.1 71)), (72, (m145.1 72)), (73, (m145.1 73)), (74, (m145.1 74)), (75, (m145.1 75)), (99, (m145.1 99)), (100, (m145.1 100))] [(14, F39), (15, F41), (16, F43), (17, F45), (46, (m90.2 46)), (47, (m90.2 47)), (48, (m90.2 48)), (49, (m90.2 49)), (50, (m145.2 50)), (65, (m145.2 65)), (66, (m145.2 66)), (67, (m145.2 67)), (68, (m145.2 68)), (76, (m145.2 76)), (77, (m145.2 77)), (78, (m145.2 78)), (79, (m145.2 79)), (80, (m145.2 80)), (81, (m145.2 81)), (82, (m145.2 82)), (83, (m145.2 83)), (84, (m145.2 84)), (85, (m145.2 85)), (86, (m145.2 86)), (87, (m145.2 87)), (88, (m145.2 88)), (89, (m145.2 89)), (90, (m145.2 90)), (91, (m145.2 91)), (92, (m145.2 92)), (101, (m145.2 101)), (102, (m145.2 102)), (103, (m145.2 103)), (104, (m145.2 104)), (105, (m145.2 105)), (106, (m145.2 106)), (107, (m145.2 107)), (108, (m145.2 108)), (109, upI (m.2 109) (m.1 25) (m.1 99))]) c N D (by omega) (Ty_mO hT rfl rfl ⟨(q147.1 7), (q147.1 8), (q147.1 9), (q147.1 10), (q147.1 11), (q147.1 12), g38, g58, (q147.1 28), ⟨(by omega : ((-1) : Int) ≤ (-1)), (by omega : ((-1) : Int) ≤ 15)⟩, (q147.1 69), (q147.1 70), (q147.1 71), (q147.1 72), (q147.1 73), (q147.1 74), (q147.1 75), (q147.1 99), (q147.1 100), trivial⟩ ⟨G40, G42, G44, G46, (q93.2.1 46), (q93.2.1 47), (q93.2.1 48), (q93.2.1 49), (q147.2.1 50), (q147.2.1 65), (q147.2.1 66), (q147.2.1 67), (q147.2.1 68), (q147.2.1 76), (q147.2.1 77), (q147.2.1 78), (q147.2.1 79), (q147.2.1 80), (q147.2.1 81), (q147.2.1 82), (q147.2.1 83), (q147.2.1 84), (q147.2.1 85), (q147.2.1 86), (q147.2.1 87), (q147.2.1 88), (q147.2.1 89), (q147.2.1 90), (q147.2.1 91), (q147.2.1 92), (q147.2.1 101), (q147.2.1 102), (q147.2.1 103), (q147.2.1 104), (q147.2.1 105), (q147.2.1 106), (q147.2.1 107), (q147.2.1 108), G59, trivial⟩) 125 ⟨by decide, by decide⟩ (show 1 ≤ (125 : Int) by omega) (show LxP (m145.1 7) (m145.1 8) (m145.1 9) (m.1 6) (m145.1 10) by first | exact hLx | (intro h9; exfalso; omega) | (intro h9; have h8 := hLx (by omega); omega))) (fun rr169 k170 => ?_)
                                obtain ⟨y171, y173, y175, y177, y179, y181, g172, g174, g176, g178, g180, g182, h183, h184, h185, h186, rfl⟩ := k170
                                refine ⟨_, _, rfl, ?_⟩
                                refine T_nf2 (st' := []) (l' := [(7, y171), (8, y173), (9, y175), (10, y177), (11, y179), (12, y181), (13, y37), (25, (m.1 25) + 1), (28, (m145.1 28)), (64, (-1)), (69, (m145.1 69)), (70, (m145.1 70)), (71, (m145.1 71)), (72, (m145.1 72)), (73, (m145.1 73)), (74, (m145.1 74)), (75, (m145.1 75)), (99, (m145.1 99)), (100, (m145.1 100))]) (a' := [(14, F39), (15, F41), (16, F43), (17, F45), (46, (m90.2 46)), (47, (m90.2 47)), (48, (m90.2 48)), (49, (m90.2 49)), (50, (m145.2 50)), (65, (m145.2 65)), (66, (m145.2 66)), (67, (m145.2 67)), (68, (m145.2 68)), (76, (m145.2 76)), (77, (m145.2 77)), (78, (m145.2 78)), (79, (m145.2 79)), (80, (m145.2 80)), (81, (m145.2 81)), (82, (m145.2 82)), (83, (m145.2 83)), (84, (m145.2 84)), (85, (m145.2 85)), (86, (m145.2 86)), (87, (m145.2 87)), (88, (m145.2 88)), (89, (m145.2 89)), (90, (m145.2 90)), (91, (m145.2 91)), (92, (m145.2 92)), (101, (m145.2 101)), (102, (m145.2 102)), (103, (m145.2 103)), (104, (m145.2 104)), (105, (m145.2 105)), (106, (m145.2 106)), (107, (m145.2 107)), (108, (m145.2 108)), (109, upI (m.2 109) (m.1 25) (m.1 99))]) [7, 8, 9, 10, 11, 12] [] rfl ⟨rfl, rfl, rfl, rfl, rfl, rfl, rfl, rfl, rfl, rfl, rfl, rfl, rfl, rfl, rfl, rfl, rfl, rfl, rfl, rfl, rfl, rfl, rfl, rfl, rfl, rfl, rfl, rfl, rfl, rfl, rfl, rfl, rfl, rfl, rfl, rfl, rfl, rfl, trivial⟩ ⟨rfl, rfl, rfl, rfl, rfl, rfl, rfl, rfl, rfl, rfl, rfl, rfl, rfl, rfl, rfl, rfl, rfl, rfl, rfl, rfl, rfl, rfl, rfl, rfl, rfl, rfl, rfl, rfl, rfl, rfl, rfl, rfl, rfl, rfl, rfl, rfl, rfl, rfl, rfl, rfl, rfl, rfl, rfl, rfl, rfl, rfl, rfl, rfl, rfl, rfl, rfl, rfl, rfl, rfl, rfl, rfl, rfl, rfl, rfl, rfl, rfl, rfl, rfl, rfl, rfl, rfl, rfl, rfl, rfl, rfl, rfl, rfl, rfl, rfl, rfl, rfl, rfl, rfl, trivial⟩ rfl rfl (by decide) (by decide) ?_
                                by_cases hf187 : y177 = 0
                                · skip
                                  subst hf187
                                  replace h183 : LxP y171 y173 y175 (m.1 6) (0 : Int) := h183
                                  have hLx := h183
                                  replace h184 : (m145.1 10) = 0 ∧ (m145.1 7) = (125 : Int) := h184 rfl
                                  replace h185 : (m145.1 8) ≤ y173 := h185
                                  replace h186 : (m145.1 8) + (m145.1 9) ≤ y173 := h186 rfl
                                  have u188 : (m.1 8) + 1 ≤ y173 := by omega
                                  have hAgC : agr (m.2 65) (m145.2 65) (m.1 28) := by first | exact agr_r _ _ | exact hAgC | exact agr_t hAgC hAg (by omega)
                                  clear q147_7 q147_9 q147_11 q147_12 ic148 g165a g165b h166 h168 g178 h184 h186
                                  refine T_ret rfl (fun _ => rfl) ?_
                                  exact ⟨(mO m [(7, y171), (8, y173), (9, y175), (10, 0), (11, y179), (12, y181), (13, y37), (25, (m.1 25) + 1), (28, (m145.1 28)), (64, (-1)), (69, (m145.1 69)), (70, (m145.1 70)), (71, (m145.1 71)), (72, (m145.1 72)), (73, (m145.1 73)), (74, (m145.1 74)), (75, (m145.1 75)), (99, (m145.1 99)), (100, (m145.1 100))] [(14, F39), (15, F41), (16, F43), (17, F45), (46, (m90.2 46)), (47, (m90.2 47)), (48, (m90.2 48)), (49, (m90.2 49)), (50, (m145.2 50)), (65, (m145.2 65)), (66, (m145.2 66)), (67, (m145.2 67)), (68, (m145.2 68)), (76, (m145.2 76)), (77, (m145.2 77)), (78, (m145.2 78)), (79, (m145.2 79)), (80, (m145.2 80)), (81, (m145.2 81)), (82, (m145.2 82)), (83, (m145.2 83)), (84, (m145.2 84)), (85, (m145.2 85)), (86, (m145.2 86)), (87, (m145.2 87)), (88, (m145.2 88)), (89, (m145.2 89)), (90, (m145.2 90)), (91, (m145.2 91)), (92, (m145.2 92)), (101, (m145.2 101)), (102, (m145.2 102)), (103, (m145.2 103)), (104, (m145.2 104)), (105, (m145.2 105)), (106, (m145.2 106)), (107, (m145.2 107)), (108, (m145.2 108)), (109, upI (m.2 109) (m.1 25) (m.1 99))]), (Ty_mO hT rfl rfl ⟨g172, g174, g176, ⟨(by omega : (0 : Int) ≤ 0), (by omega : (0 : Int) ≤ 8)⟩, g180, g182, g38, g58, (q147.1 28), ⟨(by omega : ((-1) : Int) ≤ (-1)), (by omega : ((-1) : Int) ≤ 15)⟩, (q147.1 69), (q147.1 70), (q147.1 71), (q147.1 72), (q147.1 73), (q147.1 74), (q147.1 75), (q147.1 99), (q147.1 100), trivial⟩ ⟨G40, G42, G44, G46, (q93.2.1 46), (q93.2.1 47), (q93.2.1 48), (q93.2.1 49), (q147.2.1 50), (q147.2.1 65), (q147.2.1 66), (q147.2.1 67), (q147.2.1 68), (q147.2.1 76), (q147.2.1 77), (q147.2.1 78), (q147.2.1 79), (q147.2.1 80), (q147.2.1 81), (q147.2.1 82), (q147.2.1 83), (q147.2.1 84), (q147.2.1 85), (q147.2.1 86), (q147.2.1 87), (q147.2.1 88), (q147.2.1 89), (q147.2.1 90), (q147.2.1 91), (q147.2.1 92), (q147.2.1 101), (q147.2.1 102), (q147.2.1 103), (q147.2.1 104), (q147.2.1 105), (q147.2.1 106), (q147.2.1 107), (q147.2.1 108), G59, trivial⟩), (show (0 : Int) = 0 → (m.1 10) = 0 by omega), (show LxP y171 y173 y175 (m.1 6) (0 : Int) by first | (first | exact hLx | exact (fun _ => hLx (by omega)) | (intro h9; exfalso; omega)) | (exfalso; omega)), (show ∀ k, F39 k + F41 k ≤ 4000 by first | (exact hNM) | (exfalso; omega)), (show ∀ k, (m90.2 47) k + (m90.2 48) k ≤ 4000 by first | (exact hPA) | (exfalso; omega)), (fun _ => ⟨(show (m.1 8) + 1 ≤ y173 by omega), (show PN y37 (m.1 19) (m.1 20) (m.1 21) (m.1 22) (m.1 23) ((m.1 25) + 1) (m.1 26) F43 F45 by first | (exact pPN) | (exfalso; omega)), (show CN (m145.2 65) (m145.2 67) (m145.1 28) by first | (exact hCN) | (exfalso; omega)), (show (m.1 28) ≤ (m145.1 28) by omega), (show agr (m.2 65) (m145.2 65) (m.1 28) by first | (exact hAgC) | (exfalso; omega)), (show TdP (m145.2 65) (m145.1 28) (m.1 22) (m145.1 99) (m145.2 101) (m145.2 103) (m145.2 105) (m145.2 106) (m145.2 107) (m145.2 108) by first | (exact pTd) | (exfalso; omega)), (show AcP ((m.1 25) + 1) (m145.1 99) (upI (m.2 109) (m.1 25) (m.1 99)) (m145.2 50) by first | (exact hAc2) | (exfalso; omega)), (show (m145.1 99) ≤ 12 * ((m.1 25) + 1) by omega), (show (m.1 25) ≤ ((m.1 25) + 1) by omega)⟩), rfl⟩
                                · skip
                                  replace h183 : LxP y171 y173 y175 (m.1 6) y177 := h183
                                  have hLx := h183
                                  clear h184
                                  replace h185 : (m145.1 8) ≤ y173 := h185
                                  clear h186
                                  have hf189 : 1 ≤ y177 := by omega
                                  clear q147_7 q147_9 q147_11 q147_12 ic148 g165a g165b h166 h168
                                  refine T_ret rfl (fun _ => rfl) ?_
                                  exact ⟨(mO m [(7, y171), (8, y173), (9, y175), (10, y177), (11, y179), (12, y181), (13, y37), (25, (m.1 25) + 1), (28, (m145.1 28)), (64, (-1)), (69, (m145.1 69)), (70, (m145.1 70)), (71, (m145.1 71)), (72, (m145.1 72)), (73, (m145.1 73)), (74, (m145.1 74)), (75, (m145.1 75)), (99, (m145.1 99)), (100, (m145.1 100))] [(14, F39), (15, F41), (16, F43), (17, F45), (46, (m90.2 46)), (47, (m90.2 47)), (48, (m90.2 48)), (49, (m90.2 49)), (50, (m145.2 50)), (65, (m145.2 65)), (66, (m145.2 66)), (67, (m145.2 67)), (68, (m145.2 68)), (76, (m145.2 76)), (77, (m145.2 77)), (78, (m145.2 78)), (79, (m145.2 79)), (80, (m145.2 80)), (81, (m145.2 81)), (82, (m145.2 82)), (83, (m145.2 83)), (84, (m145.2 84)), (85, (m145.2 85)), (86, (m145.2 86)), (87, (m145.2 87)), (88, (m145.2 88)), (89, (m145.2 89)), (90, (m145.2 90)), (91, (m145.2 91)), (92, (m145.2 92)), (101, (m145.2 101)), (102, (m145.2 102)), (103, (m145.2 103)), (104, (m145.2 104)), (105, (m145.2 105)), (106, (m145.2 106)), (107, (m145.2 107)), (108, (m145.2 108)), (109, upI (m.2 109) (m.1 25) (m.1 99))]), (Ty_mO hT rfl rfl ⟨g172, g174, g176, g178, g180, g182, g38, g58, (q147.1 28), ⟨(by omega : ((-1) : Int) ≤ (-1)), (by omega : ((-1) : Int) ≤ 15)⟩, (q147.1 69), (q147.1 70), (q147.1 71), (q147.1 72), (q147.1 73), (q147.1 74), (q147.1 75), (q147.1 99), (q147.1 100), trivial⟩ ⟨G40, G42, G44, G46, (q93.2.1 46), (q93.2.1 47), (q93.2.1 48), (q93.2.1 49), (q147.2.1 50), (q147.2.1 65), (q147.2.1 66), (q147.2.1 67), (q147.2.1 68), (q147.2.1 76), (q147.2.1 77), (q147.2.1 78), (q147.2.1 79), (q147.2.1 80), (q147.2.1 81), (q147.2.1 82), (q147.2.1 83), (q147.2.1 84), (q147.2.1 85), (q147.2.1 86), (q147.2.1 87), (q147.2.1 88), (q147.2.1 89), (q147.2.1 90), (q147.2.1 91), (q147.2.1 92), (q147.2.1 101), (q147.2.1 102), (q147.2.1 103), (q147.2.1 104), (q147.2.1 105), (q147.2.1 106), (q147.2.1 107), (q147.2.1 108), G59, trivial⟩), (show y177 = 0 → (m.1 10) = 0 by omega), (show LxP y171 y173 y175 (m.1 6) y177 by first | (first | exact hLx | exact (fun _ => hLx (by omega)) | (intro h9; exfalso; omega)) | (exfalso; omega)), (show ∀ k, F39 k + F41 k ≤ 4000 by first | (exact hNM) | (exfalso; omega)), (show ∀ k, (m90.2 47) k + (m90.2 48) k ≤ 4000 by first | (exact hPA) | (exfalso; omega)), (fun (h : y177 = 0) => absurd h (by omega)), rfl⟩
                              · skip
                                refine T_gf 171 (.ref 220) rfl rfl rfl rfl rfl rfl ?_
                                refine T_ld 172 (.int (i32 (m.1 25))) rfl (fun _ => rfl) ?_
                                refine T_iald 173 50 (m145.2 50) rfl rfl rfl (by omega) (show (m.1 25) < (16 : Int) by omega) rfl ?_
                                have e190 : 0 ≤ (m145.2 50) (m.1 25) ∧ (m145.2 50) (m.1 25) ≤ 13 := (q147.2.1 50) (m.1 25)
                                refine T_ld 175 (.int (i32 12)) rfl (fun _ => rfl) ?_
                                refine T_icmp 187 178 rfl rfl rfl (r32 (by omega) (by omega)) ⟨by decide, by decide⟩ (fun (h191 : (m145.2 50) (m.1 25) ≠ 12) => ?_) (fun (h191 : ¬ ((m145.2 50) (m.1 25) ≠ 12)) => ?_)
                                · skip
                                  refine T_gf 191 (.int (i32 (m145.1 10))) rfl rfl rfl rfl rfl rfl ?_
                                  refine T_if 198 194 rfl rfl rfl (r32 (by omega) (by omega)) (fun (h192 : (m145.1 10) ≠ 0) => by exfalso; omega) (fun (h192 : ¬ ((m145.1 10) ≠ 0)) => ?_)
                                  refine T_ld 195 (.ref 189) rfl (fun _ => rfl) ?_
                                  refine T_call 198 270 [.ref 189] [] rfl (fun _ => rfl) rfl (c_takeStatement w (mO m [(7, (m145.1 7)), (8, (m145.1 8)), (9, (m145.1 9)), (10, (m145.1 10)), (11, (m145.1 11)), (12, (m145.1 12)), (13, y37), (25, (m.1 25) + 1), (28, (m145.1 28)), (64, (m.1 25)), (69, (m145.1 69)), (70, (m145.1 70)), (71, (m145.1 71)), (72, (m145.1 72)), (73, (m145.1 73)), (74, (m145.1 74)), (75, (m145.1 75)), (99, (m145.1 99)), (100, (m145.1 100))] [(14, F39), (15, F41), (16, F43), (17, F45), (46, (m90.2 46)), (47, (m90.2 47)), (48, (m90.2 48)), (49, (m90.2 49)), (50, (m145.2 50)), (65, (m145.2 65)), (66, (m145.2 66)), (67, (m145.2 67)), (68, (m145.2 68)), (76, (m145.2 76)), (77, (m145.2 77)), (78, (m145.2 78)), (79, (m145.2 79)), (80, (m145.2 80)), (81, (m145.2 81)), (82, (m145.2 82)), (83, (m145.2 83)), (84, (m145.2 84)), (85, (m145.2 85)), (86, (m145.2 86)), (87, (m145.2 87)), (88, (m145.2 88)), (89, (m145.2 89)), (90, (m145.2 90)), (91, (m145.2 91)), (92, (m145.2 92)), (101, (m145.2 101)), (102, (m145.2 102)), (103, (m145.2 103)), (104, (m145.2 104)), (105, (m145.2 105)), (106, (m145.2 106)), (107, (m145.2 107)), (108, (m145.2 108)), (109, upI (m.2 109) (m.1 25) (m.1 99))]) c N D (by omega) (Ty_mO hT rfl rfl ⟨(q147.1 7), (q147.1 8), (q147.1 9), (q147.1 10), (q147.1 11), (q147.1 12), g38, g58, (q147.1 28), g144, (q147.1 69), (q147.1 70), (q147.1 71), (q147.1 72), (q147.1 73), (q147.1 74), (q147.1 75), (q147.1 99), (q147.1 100), trivial⟩ ⟨G40, G42, G44, G46, (q93.2.1 46), (q93.2.1 47), (q93.2.1 48), (q93.2.1 49), (q147.2.1 50), (q147.2.1 65), (q147.2.1 66), (q147.2.1 67), (q147.2.1 68), (q147.2.1 76), (q147.2.1 77), (q147.2.1 78), (q147.2.1 79), (q147.2.1 80), (q147.2.1 81), (q147.2.1 82), (q147.2.1 83), (q147.2.1 84), (q147.2.1 85), (q147.2.1 86), (q147.2.1 87), (q147.2.1 88), (q147.2.1 89), (q147.2.1 90), (q147.2.1 91), (q147.2.1 92), (q147.2.1 101), (q147.2.1 102), (q147.2.1 103), (q147.2.1 104), (q147.2.1 105), (q147.2.1 106), (q147.2.1 107), (q147.2.1 108), G59, trivial⟩) (show LxP (m145.1 7) (m145.1 8) (m145.1 9) (m.1 6) (m145.1 10) by first | exact hLx | exact (fun _ => hLx (by omega)) | (intro h9; exfalso; omega)) (show ∀ k, F39 k + F41 k ≤ 4000 by assumption) (show ∀ k, (m.2 31) k + (m.2 32) k ≤ 4000 by assumption) (show ∀ k, (m90.2 47) k + (m90.2 48) k ≤ 4000 by assumption) (show (m145.1 99) ≤ 239 by omega) (show (m145.1 10) = 0 by omega) ⟨(show PN y37 (m.1 19) (m.1 20) (m.1 21) (m.1 22) (m.1 23) ((m.1 25) + 1) (m.1 26) F43 F45 by assumption), (show CN (m145.2 65) (m145.2 67) (m145.1 28) by assumption), (show (m145.1 7) ≠ 0 by omega), (show TdP (m145.2 65) (m145.1 28) (m.1 22) (m145.1 99) (m145.2 101) (m145.2 103) (m145.2 105) (m145.2 106) (m145.2 107) (m145.2 108) by assumption)⟩) (fun rr193 k194 => ?_)
                                  obtain ⟨m195, hT196, h197, h198, h199, c200, rfl⟩ := k194
                                  refine ⟨_, _, rfl, ?_⟩
                                  refine T_nf2 (st' := []) (l' := [(7, (m195.1 7)), (8, (m195.1 8)), (9, (m195.1 9)), (10, (m195.1 10)), (11, (m195.1 11)), (12, (m195.1 12)), (13, y37), (25, (m.1 25) + 1), (28, (m195.1 28)), (64, (m.1 25)), (69, (m195.1 69)), (70, (m195.1 70)), (71, (m195.1 71)), (72, (m195.1 72)), (73, (m195.1 73)), (74, (m195.1 74)), (75, (m195.1 75)), (99, (m195.1 99)), (100, (m195.1 100))]) (a' := [(14, F39), (15, F41), (16, F43), (17, F45), (46, (m90.2 46)), (47, (m90.2 47)), (48, (m90.2 48)), (49, (m90.2 49)), (50, (m145.2 50)), (65, (m195.2 65)), (66, (m195.2 66)), (67, (m195.2 67)), (68, (m195.2 68)), (76, (m195.2 76)), (77, (m195.2 77)), (78, (m195.2 78)), (79, (m195.2 79)), (80, (m195.2 80)), (81, (m195.2 81)), (82, (m195.2 82)), (83, (m195.2 83)), (84, (m195.2 84)), (85, (m195.2 85)), (86, (m195.2 86)), (87, (m195.2 87)), (88, (m195.2 88)), (89, (m195.2 89)), (90, (m195.2 90)), (91, (m195.2 91)), (92, (m195.2 92)), (101, (m195.2 101)), (102, (m195.2 102)), (103, (m195.2 103)), (104, (m195.2 104)), (105, (m195.2 105)), (106, (m195.2 106)), (107, (m195.2 107)), (108, (m195.2 108)), (109, upI (m.2 109) (m.1 25) (m.1 99))]) [7, 8, 9, 10, 11, 12, 28, 69, 70, 71, 72, 73, 74, 75, 99, 100] [65, 66, 67, 68, 76, 77, 78, 79, 80, 81, 82, 83, 84, 85, 86, 87, 88, 89, 90, 91, 92, 101, 102, 103, 104, 105, 106, 107, 108] rfl ⟨rfl, rfl, rfl, rfl, rfl, rfl, rfl, rfl, rfl, rfl, rfl, rfl, rfl, rfl, rfl, rfl, rfl, rfl, rfl, rfl, rfl, rfl, rfl, rfl, rfl, rfl, rfl, rfl, rfl, rfl, rfl, rfl, rfl, rfl, rfl, rfl, rfl, rfl, rfl, rfl, rfl, trivial⟩ ⟨rfl, rfl, rfl, rfl, rfl, rfl, rfl, rfl, rfl, rfl, rfl, rfl, rfl, rfl, rfl, rfl, rfl, rfl, rfl, rfl, rfl, rfl, rfl, rfl, rfl, rfl, rfl, rfl, rfl, rfl, rfl, rfl, rfl, rfl, rfl, rfl, rfl, rfl, rfl, rfl, rfl, rfl, rfl, rfl, rfl, rfl, rfl, rfl, rfl, rfl, rfl, rfl, rfl, rfl, rfl, rfl, rfl, rfl, rfl, rfl, rfl, rfl, rfl, rfl, rfl, rfl, rfl, rfl, rfl, rfl, rfl, rfl, rfl, rfl, rfl, rfl, rfl, rfl, rfl, rfl, rfl, rfl, rfl, rfl, rfl, rfl, rfl, trivial⟩ rfl rfl (by decide) (by decide) ?_
                                  have g201 : 0 ≤ m195.1 7 ∧ m195.1 7 ≤ 330 := hT196.1 7
                                  have g202 : 0 ≤ m195.1 8 ∧ m195.1 8 ≤ 4000 := hT196.1 8
                                  have g203 : 0 ≤ m195.1 9 ∧ m195.1 9 ≤ 4000 := hT196.1 9
                                  have g204 : 0 ≤ m195.1 10 ∧ m195.1 10 ≤ 8 := hT196.1 10
                                  have g205 : (-1) ≤ m195.1 11 ∧ m195.1 11 ≤ 4000 := hT196.1 11
                                  have g206 : (-9223372036854775808) ≤ m195.1 12 ∧ m195.1 12 ≤ 9223372036854775807 := hT196.1 12
                                  have g207 : 0 ≤ m195.1 28 ∧ m195.1 28 ≤ 800 := hT196.1 28
                                  have g208 : 0 ≤ m195.1 69 ∧ m195.1 69 ≤ 1024 := hT196.1 69
                                  have g209 : 0 ≤ m195.1 70 ∧ m195.1 70 ≤ 4000 := hT196.1 70
                                  have g210 : 0 ≤ m195.1 71 ∧ m195.1 71 ≤ 1 := hT196.1 71
                                  have g211 : (-9223372036854775808) ≤ m195.1 72 ∧ m195.1 72 ≤ 9223372036854775807 := hT196.1 72
                                  have g212 : 0 ≤ m195.1 73 ∧ m195.1 73 ≤ 60 := hT196.1 73
                                  have g213 : 0 ≤ m195.1 74 ∧ m195.1 74 ≤ 24 := hT196.1 74
                                  have g214 : 0 ≤ m195.1 75 ∧ m195.1 75 ≤ 3 := hT196.1 75
                                  have g215 : 0 ≤ m195.1 99 ∧ m195.1 99 ≤ 240 := hT196.1 99
                                  have g216 : 0 ≤ m195.1 100 ∧ m195.1 100 ≤ 64 := hT196.1 100
                                  by_cases hf217 : (m195.1 10) = 0
                                  · skip
                                    replace h197 : (m145.1 10) = 0 := h197 hf217
                                    replace h198 : LxP (m195.1 7) (m195.1 8) (m195.1 9) (m.1 6) (m195.1 10) := h198
                                    have hLx := h198
                                    replace h199 : (m195.1 99) = (m145.1 99) + 1 := h199
                                    obtain ⟨c218, c219, c220, c221, c222⟩ := c200 hf217
                                    replace c218 : (m145.1 8) + 1 ≤ (m195.1 8) := c218
                                    replace c219 : (m145.1 28) ≤ (m195.1 28) := c219
                                    replace c220 : CN (m195.2 65) (m195.2 67) (m195.1 28) := c220
                                    have hCN := c220
                                    replace c221 : agr (m145.2 65) (m195.2 65) (m145.1 28) := c221
                                    have hAg := c221
                                    replace c222 : TdP (m195.2 65) (m195.1 28) (m.1 22) (m195.1 99) (m195.2 101) (m195.2 103) (m195.2 105) (m195.2 106) (m195.2 107) (m195.2 108) := c222
                                    have pTd := c222
                                    clear c200
                                    have u223 : (m.1 8) + 1 ≤ (m195.1 8) := by omega
                                    have hAgC : agr (m.2 65) (m195.2 65) (m.1 28) := by first | exact agr_r _ _ | exact hAgC | exact agr_t hAgC hAg (by omega)
                                    clear q147_7 q147_9 q147_11 q147_12 q147_28 q147_69 q147_70 q147_71 q147_72 q147_73 q147_74 q147_75 q147_99 q147_100 ic148 c154 c155 c156 c157 c158 g165a g165b h166 h168 h199 c219 c221
                                    refine T_gf 202 (.ref 220) rfl rfl rfl rfl rfl rfl ?_
                                    refine T_ld 203 (.int (i32 (m.1 25))) rfl (fun _ => rfl) ?_
                                    refine T_dup2 204 rfl (fun _ => rfl) ?_
                                    refine T_iald 205 50 (m145.2 50) rfl rfl rfl (by omega) (show (m.1 25) < (16 : Int) by omega) rfl ?_
                                    have e224 : 0 ≤ (m145.2 50) (m.1 25) ∧ (m145.2 50) (m.1 25) ≤ 13 := (q147.2.1 50) (m.1 25)
                                    refine T_ld 206 (.int (i32 1)) rfl (fun _ => rfl) ?_
                                    refine T_iadd 207 rfl rfl ?_
                                    have G225 : ∀ j, 0 ≤ (upI (m145.2 50) (m.1 25) (((m145.2 50) (m.1 25)) + 1)) j ∧ (upI (m145.2 50) (m.1 25) (((m145.2 50) (m.1 25)) + 1)) j ≤ 13 := upI_rg (q147.2.1 50) ⟨by omega, by omega⟩
                                    refine T_iast (a' := [(14, F39), (15, F41), (16, F43), (17, F45), (46, (m90.2 46)), (47, (m90.2 47)), (48, (m90.2 48)), (49, (m90.2 49)), (50, upI (m145.2 50) (m.1 25) (((m145.2 50) (m.1 25)) + 1)), (65, (m195.2 65)), (66, (m195.2 66)), (67, (m195.2 67)), (68, (m195.2 68)), (76, (m195.2 76)), (77, (m195.2 77)), (78, (m195.2 78)), (79, (m195.2 79)), (80, (m195.2 80)), (81, (m195.2 81)), (82, (m195.2 82)), (83, (m195.2 83)), (84, (m195.2 84)), (85, (m195.2 85)), (86, (m195.2 86)), (87, (m195.2 87)), (88, (m195.2 88)), (89, (m195.2 89)), (90, (m195.2 90)), (91, (m195.2 91)), (92, (m195.2 92)), (101, (m195.2 101)), (102, (m195.2 102)), (103, (m195.2 103)), (104, (m195.2 104)), (105, (m195.2 105)), (106, (m195.2 106)), (107, (m195.2 107)), (108, (m195.2 108)), (109, upI (m.2 109) (m.1 25) (m.1 99))]) 208 50 (m145.2 50) rfl rfl rfl (by omega) (show (m.1 25) < (16 : Int) by omega) rfl rfl ?_
                                    refine T_goto 153 rfl (fun _ => rfl) ?_
                                    exact ih151 (mO m [(7, (m195.1 7)), (8, (m195.1 8)), (9, (m195.1 9)), (10, (m195.1 10)), (11, (m195.1 11)), (12, (m195.1 12)), (13, y37), (25, (m.1 25) + 1), (28, (m195.1 28)), (64, (m.1 25)), (69, (m195.1 69)), (70, (m195.1 70)), (71, (m195.1 71)), (72, (m195.1 72)), (73, (m195.1 73)), (74, (m195.1 74)), (75, (m195.1 75)), (99, (m195.1 99)), (100, (m195.1 100))] [(14, F39), (15, F41), (16, F43), (17, F45), (46, (m90.2 46)), (47, (m90.2 47)), (48, (m90.2 48)), (49, (m90.2 49)), (50, upI (m145.2 50) (m.1 25) (((m145.2 50) (m.1 25)) + 1)), (65, (m195.2 65)), (66, (m195.2 66)), (67, (m195.2 67)), (68, (m195.2 68)), (76, (m195.2 76)), (77, (m195.2 77)), (78, (m195.2 78)), (79, (m195.2 79)), (80, (m195.2 80)), (81, (m195.2 81)), (82, (m195.2 82)), (83, (m195.2 83)), (84, (m195.2 84)), (85, (m195.2 85)), (86, (m195.2 86)), (87, (m195.2 87)), (88, (m195.2 88)), (89, (m195.2 89)), (90, (m195.2 90)), (91, (m195.2 91)), (92, (m195.2 92)), (101, (m195.2 101)), (102, (m195.2 102)), (103, (m195.2 103)), (104, (m195.2 104)), (105, (m195.2 105)), (106, (m195.2 106)), (107, (m195.2 107)), (108, (m195.2 108)), (109, upI (m.2 109) (m.1 25) (m.1 99))]) (Ty_mO hT rfl rfl ⟨(hT196.1 7), (hT196.1 8), (hT196.1 9), (hT196.1 10), (hT196.1 11), (hT196.1 12), g38, g58, (hT196.1 28), g144, (hT196.1 69), (hT196.1 70), (hT196.1 71), (hT196.1 72), (hT196.1 73), (hT196.1 74), (hT196.1 75), (hT196.1 99), (hT196.1 100), trivial⟩ ⟨G40, G42, G44, G46, (q93.2.1 46), (q93.2.1 47), (q93.2.1 48), (q93.2.1 49), G225, (hT196.2.1 65), (hT196.2.1 66), (hT196.2.1 67), (hT196.2.1 68), (hT196.2.1 76), (hT196.2.1 77), (hT196.2.1 78), (hT196.2.1 79), (hT196.2.1 80), (hT196.2.1 81), (hT196.2.1 82), (hT196.2.1 83), (hT196.2.1 84), (hT196.2.1 85), (hT196.2.1 86), (hT196.2.1 87), (hT196.2.1 88), (hT196.2.1 89), (hT196.2.1 90), (hT196.2.1 91), (hT196.2.1 92), (hT196.2.1 101), (hT196.2.1 102), (hT196.2.1 103), (hT196.2.1 104), (hT196.2.1 105), (hT196.2.1 106), (hT196.2.1 107), (hT196.2.1 108), G59, trivial⟩) (show LxP (m195.1 7) (m195.1 8) (m195.1 9) (m.1 6) (m195.1 10) by exact hLx) (show (upI (m145.2 50) (m.1 25) (((m145.2 50) (m.1 25)) + 1)) (m.1 25) ≤ 13 by omega) (fun _ => ⟨(show (m.1 8) + 1 ≤ (m195.1 8) by omega), (show CN (m195.2 65) (m195.2 67) (m195.1 28) by exact hCN), (show (m.1 28) ≤ (m195.1 28) by omega), (show agr (m.2 65) (m195.2 65) (m.1 28) by exact hAgC), (show TdP (m195.2 65) (m195.1 28) (m.1 22) (m195.1 99) (m195.2 101) (m195.2 103) (m195.2 105) (m195.2 106) (m195.2 107) (m195.2 108) by exact pTd), (show (m195.1 99) = (m.1 99) + (upI (m145.2 50) (m.1 25) (((m145.2 50) (m.1 25)) + 1)) (m.1 25) by omega), (show (upI (m145.2 50) (m.1 25) (((m145.2 50) (m.1 25)) + 1)) (m.1 25) ≤ 12 by omega), (show agr (m.2 50) (upI (m145.2 50) (m.1 25) (((m145.2 50) (m.1 25)) + 1)) (m.1 25) by first | exact agr_u (Int.le_refl _) | exact agr_t hS1 (agr_u (Int.le_refl _)) (Int.le_refl _))⟩) (show 1000000 * (8 - (m195.1 10)) + (4000 - (m195.1 8)) < (n : Int) by omega)
                                  · skip
                                    clear c200
                                    clear h197
                                    replace h198 : LxP (m195.1 7) (m195.1 8) (m195.1 9) (m.1 6) (m195.1 10) := h198
                                    have hLx := h198
                                    replace h199 : (m195.1 99) = (m145.1 99) + 1 := h199
                                    have hf226 : 1 ≤ (m195.1 10) := by omega
                                    clear q147_7 q147_9 q147_11 q147_12 q147_28 q147_69 q147_70 q147_71 q147_72 q147_73 q147_74 q147_75 q147_99 q147_100 ic148 c154 c155 c156 c157 c158 g165a g165b h166 h168 h199
                                    refine T_gf 202 (.ref 220) rfl rfl rfl rfl rfl rfl ?_
                                    refine T_ld 203 (.int (i32 (m.1 25))) rfl (fun _ => rfl) ?_
                                    refine T_dup2 204 rfl (fun _ => rfl) ?_
                                    refine T_iald 205 50 (m145.2 50) rfl rfl rfl (by omega) (show (m.1 25) < (16 : Int) by omega) rfl ?_
                                    have e227 : 0 ≤ (m145.2 50) (m.1 25) ∧ (m145.2 50) (m.1 25) ≤ 13 := (q147.2.1 50) (m.1 25)
                                    refine T_ld 206 (.int (i32 1)) rfl (fun _ => rfl) ?_
                                    refine T_iadd 207 rfl rfl ?_
                                    have G228 : ∀ j, 0 ≤ (upI (m145.2 50) (m.1 25) (((m145.2 50) (m.1 25)) + 1)) j ∧ (upI (m145.2 50) (m.1 25) (((m145.2 50) (m.1 25)) + 1)) j ≤ 13 := upI_rg (q147.2.1 50) ⟨by omega, by omega⟩
                                    refine T_iast (a' := [(14, F39), (15, F41), (16, F43), (17, F45), (46, (m90.2 46)), (47, (m90.2 47)), (48, (m90.2 48)), (49, (m90.2 49)), (50, upI (m145.2 50) (m.1 25) (((m145.2 50) (m.1 25)) + 1)), (65, (m195.2 65)), (66, (m195.2 66)), (67, (m195.2 67)), (68, (m195.2 68)), (76, (m195.2 76)), (77, (m195.2 77)), (78, (m195.2 78)), (79, (m195.2 79)), (80, (m195.2 80)), (81, (m195.2 81)), (82, (m195.2 82)), (83, (m195.2 83)), (84, (m195.2 84)), (85, (m195.2 85)), (86, (m195.2 86)), (87, (m195.2 87)), (88, (m195.2 88)), (89, (m195.2 89)), (90, (m195.2 90)), (91, (m195.2 91)), (92, (m195.2 92)), (101, (m195.2 101)), (102, (m195.2 102)), (103, (m195.2 103)), (104, (m195.2 104)), (105, (m195.2 105)), (106, (m195.2 106)), (107, (m195.2 107)), (108, (m195.2 108)), (109, upI (m.2 109) (m.1 25) (m.1 99))]) 208 50 (m145.2 50) rfl rfl rfl (by omega) (show (m.1 25) < (16 : Int) by omega) rfl rfl ?_
                                    refine T_goto 153 rfl (fun _ => rfl) ?_
                                    exact ih151 (mO m [(7, (m195.1 7)), (8, (m195.1 8)), (9, (m195.1 9)), (10, (m195.1 10)), (11, (m195.1 11)), (12, (m195.1 12)), (13, y37), (25, (m.1 25) + 1), (28, (m195.1 28)), (64, (m.1 25)), (69, (m195.1 69)), (70, (m195.1 70)), (71, (m195.1 71)), (72, (m195.1 72)), (73, (m195.1 73)), (74, (m195.1 74)), (75, (m195.1 75)), (99, (m195.1 99)), (100, (m195.1 100))] [(14, F39), (15, F41), (16, F43), (17, F45), (46, (m90.2 46)), (47, (m90.2 47)), (48, (m90.2 48)), (49, (m90.2 49)), (50, upI (m145.2 50) (m.1 25) (((m145.2 50) (m.1 25)) + 1)), (65, (m195.2 65)), (66, (m195.2 66)), (67, (m195.2 67)), (68, (m195.2 68)), (76, (m195.2 76)), (77, (m195.2 77)), (78, (m195.2 78)), (79, (m195.2 79)), (80, (m195.2 80)), (81, (m195.2 81)), (82, (m195.2 82)), (83, (m195.2 83)), (84, (m195.2 84)), (85, (m195.2 85)), (86, (m195.2 86)), (87, (m195.2 87)), (88, (m195.2 88)), (89, (m195.2 89)), (90, (m195.2 90)), (91, (m195.2 91)), (92, (m195.2 92)), (101, (m195.2 101)), (102, (m195.2 102)), (103, (m195.2 103)), (104, (m195.2 104)), (105, (m195.2 105)), (106, (m195.2 106)), (107, (m195.2 107)), (108, (m195.2 108)), (109, upI (m.2 109) (m.1 25) (m.1 99))]) (Ty_mO hT rfl rfl ⟨(hT196.1 7), (hT196.1 8), (hT196.1 9), (hT196.1 10), (hT196.1 11), (hT196.1 12), g38, g58, (hT196.1 28), g144, (hT196.1 69), (hT196.1 70), (hT196.1 71), (hT196.1 72), (hT196.1 73), (hT196.1 74), (hT196.1 75), (hT196.1 99), (hT196.1 100), trivial⟩ ⟨G40, G42, G44, G46, (q93.2.1 46), (q93.2.1 47), (q93.2.1 48), (q93.2.1 49), G228, (hT196.2.1 65), (hT196.2.1 66), (hT196.2.1 67), (hT196.2.1 68), (hT196.2.1 76), (hT196.2.1 77), (hT196.2.1 78), (hT196.2.1 79), (hT196.2.1 80), (hT196.2.1 81), (hT196.2.1 82), (hT196.2.1 83), (hT196.2.1 84), (hT196.2.1 85), (hT196.2.1 86), (hT196.2.1 87), (hT196.2.1 88), (hT196.2.1 89), (hT196.2.1 90), (hT196.2.1 91), (hT196.2.1 92), (hT196.2.1 101), (hT196.2.1 102), (hT196.2.1 103), (hT196.2.1 104), (hT196.2.1 105), (hT196.2.1 106), (hT196.2.1 107), (hT196.2.1 108), G59, trivial⟩) (show LxP (m195.1 7) (m195.1 8) (m195.1 9) (m.1 6) (m195.1 10) by exact hLx) (show (upI (m145.2 50) (m.1 25) (((m145.2 50) (m.1 25)) + 1)) (m.1 25) ≤ 13 by omega) (fun (h : (m195.1 10) = 0) => absurd h (by omega)) (show 1000000 * (8 - (m195.1 10)) + (4000 - (m195.1 8)) < (n : Int) by omega)
                                · skip
                                  refine T_ld 179 (.ref 189) rfl (fun _ => rfl) ?_
                                  refine T_ld 180 (.int (i32 4)) rfl (fun _ => rfl) ?_
                                  refine T_gf 184 (.int (i32 (m145.1 8))) rfl rfl rfl rfl rfl rfl ?_
                                  refine T_call 187 222 [.ref 189, .int (i32 4), .int (i32 (m145.1 8))] [] rfl (fun _ => rfl) rfl (c_wrong w (mO m [(7, (m145.1 7)), (8, (m145.1 8)), (9, (m145.1 9)), (10, (m145.1 10)), (11, (m145.1 11)), (12, (m145.1 12)), (13, y37), (25, (m.1 25) + 1), (28, (m145.1 28)), (64, (m.1 25)), (69, (m145.1 69)), (70, (m145.1 70)), (71, (m145.1 71)), (72, (m145.1 72)), (73, (m145.1 73)), (74, (m145.1 74)), (75, (m145.1 75)), (99, (m145.1 99)), (100, (m145.1 100))] [(14, F39), (15, F41), (16, F43), (17, F45), (46, (m90.2 46)), (47, (m90.2 47)), (48, (m90.2 48)), (49, (m90.2 49)), (50, (m145.2 50)), (65, (m145.2 65)), (66, (m145.2 66)), (67, (m145.2 67)), (68, (m145.2 68)), (76, (m145.2 76)), (77, (m145.2 77)), (78, (m145.2 78)), (79, (m145.2 79)), (80, (m145.2 80)), (81, (m145.2 81)), (82, (m145.2 82)), (83, (m145.2 83)), (84, (m145.2 84)), (85, (m145.2 85)), (86, (m145.2 86)), (87, (m145.2 87)), (88, (m145.2 88)), (89, (m145.2 89)), (90, (m145.2 90)), (91, (m145.2 91)), (92, (m145.2 92)), (101, (m145.2 101)), (102, (m145.2 102)), (103, (m145.2 103)), (104, (m145.2 104)), (105, (m145.2 105)), (106, (m145.2 106)), (107, (m145.2 107)), (108, (m145.2 108)), (109, upI (m.2 109) (m.1 25) (m.1 99))]) c N D (by omega) (Ty_mO hT rfl rfl ⟨(q147.1 7), (q147.1 8), (q147.1 9), (q147.1 10), (q147.1 11), (q147.1 12), g38, g58, (q147.1 28), g144, (q147.1 69), (q147.1 70), (q147.1 71), (q147.1 72), (q147.1 73), (q147.1 74), (q147.1 75), (q147.1 99), (q147.1 100), trivial⟩ ⟨G40, G42, G44, G46, (q93.2.1 46), (q93.2.1 47), (q93.2.1 48), (q93.2.1 49), (q147.2.1 50), (q147.2.1 65), (q147.2.1 66), (q147.2.1 67), (q147.2.1 68), (q147.2.1 76), (q147.2.1 77), (q147.2.1 78), (q147.2.1 79), (q147.2.1 80), (q147.2.1 81), (q147.2.1 82), (q147.2.1 83), (q147.2.1 84), (q147.2.1 85), (q147.2.1 86), (q147.2.1 87), (q147.2.1 88), (q147.2.1 89), (q147.2.1 90), (q147.2.1 91), (q147.2.1 92), (q147.2.1 101), (q147.2.1 102), (q147.2.1 103), (q147.2.1 104), (q147.2.1 105), (q147.2.1 106), (q147.2.1 107), (q147.2.1 108), G59, trivial⟩) 4 (m145.1 8) ⟨by decide, by decide⟩ (r32 (by omega) (by omega)) (show 1 ≤ (4 : Int) ∧ (4 : Int) ≤ 8 by omega) (show 0 ≤ (m145.1 8) ∧ (m145.1 8) ≤ 4000 by omega)) (fun rr229 k230 => ?_)
                                  obtain ⟨y231, y233, g232, g234, h235, rfl⟩ := k230
                                  refine ⟨_, _, rfl, ?_⟩
                                  refine T_nf2 (st' := []) (l' := [(7, (m145.1 7)), (8, (m145.1 8)), (9, (m145.1 9)), (10, y231), (11, y233), (12, (m145.1 12)), (13, y37), (25, (m.1 25) + 1), (28, (m145.1 28)), (64, (m.1 25)), (69, (m145.1 69)), (70, (m145.1 70)), (71, (m145.1 71)), (72, (m145.1 72)), (73, (m145.1 73)), (74, (m145.1 74)), (75, (m145.1 75)), (99, (m145.1 99)), (100, (m145.1 100))]) (a' := [(14, F39), (15, F41), (16, F43), (17, F45), (46, (m90.2 46)), (47, (m90.2 47)), (48, (m90.2 48)), (49, (m90.2 49)), (50, (m145.2 50)), (65, (m145.2 65)), (66, (m145.2 66)), (67, (m145.2 67)), (68, (m145.2 68)), (76, (m145.2 76)), (77, (m145.2 77)), (78, (m145.2 78)), (79, (m145.2 79)), (80, (m145.2 80)), (81, (m145.2 81)), (82, (m145.2 82)), (83, (m145.2 83)), (84, (m145.2 84)), (85, (m145.2 85)), (86, (m145.2 86)), (87, (m145.2 87)), (88, (m145.2 88)), (89, (m145.2 89)), (90, (m145.2 90)), (91, (m145.2 91)), (92, (m145.2 92)), (101, (m145.2 101)), (102, (m145.2 102)), (103, (m145.2 103)), (104, (m145.2 104)), (105, (m145.2 105)), (106, (m145.2 106)), (107, (m145.2 107)), (108, (m145.2 108)), (109, upI (m.2 109) (m.1 25) (m.1 99))]) [10, 11] [] rfl ⟨rfl, rfl, rfl, rfl, rfl, rfl, rfl, rfl, rfl, rfl, rfl, rfl, rfl, rfl, rfl, rfl, rfl, rfl, rfl, rfl, rfl, rfl, rfl, rfl, rfl, rfl, rfl, rfl, rfl, rfl, rfl, rfl, rfl, rfl, rfl, rfl, rfl, rfl, rfl, rfl, rfl, trivial⟩ ⟨rfl, rfl, rfl, rfl, rfl, rfl, rfl, rfl, rfl, rfl, rfl, rfl, rfl, rfl, rfl, rfl, rfl, rfl, rfl, rfl, rfl, rfl, rfl, rfl, rfl, rfl, rfl, rfl, rfl, rfl, rfl, rfl, rfl, rfl, rfl, rfl, rfl, rfl, rfl, rfl, rfl, rfl, rfl, rfl, rfl, rfl, rfl, rfl, rfl, rfl, rfl, rfl, rfl, rfl, rfl, rfl, rfl, rfl, rfl, rfl, rfl, rfl, rfl, rfl, rfl, rfl, rfl, rfl, rfl, rfl, rfl, rfl, rfl, rfl, rfl, rfl, rfl, rfl, trivial⟩ rfl rfl (by decide) (by decide) ?_
                                  replace h235 : (0 < (m145.1 10) → y231 = (m145.1 10) ∧ y233 = (m145.1 11)) ∧ ((m145.1 10) ≤ 0 → y231 = (4 : Int) ∧ y233 = (m145.1 8)) := h235
                                  have hf236 : 1 ≤ y231 := by omega
                                  clear q147_11 g165a g165b h166 h168 h235
                                  refine T_gf 191 (.int (i32 y231)) rfl rfl rfl rfl rfl rfl ?_
                                  refine T_if 198 194 rfl rfl rfl (r32 (by omega) (by omega)) (fun (h237 : y231 ≠ 0) => ?_) (fun (h237 : ¬ (y231 ≠ 0)) => by exfalso; omega)
                                  refine T_gf 202 (.ref 220) rfl rfl rfl rfl rfl rfl ?_
                                  refine T_ld 203 (.int (i32 (m.1 25))) rfl (fun _ => rfl) ?_
                                  refine T_dup2 204 rfl (fun _ => rfl) ?_
                                  refine T_iald 205 50 (m145.2 50) rfl rfl rfl (by omega) (show (m.1 25) < (16 : Int) by omega) rfl ?_
                                  have e238 : 0 ≤ (m145.2 50) (m.1 25) ∧ (m145.2 50) (m.1 25) ≤ 13 := (q147.2.1 50) (m.1 25)
                                  refine T_ld 206 (.int (i32 1)) rfl (fun _ => rfl) ?_
                                  refine T_iadd 207 rfl rfl ?_
                                  have G239 : ∀ j, 0 ≤ (upI (m145.2 50) (m.1 25) (((m145.2 50) (m.1 25)) + 1)) j ∧ (upI (m145.2 50) (m.1 25) (((m145.2 50) (m.1 25)) + 1)) j ≤ 13 := upI_rg (q147.2.1 50) ⟨by omega, by omega⟩
                                  refine T_iast (a' := [(14, F39), (15, F41), (16, F43), (17, F45), (46, (m90.2 46)), (47, (m90.2 47)), (48, (m90.2 48)), (49, (m90.2 49)), (50, upI (m145.2 50) (m.1 25) (((m145.2 50) (m.1 25)) + 1)), (65, (m145.2 65)), (66, (m145.2 66)), (67, (m145.2 67)), (68, (m145.2 68)), (76, (m145.2 76)), (77, (m145.2 77)), (78, (m145.2 78)), (79, (m145.2 79)), (80, (m145.2 80)), (81, (m145.2 81)), (82, (m145.2 82)), (83, (m145.2 83)), (84, (m145.2 84)), (85, (m145.2 85)), (86, (m145.2 86)), (87, (m145.2 87)), (88, (m145.2 88)), (89, (m145.2 89)), (90, (m145.2 90)), (91, (m145.2 91)), (92, (m145.2 92)), (101, (m145.2 101)), (102, (m145.2 102)), (103, (m145.2 103)), (104, (m145.2 104)), (105, (m145.2 105)), (106, (m145.2 106)), (107, (m145.2 107)), (108, (m145.2 108)), (109, upI (m.2 109) (m.1 25) (m.1 99))]) 208 50 (m145.2 50) rfl rfl rfl (by omega) (show (m.1 25) < (16 : Int) by omega) rfl rfl ?_
                                  refine T_goto 153 rfl (fun _ => rfl) ?_
                                  exact ih151 (mO m [(7, (m145.1 7)), (8, (m145.1 8)), (9, (m145.1 9)), (10, y231), (11, y233), (12, (m145.1 12)), (13, y37), (25, (m.1 25) + 1), (28, (m145.1 28)), (64, (m.1 25)), (69, (m145.1 69)), (70, (m145.1 70)), (71, (m145.1 71)), (72, (m145.1 72)), (73, (m145.1 73)), (74, (m145.1 74)), (75, (m145.1 75)), (99, (m145.1 99)), (100, (m145.1 100))] [(14, F39), (15, F41), (16, F43), (17, F45), (46, (m90.2 46)), (47, (m90.2 47)), (48, (m90.2 48)), (49, (m90.2 49)), (50, upI (m145.2 50) (m.1 25) (((m145.2 50) (m.1 25)) + 1)), (65, (m145.2 65)), (66, (m145.2 66)), (67, (m145.2 67)), (68, (m145.2 68)), (76, (m145.2 76)), (77, (m145.2 77)), (78, (m145.2 78)), (79, (m145.2 79)), (80, (m145.2 80)), (81, (m145.2 81)), (82, (m145.2 82)), (83, (m145.2 83)), (84, (m145.2 84)), (85, (m145.2 85)), (86, (m145.2 86)), (87, (m145.2 87)), (88, (m145.2 88)), (89, (m145.2 89)), (90, (m145.2 90)), (91, (m145.2 91)), (92, (m145.2 92)), (101, (m145.2 101)), (102, (m145.2 102)), (103, (m145.2 103)), (104, (m145.2 104)), (105, (m145.2 105)), (106, (m145.2 106)), (107, (m145.2 107)), (108, (m145.2 108)), (109, upI (m.2 109) (m.1 25) (m.1 99))]) (Ty_mO hT rfl rfl ⟨(q147.1 7), (q147.1 8), (q147.1 9), g232, g234, (q147.1 12), g38, g58, (q147.1 28), g144, (q147.1 69), (q147.1 70), (q147.1 71), (q147.1 72), (q147.1 73), (q147.1 74), (q147.1 75), (q147.1 99), (q147.1 100), trivial⟩ ⟨G40, G42, G44, G46, (q93.2.1 46), (q93.2.1 47), (q93.2.1 48), (q93.2.1 49), G239, (q147.2.1 65), (q147.2.1 66), (q147.2.1 67), (q147.2.1 68), (q147.2.1 76), (q147.2.1 77), (q147.2.1 78), (q147.2.1 79), (q147.2.1 80), (q147.2.1 81), (q147.2.1 82), (q147.2.1 83), (q147.2.1 84), (q147.2.1 85), (q147.2.1 86), (q147.2.1 87), (q147.2.1 88), (q147.2.1 89), (q147.2.1 90), (q147.2.1 91), (q147.2.1 92), (q147.2.1 101), (q147.2.1 102), (q147.2.1 103), (q147.2.1 104), (q147.2.1 105), (q147.2.1 106), (q147.2.1 107), (q147.2.1 108), G59, trivial⟩) (show LxP (m145.1 7) (m145.1 8) (m145.1 9) (m.1 6) y231 by exact hLx) (show (upI (m145.2 50) (m.1 25) (((m145.2 50) (m.1 25)) + 1)) (m.1 25) ≤ 13 by omega) (fun (h : y231 = 0) => absurd h (by omega)) (show 1000000 * (8 - y231) + (4000 - (m145.1 8)) < (n : Int) by omega)
                            · skip
                              clear c150
                              have hf240 : 1 ≤ (m145.1 10) := by omega
                              refine T_gf 157 (.int (i32 (m145.1 10))) rfl rfl rfl rfl rfl rfl ?_
                              refine T_if 211 160 rfl rfl rfl (r32 (by omega) (by omega)) (fun (h241 : (m145.1 10) ≠ 0) => ?_) (fun (h241 : ¬ ((m145.1 10) ≠ 0)) => by exfalso; omega)
                              refine T_ld 212 (.ref 189) rfl (fun _ => rfl) ?_
                              refine T_ld 213 (.int (i32 (-1))) rfl (fun _ => rfl) ?_
                              refine T_pf (l' := [(7, (m145.1 7)), (8, (m145.1 8)), (9, (m145.1 9)), (10, (m145.1 10)), (11, (m145.1 11)), (12, (m145.1 12)), (13, y37), (25, (m.1 25) + 1), (28, (m145.1 28)), (64, (-1)), (69, (m145.1 69)), (70, (m145.1 70)), (71, (m145.1 71)), (72, (m145.1 72)), (73, (m145.1 73)), (74, (m145.1 74)), (75, (m145.1 75)), (99, (m145.1 99)), (100, (m145.1 100))]) 216 (-1) rfl rfl rfl rfl rfl rfl ?_
                              refine T_ld 217 (.ref 189) rfl (fun _ => rfl) ?_
                              refine T_ld 219 (.int (i32 125)) rfl (fun _ => rfl) ?_
                              refine T_call 222 232 [.ref 189, .int (i32 125)] [] rfl (fun _ => rfl) rfl (c_need w (mO m [(7, (m145.1 7)), (8, (m145.1 8)), (9, (m145.1 9)), (10, (m145.1 10)), (11, (m145.1 11)), (12, (m145.1 12)), (13, y37), (25, (m.1 25) + 1), (28, (m145.1 28)), (64, (-1)), (69, (m145.1 69)), (70, (m145.1 70)), (71, (m145.1 71)), (72, (m145.1 72)), (73, (m145.1 73)), (74, (m145.1 74)), (75, (m145.1 75)), (99, (m145.1 99)), (100, (m145.1 100))] [(14, F39), (15, F41), (16, F43), (17, F45), (46, (m90.2 46)), (47, (m90.2 47)), (48, (m90.2 48)), (49, (m90.2 49)), (50, (m145.2 50)), (65, (m145.2 65)), (66, (m145.2 66)), (67, (m145.2 67)), (68, (m145.2 68)), (76, (m145.2 76)), (77, (m145.2 77)), (78, (m145.2 78)), (79, (m145.2 79)), (80, (m145.2 80)), (81, (m145.2 81)), (82, (m145.2 82)), (83, (m145.2 83)), (84, (m145.2 84)), (85, (m145.2 85)), (86, (m145.2 86)), (87, (m145.2 87)), (88, (m145.2 88)), (89, (m145.2 89)), (90, (m145.2 90)), (91, (m145.2 91)), (92, (m145.2 92)), (101, (m145.2 101)), (102, (m145.2 102)), (103, (m145.2 103)), (104, (m145.2 104)), (105, (m145.2 105)), (106, (m145.2 106)), (107, (m145.2 107)), (108, (m145.2 108)), (109, upI (m.2 109) (m.1 25) (m.1 99))]) c N D (by omega) (Ty_mO hT rfl rfl ⟨(q147.1 7), (q147.1 8), (q147.1 9), (q147.1 10), (q147.1 11), (q147.1 12), g38, g58, (q147.1 28), ⟨(by omega : ((-1) : Int) ≤ (-1)), (by omega : ((-1) : Int) ≤ 15)⟩, (q147.1 69), (q147.1 70), (q147.1 71), (q147.1 72), (q147.1 73), (q147.1 74), (q147.1 75), (q147.1 99), (q147.1 100), trivial⟩ ⟨G40, G42, G44, G46, (q93.2.1 46), (q93.2.1 47), (q93.2.1 48), (q93.2.1 49), (q147.2.1 50), (q147.2.1 65), (q147.2.1 66), (q147.2.1 67), (q147.2.1 68), (q147.2.1 76), (q147.2.1 77), (q147.2.1 78), (q147.2.1 79), (q147.2.1 80), (q147.2.1 81), (q147.2.1 82), (q147.2.1 83), (q147.2.1 84), (q147.2.1 85), (q147.2.1 86), (q147.2.1 87), (q147.2.1 88), (q147.2.1 89), (q147.2.1 90), (q147.2.1 91), (q147.2.1 92), (q147.2.1 101), (q147.2.1 102), (q147.2.1 103), (q147.2.1 104), (q147.2.1 105), (q147.2.1 106), (q147.2.1 107), (q147.2.1 108), G59, trivial⟩) 125 ⟨by decide, by decide⟩ (show 1 ≤ (125 : Int) by omega) (show LxP (m145.1 7) (m145.1 8) (m145.1 9) (m.1 6) (m145.1 10) by first | exact hLx | (intro h9; exfalso; omega) | (intro h9; have h8 := hLx (by omega); omega))) (fun rr242 k243 => ?_)
                              obtain ⟨y244, y246, y248, y250, y252, y254, g245, g247, g249, g251, g253, g255, h256, h257, h258, h259, rfl⟩ := k243
                              refine ⟨_, _, rfl, ?_⟩
                              refine T_nf2 (st' := []) (l' := [(7, y244), (8, y246), (9, y248), (10, y250), (11, y252), (12, y254), (13, y37), (25, (m.1 25) + 1), (28, (m145.1 28)), (64, (-1)), (69, (m145.1 69)), (70, (m145.1 70)), (71, (m145.1 71)), (72, (m145.1 72)), (73, (m145.1 73)), (74, (m145.1 74)), (75, (m145.1 75)), (99, (m145.1 99)), (100, (m145.1 100))]) (a' := [(14, F39), (15, F41), (16, F43), (17, F45), (46, (m90.2 46)), (47, (m90.2 47)), (48, (m90.2 48)), (49, (m90.2 49)), (50, (m145.2 50)), (65, (m145.2 65)), (66, (m145.2 66)), (67, (m145.2 67)), (68, (m145.2 68)), (76, (m145.2 76)), (77, (m145.2 77)), (78, (m145.2 78)), (79, (m145.2 79)), (80, (m145.2 80)), (81, (m145.2 81)), (82, (m145.2 82)), (83, (m145.2 83)), (84, (m145.2 84)), (85, (m145.2 85)), (86, (m145.2 86)), (87, (m145.2 87)), (88, (m145.2 88)), (89, (m145.2 89)), (90, (m145.2 90)), (91, (m145.2 91)), (92, (m145.2 92)), (101, (m145.2 101)), (102, (m145.2 102)), (103, (m145.2 103)), (104, (m145.2 104)), (105, (m145.2 105)), (106, (m145.2 106)), (107, (m145.2 107)), (108, (m145.2 108)), (109, upI (m.2 109) (m.1 25) (m.1 99))]) [7, 8, 9, 10, 11, 12] [] rfl ⟨rfl, rfl, rfl, rfl, rfl, rfl, rfl, rfl, rfl, rfl, rfl, rfl, rfl, rfl, rfl, rfl, rfl, rfl, rfl, rfl, rfl, rfl, rfl, rfl, rfl, rfl, rfl, rfl, rfl, rfl, rfl, rfl, rfl, rfl, rfl, rfl, rfl, rfl, trivial⟩ ⟨rfl, rfl, rfl, rfl, rfl, rfl, rfl, rfl, rfl, rfl, rfl, rfl, rfl, rfl, rfl, rfl, rfl, rfl, rfl, rfl, rfl, rfl, rfl, rfl, rfl, rfl, rfl, rfl, rfl, rfl, rfl, rfl, rfl, rfl, rfl, rfl, rfl, rfl, rfl, rfl, rfl, rfl, rfl, rfl, rfl, rfl, rfl, rfl, rfl, rfl, rfl, rfl, rfl, rfl, rfl, rfl, rfl, rfl, rfl, rfl, rfl, rfl, rfl, rfl, rfl, rfl, rfl, rfl, rfl, rfl, rfl, rfl, rfl, rfl, rfl, rfl, rfl, rfl, trivial⟩ rfl rfl (by decide) (by decide) ?_
                              replace h256 : LxP y244 y246 y248 (m.1 6) y250 := h256
                              replace h257 : y250 = 0 → (m145.1 10) = 0 ∧ (m145.1 7) = (125 : Int) := h257
                              replace h258 : (m145.1 8) ≤ y246 := h258
                              replace h259 : y250 = 0 → (m145.1 8) + (m145.1 9) ≤ y246 := h259
                              have hf260 : 1 ≤ y250 := by omega
                              clear h257
                              clear h259
                              have hLx := h256
                              clear g127 g129 g131 g135 g137 h138 u143 q147_7 q147_9 q147_11 q147_12 ic148
                              refine T_ret rfl (fun _ => rfl) ?_
                              exact ⟨(mO m [(7, y244), (8, y246), (9, y248), (10, y250), (11, y252), (12, y254), (13, y37), (25, (m.1 25) + 1), (28, (m145.1 28)), (64, (-1)), (69, (m145.1 69)), (70, (m145.1 70)), (71, (m145.1 71)), (72, (m145.1 72)), (73, (m145.1 73)), (74, (m145.1 74)), (75, (m145.1 75)), (99, (m145.1 99)), (100, (m145.1 100))] [(14, F39), (15, F41), (16, F43), (17, F45), (46, (m90.2 46)), (47, (m90.2 47)), (48, (m90.2 48)), (49, (m90.2 49)), (50, (m145.2 50)), (65, (m145.2 65)), (66, (m145.2 66)), (67, (m145.2 67)), (68, (m145.2 68)), (76, (m145.2 76)), (77, (m145.2 77)), (78, (m145.2 78)), (79, (m145.2 79)), (80, (m145.2 80)), (81, (m145.2 81)), (82, (m145.2 82)), (83, (m145.2 83)), (84, (m145.2 84)), (85, (m145.2 85)), (86, (m145.2 86)), (87, (m145.2 87)), (88, (m145.2 88)), (89, (m145.2 89)), (90, (m145.2 90)), (91, (m145.2 91)), (92, (m145.2 92)), (101, (m145.2 101)), (102, (m145.2 102)), (103, (m145.2 103)), (104, (m145.2 104)), (105, (m145.2 105)), (106, (m145.2 106)), (107, (m145.2 107)), (108, (m145.2 108)), (109, upI (m.2 109) (m.1 25) (m.1 99))]), (Ty_mO hT rfl rfl ⟨g245, g247, g249, g251, g253, g255, g38, g58, (q147.1 28), ⟨(by omega : ((-1) : Int) ≤ (-1)), (by omega : ((-1) : Int) ≤ 15)⟩, (q147.1 69), (q147.1 70), (q147.1 71), (q147.1 72), (q147.1 73), (q147.1 74), (q147.1 75), (q147.1 99), (q147.1 100), trivial⟩ ⟨G40, G42, G44, G46, (q93.2.1 46), (q93.2.1 47), (q93.2.1 48), (q93.2.1 49), (q147.2.1 50), (q147.2.1 65), (q147.2.1 66), (q147.2.1 67), (q147.2.1 68), (q147.2.1 76), (q147.2.1 77), (q147.2.1 78), (q147.2.1 79), (q147.2.1 80), (q147.2.1 81), (q147.2.1 82), (q147.2.1 83), (q147.2.1 84), (q147.2.1 85), (q147.2.1 86), (q147.2.1 87), (q147.2.1 88), (q147.2.1 89), (q147.2.1 90), (q147.2.1 91), (q147.2.1 92), (q147.2.1 101), (q147.2.1 102), (q147.2.1 103), (q147.2.1 104), (q147.2.1 105), (q147.2.1 106), (q147.2.1 107), (q147.2.1 108), G59, trivial⟩), (show y250 = 0 → (m.1 10) = 0 by omega), (show LxP y244 y246 y248 (m.1 6) y250 by first | (first | exact hLx | exact (fun _ => hLx (by omega)) | (intro h9; exfalso; omega)) | (exfalso; omega)), (show ∀ k, F39 k + F41 k ≤ 4000 by first | (exact hNM) | (exfalso; omega)), (show ∀ k, (m90.2 47) k + (m90.2 48) k ≤ 4000 by first | (exact hPA) | (exfalso; omega)), (fun (h : y250 = 0) => absurd h (by omega)), rfl⟩
                        exact L153_146 ((1000000 * (8 - (0 : Int)) + (4000 - y128) : Int) + 1).toNat (mO m [(7, y126), (8, y128), (9, y130), (10, 0), (11, y134), (12, y136), (13, y37), (25, (m.1 25) + 1), (28, (m.1 28)), (64, (m.1 25)), (69, (m.1 69)), (70, (m.1 70)), (71, (m.1 71)), (72, (m.1 72)), (73, (m.1 73)), (74, (m.1 74)), (75, (m.1 75)), (99, (m.1 99)), (100, (m.1 100))] [(14, F39), (15, F41), (16, F43), (17, F45), (46, (m90.2 46)), (47, (m90.2 47)), (48, (m90.2 48)), (49, (m90.2 49)), (50, upI (m.2 50) (m.1 25) 0), (65, (m.2 65)), (66, (m.2 66)), (67, (m.2 67)), (68, (m.2 68)), (76, (m.2 76)), (77, (m.2 77)), (78, (m.2 78)), (79, (m.2 79)), (80, (m.2 80)), (81, (m.2 81)), (82, (m.2 82)), (83, (m.2 83)), (84, (m.2 84)), (85, (m.2 85)), (86, (m.2 86)), (87, (m.2 87)), (88, (m.2 88)), (89, (m.2 89)), (90, (m.2 90)), (91, (m.2 91)), (92, (m.2 92)), (101, (m.2 101)), (102, (m.2 102)), (103, (m.2 103)), (104, (m.2 104)), (105, (m.2 105)), (106, (m.2 106)), (107, (m.2 107)), (108, (m.2 108)), (109, upI (m.2 109) (m.1 25) (m.1 99))]) (Ty_mO hT rfl rfl ⟨g127, g129, g131, ⟨(by omega : (0 : Int) ≤ 0), (by omega : (0 : Int) ≤ 8)⟩, g135, g137, g38, g58, f28, g144, f69, f70, f71, f72, f73, f74, f75, f99, f100, trivial⟩ ⟨G40, G42, G44, G46, (q93.2.1 46), (q93.2.1 47), (q93.2.1 48), (q93.2.1 49), G61, (hT.2.1 65), (hT.2.1 66), (hT.2.1 67), (hT.2.1 68), (hT.2.1 76), (hT.2.1 77), (hT.2.1 78), (hT.2.1 79), (hT.2.1 80), (hT.2.1 81), (hT.2.1 82), (hT.2.1 83), (hT.2.1 84), (hT.2.1 85), (hT.2.1 86), (hT.2.1 87), (hT.2.1 88), (hT.2.1 89), (hT.2.1 90), (hT.2.1 91), (hT.2.1 92), (hT.2.1 101), (hT.2.1 102), (hT.2.1 103), (hT.2.1 104), (hT.2.1 105), (hT.2.1 106), (hT.2.1 107), (hT.2.1 108), G59, trivial⟩) (show LxP y126 y128 y130 (m.1 6) (0 : Int) by exact hLx) (show (upI (m.2 50) (m.1 25) 0) (m.1 25) ≤ 13 by omega) (fun _ => ⟨(show (m.1 8) + 1 ≤ y128 by omega), (show CN (m.2 65) (m.2 67) (m.1 28) by exact hCN), (show (m.1 28) ≤ (m.1 28) by omega), (show agr (m.2 65) (m.2 65) (m.1 28) by exact hAgC), (show TdP (m.2 65) (m.1 28) (m.1 22) (m.1 99) (m.2 101) (m.2 103) (m.2 105) (m.2 106) (m.2 107) (m.2 108) by exact pTd), (show (m.1 99) = (m.1 99) + (upI (m.2 50) (m.1 25) 0) (m.1 25) by omega), (show (upI (m.2 50) (m.1 25) 0) (m.1 25) ≤ 12 by omega), (show agr (m.2 50) (upI (m.2 50) (m.1 25) 0) (m.1 25) by first | exact agr_u (Int.le_refl _) | exact agr_t hS1 (agr_u (Int.le_refl _)) (Int.le_refl _))⟩) (show 1000000 * (8 - (0 : Int)) + (4000 - y128) < ((((1000000 * (8 - (0 : Int)) + (4000 - y128) : Int) + 1).toNat : Nat) : Int) by omega)
                      · skip
                        replace h138 : LxP y126 y128 y130 (m.1 6) y132 := h138
                        have hLx := h138
                        clear h139
                        replace h140 : y108 ≤ y128 := h140
                        clear h141
                        have hf261 : 1 ≤ y132 := by omega
                        clear g107 g109 g111 g115 g117 h118 h120 u123 h140
                        refine T_ld 149 (.ref 189) rfl (fun _ => rfl) ?_
                        refine T_ld 150 (.int (i32 (m.1 25))) rfl (fun _ => rfl) ?_
                        refine T_pf (l' := [(7, y126), (8, y128), (9, y130), (10, y132), (11, y134), (12, y136), (13, y37), (25, (m.1 25) + 1), (28, (m.1 28)), (64, (m.1 25)), (69, (m.1 69)), (70, (m.1 70)), (71, (m.1 71)), (72, (m.1 72)), (73, (m.1 73)), (74, (m.1 74)), (75, (m.1 75)), (99, (m.1 99)), (100, (m.1 100))]) 153 (m.1 25) rfl rfl rfl rfl rfl rfl ?_
                        have g262 : (-1) ≤ (m.1 25) ∧ (m.1 25) ≤ 15 := ⟨by omega, by omega⟩
                        refine T_gf 157 (.int (i32 y132)) rfl rfl rfl rfl rfl rfl ?_
                        refine T_if 211 160 rfl rfl rfl (r32 (by omega) (by omega)) (fun (h263 : y132 ≠ 0) => ?_) (fun (h263 : ¬ (y132 ≠ 0)) => by exfalso; omega)
                        refine T_ld 212 (.ref 189) rfl (fun _ => rfl) ?_
                        refine T_ld 213 (.int (i32 (-1))) rfl (fun _ => rfl) ?_
                        refine T_pf (l' := [(7, y126), (8, y128), (9, y130), (10, y132), (11, y134), (12, y136), (13, y37), (25, (m.1 25) + 1), (28, (m.1 28)), (64, (-1)), (69, (m.1 69)), (70, (m.1 70)), (71, (m.1 71)), (72, (m.1 72)), (73, (m.1 73)), (74, (m.1 74)), (75, (m.1 75)), (99, (m.1 99)), (100, (m.1 100))]) 216 (-1) rfl rfl rfl rfl rfl rfl ?_
                        refine T_ld 217 (.ref 189) rfl (fun _ => rfl) ?_
                        refine T_ld 219 (.int (i32 125)) rfl (fun _ => rfl) ?_
                        refine T_call 222 232 [.ref 189, .int (i32 125)] [] rfl (fun _ => rfl) rfl (c_need w (mO m [(7, y126), (8, y128), (9, y130), (10, y132), (11, y134), (12, y136), (13, y37), (25, (m.1 25) + 1), (28, (m.1 28)), (64, (-1)), (69, (m.1 69)), (70, (m.1 70)), (71, (m.1 71)), (72, (m.1 72)), (73, (m.1 73)), (74, (m.1 74)), (75, (m.1 75)), (99, (m.1 99)), (100, (m.1 100))] [(14, F39), (15, F41), (16, F43), (17, F45), (46, (m90.2 46)), (47, (m90.2 47)), (48, (m90.2 48)), (49, (m90.2 49)), (50, upI (m.2 50) (m.1 25) 0), (65, (m.2 65)), (66, (m.2 66)), (67, (m.2 67)), (68, (m.2 68)), (76, (m.2 76)), (77, (m.2 77)), (78, (m.2 78)), (79, (m.2 79)), (80, (m.2 80)), (81, (m.2 81)), (82, (m.2 82)), (83, (m.2 83)), (84, (m.2 84)), (85, (m.2 85)), (86, (m.2 86)), (87, (m.2 87)), (88, (m.2 88)), (89, (m.2 89)), (90, (m.2 90)), (91, (m.2 91)), (92, (m.2 92)), (101, (m.2 101)), (102, (m.2 102)), (103, (m.2 103)), (104, (m.2 104)), (105, (m.2 105)), (106, (m.2 106)), (107, (m.2 107)), (108, (m.2 108)), (109, upI (m.2 109) (m.1 25) (m.1 99))]) c N D (by omega) (Ty_mO hT rfl rfl ⟨g127, g129, g131, g133, g135, g137, g38, g58, f28, ⟨(by omega : ((-1) : Int) ≤ (-1)), (by omega : ((-1) : Int) ≤ 15)⟩, f69, f70, f71, f72, f73, f74, f75, f99, f100, trivial⟩ ⟨G40, G42, G44, G46, (q93.2.1 46), (q93.2.1 47), (q93.2.1 48), (q93.2.1 49), G61, (hT.2.1 65), (hT.2.1 66), (hT.2.1 67), (hT.2.1 68), (hT.2.1 76), (hT.2.1 77), (hT.2.1 78), (hT.2.1 79), (hT.2.1 80), (hT.2.1 81), (hT.2.1 82), (hT.2.1 83), (hT.2.1 84), (hT.2.1 85), (hT.2.1 86), (hT.2.1 87), (hT.2.1 88), (hT.2.1 89), (hT.2.1 90), (hT.2.1 91), (hT.2.1 92), (hT.2.1 101), (hT.2.1 102), (hT.2.1 103), (hT.2.1 104), (hT.2.1 105), (hT.2.1 106), (hT.2.1 107), (hT.2.1 108), G59, trivial⟩) 125 ⟨by decide, by decide⟩ (show 1 ≤ (125 : Int) by omega) (show LxP y126 y128 y130 (m.1 6) y132 by first | exact hLx | (intro h9; exfalso; omega) | (intro h9; have h8 := hLx (by omega); omega))) (fun rr264 k265 => ?_)
                        obtain ⟨y266, y268, y270, y272, y274, y276, g267, g269, g271, g273, g275, g277, h278, h279, h280, h281, rfl⟩ := k265
                        refine ⟨_, _, rfl, ?_⟩
                        refine T_nf2 (st' := []) (l' := [(7, y266), (8, y268), (9, y270), (10, y272), (11, y274), (12, y276), (13, y37), (25, (m.1 25) + 1), (28, (m.1 28)), (64, (-1)), (69, (m.1 69)), (70, (m.1 70)), (71, (m.1 71)), (72, (m.1 72)), (73, (m.1 73)), (74, (m.1 74)), (75, (m.1 75)), (99, (m.1 99)), (100, (m.1 100))]) (a' := [(14, F39), (15, F41), (16, F43), (17, F45), (46, (m90.2 46)), (47, (m90.2 47)), (48, (m90.2 48)), (49, (m90.2 49)), (50, upI (m.2 50) (m.1 25) 0), (65, (m.2 65)), (66, (m.2 66)), (67, (m.2 67)), (68, (m.2 68)), (76, (m.2 76)), (77, (m.2 77)), (78, (m.2 78)), (79, (m.2 79)), (80, (m.2 80)), (81, (m.2 81)), (82, (m.2 82)), (83, (m.2 83)), (84, (m.2 84)), (85, (m.2 85)), (86, (m.2 86)), (87, (m.2 87)), (88, (m.2 88)), (89, (m.2 89)), (90, (m.2 90)), (91, (m.2 91)), (92, (m.2 92)), (101, (m.2 101)), (102, (m.2 102)), (103, (m.2 103)), (104, (m.2 104)), (105, (m.2 105)), (106, (m.2 106)), (107, (m.2 107)), (108, (m.2 108)), (109, upI (m.2 109) (m.1 25) (m.1 99))]) [7, 8, 9, 10, 11, 12] [] rfl ⟨rfl, rfl, rfl, rfl, rfl, rfl, rfl, rfl, rfl, rfl, rfl, rfl, rfl, rfl, rfl, rfl, rfl, rfl, rfl, rfl, rfl, rfl, rfl, rfl, rfl, rfl, rfl, rfl, rfl, rfl, rfl, rfl, rfl, rfl, rfl, rfl, rfl, rfl, trivial⟩ ⟨rfl, rfl, rfl, rfl, rfl, rfl, rfl, rfl, rfl, rfl, rfl, rfl, rfl, rfl, rfl, rfl, rfl, rfl, rfl, rfl, rfl, rfl, rfl, rfl, rfl, rfl, rfl, rfl, rfl, rfl, rfl, rfl, rfl, rfl, rfl, rfl, rfl, rfl, rfl, rfl, rfl, rfl, rfl, rfl, rfl, rfl, rfl, rfl, rfl, rfl, rfl, rfl, rfl, rfl, rfl, rfl, rfl, rfl, rfl, rfl, rfl, rfl, rfl, rfl, rfl, rfl, rfl, rfl, rfl, rfl, rfl, rfl, rfl, rfl, rfl, rfl, rfl, rfl, trivial⟩ rfl rfl (by decide) (by decide) ?_
                        replace h278 : LxP y266 y268 y270 (m.1 6) y272 := h278
                        replace h279 : y272 = 0 → y132 = 0 ∧ y126 = (125 : Int) := h279
                        replace h280 : y128 ≤ y268 := h280
                        replace h281 : y272 = 0 → y128 + y130 ≤ y268 := h281
                        have hf282 : 1 ≤ y272 := by omega
                        clear h279
                        clear h281
                        have hLx := h278
                        clear g127 g129 g131 g133 g135 g137 h138 hf261 h263 h280
                        refine T_ret rfl (fun _ => rfl) ?_
                        exact ⟨(mO m [(7, y266), (8, y268), (9, y270), (10, y272), (11, y274), (12, y276), (13, y37), (25, (m.1 25) + 1), (28, (m.1 28)), (64, (-1)), (69, (m.1 69)), (70, (m.1 70)), (71, (m.1 71)), (72, (m.1 72)), (73, (m.1 73)), (74, (m.1 74)), (75, (m.1 75)), (99, (m.1 99)), (100, (m.1 100))] [(14, F39), (15, F41), (16, F43), (17, F45), (46, (m90.2 46)), (47, (m90.2 47)), (48, (m90.2 48)), (49, (m90.2 49)), (50, upI (m.2 50) (m.1 25) 0), (65, (m.2 65)), (66, (m.2 66)), (67, (m.2 67)), (68, (m.2 68)), (76, (m.2 76)), (77, (m.2 77)), (78, (m.2 78)), (79, (m.2 79)), (80, (m.2 80)), (81, (m.2 81)), (82, (m.2 82)), (83, (m.2 83)), (84, (m.2 84)), (85, (m.2 85)), (86, (m.2 86)), (87, (m.2 87)), (88, (m.2 88)), (89, (m.2 89)), (90, (m.2 90)), (91, (m.2 91)), (92, (m.2 92)), (101, (m.2 101)), (102, (m.2 102)), (103, (m.2 103)), (104, (m.2 104)), (105, (m.2 105)), (106, (m.2 106)), (107, (m.2 107)), (108, (m.2 108)), (109, upI (m.2 109) (m.1 25) (m.1 99))]), (Ty_mO hT rfl rfl ⟨g267, g269, g271, g273, g275, g277, g38, g58, f28, ⟨(by omega : ((-1) : Int) ≤ (-1)), (by omega : ((-1) : Int) ≤ 15)⟩, f69, f70, f71, f72, f73, f74, f75, f99, f100, trivial⟩ ⟨G40, G42, G44, G46, (q93.2.1 46), (q93.2.1 47), (q93.2.1 48), (q93.2.1 49), G61, (hT.2.1 65), (hT.2.1 66), (hT.2.1 67), (hT.2.1 68), (hT.2.1 76), (hT.2.1 77), (hT.2.1 78), (hT.2.1 79), (hT.2.1 80), (hT.2.1 81), (hT.2.1 82), (hT.2.1 83), (hT.2.1 84), (hT.2.1 85), (hT.2.1 86), (hT.2.1 87), (hT.2.1 88), (hT.2.1 89), (hT.2.1 90), (hT.2.1 91), (hT.2.1 92), (hT.2.1 101), (hT.2.1 102), (hT.2.1 103), (hT.2.1 104), (hT.2.1 105), (hT.2.1 106), (hT.2.1 107), (hT.2.1 108), G59, trivial⟩), (show y272 = 0 → (m.1 10) = 0 by omega), (show LxP y266 y268 y270 (m.1 6) y272 by first | (first | exact hLx | exact (fun _ => hLx (by omega)) | (intro h9; exfalso; omega)) | (exfalso; omega)), (show ∀ k, F39 k + F41 k ≤ 4000 by first | (exact hNM) | (exfalso; omega)), (show ∀ k, (m90.2 47) k + (m90.2 48) k ≤ 4000 by first | (exact hPA) | (exfalso; omega)), (fun (h : y272 = 0) => absurd h (by omega)), rfl⟩
                    · skip
                      replace h118 : LxP y106 y108 y110 (m.1 6) y112 := h118
                      have hLx := h118
                      clear h119
                      replace h120 : (m90.1 8) ≤ y108 := h120
                      clear h121
                      have hf283 : 1 ≤ y112 := by omega
                      clear g65 g67 g69 g73 g75 h76 u81 q85a q85b q85 ic86 ic87 q93_7 q93_9 q93_11 q93_12 ic96
                      refine T_ld 143 (.ref 189) rfl (fun _ => rfl) ?_
                      refine T_ld 145 (.int (i32 123)) rfl (fun _ => rfl) ?_
                      refine T_call 148 232 [.ref 189, .int (i32 123)] [] rfl (fun _ => rfl) rfl (c_need w (mO m [(7, y106), (8, y108), (9, y110), (10, y112), (11, y114), (12, y116), (13, y37), (25, (m.1 25) + 1), (28, (m.1 28)), (64, (m.1 64)), (69, (m.1 69)), (70, (m.1 70)), (71, (m.1 71)), (72, (m.1 72)), (73, (m.1 73)), (74, (m.1 74)), (75, (m.1 75)), (99, (m.1 99)), (100, (m.1 100))] [(14, F39), (15, F41), (16, F43), (17, F45), (46, (m90.2 46)), (47, (m90.2 47)), (48, (m90.2 48)), (49, (m90.2 49)), (50, upI (m.2 50) (m.1 25) 0), (65, (m.2 65)), (66, (m.2 66)), (67, (m.2 67)), (68, (m.2 68)), (76, (m.2 76)), (77, (m.2 77)), (78, (m.2 78)), (79, (m.2 79)), (80, (m.2 80)), (81, (m.2 81)), (82, (m.2 82)), (83, (m.2 83)), (84, (m.2 84)), (85, (m.2 85)), (86, (m.2 86)), (87, (m.2 87)), (88, (m.2 88)), (89, (m.2 89)), (90, (m.2 90)), (91, (m.2 91)), (92, (m.2 92)), (101, (m.2 101)), (102, (m.2 102)), (103, (m.2 103)), (104, (m.2 104)), (105, (m.2 105)), (106, (m.2 106)), (107, (m.2 107)), (108, (m.2 108)), (109, upI (m.2 109) (m.1 25) (m.1 99))]) c N D (by omega) (Ty_mO hT rfl rfl ⟨g107, g109, g111, g113, g115, g117, g38, g58, f28, f64, f69, f70, f71, f72, f73, f74, f75, f99, f100, trivial⟩ ⟨G40, G42, G44, G46, (q93.2.1 46), (q93.2.1 47), (q93.2.1 48), (q93.2.1 49), G61, (hT.2.1 65), (hT.2.1 66), (hT.2.1 67), (hT.2.1 68), (hT.2.1 76), (hT.2.1 77), (hT.2.1 78), (hT.2.1 79), (hT.2.1 80), (hT.2.1 81), (hT.2.1 82), (hT.2.1 83), (hT.2.1 84), (hT.2.1 85), (hT.2.1 86), (hT.2.1 87), (hT.2.1 88), (hT.2.1 89), (hT.2.1 90), (hT.2.1 91), (hT.2.1 92), (hT.2.1 101), (hT.2.1 102), (hT.2.1 103), (hT.2.1 104), (hT.2.1 105), (hT.2.1 106), (hT.2.1 107), (hT.2.1 108), G59, trivial⟩) 123 ⟨by decide, by decide⟩ (show 1 ≤ (123 : Int) by omega) (show LxP y106 y108 y110 (m.1 6) y112 by first | exact hLx | (intro h9; exfalso; omega) | (intro h9; have h8 := hLx (by omega); omega))) (fun rr284 k285 => ?_)
                      obtain ⟨y286, y288, y290, y292, y294, y296, g287, g289, g291, g293, g295, g297, h298, h299, h300, h301, rfl⟩ := k285
                      refine ⟨_, _, rfl, ?_⟩
                      refine T_nf2 (st' := []) (l' := [(7, y286), (8, y288), (9, y290), (10, y292), (11, y294), (12, y296), (13, y37), (25, (m.1 25) + 1), (28, (m.1 28)), (64, (m.1 64)), (69, (m.1 69)), (70, (m.1 70)), (71, (m.1 71)), (72, (m.1 72)), (73, (m.1 73)), (74, (m.1 74)), (75, (m.1 75)), (99, (m.1 99)), (100, (m.1 100))]) (a' := [(14, F39), (15, F41), (16, F43), (17, F45), (46, (m90.2 46)), (47, (m90.2 47)), (48, (m90.2 48)), (49, (m90.2 49)), (50, upI (m.2 50) (m.1 25) 0), (65, (m.2 65)), (66, (m.2 66)), (67, (m.2 67)), (68, (m.2 68)), (76, (m.2 76)), (77, (m.2 77)), (78, (m.2 78)), (79, (m.2 79)), (80, (m.2 80)), (81, (m.2 81)), (82, (m.2 82)), (83, (m.2 83)), (84, (m.2 84)), (85, (m.2 85)), (86, (m.2 86)), (87, (m.2 87)), (88, (m.2 88)), (89, (m.2 89)), (90, (m.2 90)), (91, (m.2 91)), (92, (m.2 92)), (101, (m.2 101)), (102, (m.2 102)), (103, (m.2 103)), (104, (m.2 104)), (105, (m.2 105)), (106, (m.2 106)), (107, (m.2 107)), (108, (m.2 108)), (109, upI (m.2 109) (m.1 25) (m.1 99))]) [7, 8, 9, 10, 11, 12] [] rfl ⟨rfl, rfl, rfl, rfl, rfl, rfl, rfl, rfl, rfl, rfl, rfl, rfl, rfl, rfl, rfl, rfl, rfl, rfl, rfl, rfl, rfl, rfl, rfl, rfl, rfl, rfl, rfl, rfl, rfl, rfl, rfl, rfl, rfl, rfl, rfl, rfl, rfl, rfl, trivial⟩ ⟨rfl, rfl, rfl, rfl, rfl, rfl, rfl, rfl, rfl, rfl, rfl, rfl, rfl, rfl, rfl, rfl, rfl, rfl, rfl, rfl, rfl, rfl, rfl, rfl, rfl, rfl, rfl, rfl, rfl, rfl, rfl, rfl, rfl, rfl, rfl, rfl, rfl, rfl, rfl, rfl, rfl, rfl, rfl, rfl, rfl, rfl, rfl, rfl, rfl, rfl, rfl, rfl, rfl, rfl, rfl, rfl, rfl, rfl, rfl, rfl, rfl, rfl, rfl, rfl, rfl, rfl, rfl, rfl, rfl, rfl, rfl, rfl, rfl, rfl, rfl, rfl, rfl, rfl, trivial⟩ rfl rfl (by decide) (by decide) ?_
                      replace h298 : LxP y286 y288 y290 (m.1 6) y292 := h298
                      replace h299 : y292 = 0 → y112 = 0 ∧ y106 = (123 : Int) := h299
                      replace h300 : y108 ≤ y288 := h300
                      replace h301 : y292 = 0 → y108 + y110 ≤ y288 := h301
                      have hf302 : 1 ≤ y292 := by omega
                      clear h299
                      clear h301
                      have hLx := h298
                      clear g107 g109 g111 g113 g115 g117 h118 h120 hf283 h300
                      refine T_ld 149 (.ref 189) rfl (fun _ => rfl) ?_
                      refine T_ld 150 (.int (i32 (m.1 25))) rfl (fun _ => rfl) ?_
                      refine T_pf (l' := [(7, y286), (8, y288), (9, y290), (10, y292), (11, y294), (12, y296), (13, y37), (25, (m.1 25) + 1), (28, (m.1 28)), (64, (m.1 25)), (69, (m.1 69)), (70, (m.1 70)), (71, (m.1 71)), (72, (m.1 72)), (73, (m.1 73)), (74, (m.1 74)), (75, (m.1 75)), (99, (m.1 99)), (100, (m.1 100))]) 153 (m.1 25) rfl rfl rfl rfl rfl rfl ?_
                      have g303 : (-1) ≤ (m.1 25) ∧ (m.1 25) ≤ 15 := ⟨by omega, by omega⟩
                      refine T_gf 157 (.int (i32 y292)) rfl rfl rfl rfl rfl rfl ?_
                      refine T_if 211 160 rfl rfl rfl (r32 (by omega) (by omega)) (fun (h304 : y292 ≠ 0) => ?_) (fun (h304 : ¬ (y292 ≠ 0)) => by exfalso; omega)
                      refine T_ld 212 (.ref 189) rfl (fun _ => rfl) ?_
                      refine T_ld 213 (.int (i32 (-1))) rfl (fun _ => rfl) ?_
                      refine T_pf (l' := [(7, y286), (8, y288), (9, y290), (10, y292), (11, y294), (12, y296), (13, y37), (25, (m.1 25) + 1), (28, (m.1 28)), (64, (-1)), (69, (m.1 69)), (70, (m.1 70)), (71, (m.1 71)), (72, (m.1 72)), (73, (m.1 73)), (74, (m.1 74)), (75, (m.1 75)), (99, (m.1 99)), (100, (m.1 100))]) 216 (-1) rfl rfl rfl rfl rfl rfl ?_
                      refine T_ld 217 (.ref 189) rfl (fun _ => rfl) ?_
                      refine T_ld 219 (.int (i32 125)) rfl (fun _ => rfl) ?_
                      refine T_call 222 232 [.ref 189, .int (i32 125)] [] rfl (fun _ => rfl) rfl (c_need w (mO m [(7, y286), (8, y288), (9, y290), (10, y292), (11, y294), (12, y296), (13, y37), (25, (m.1 25) + 1), (28, (m.1 28)), (64, (-1)), (69, (m.1 69)), (70, (m.1 70)), (71, (m.1 71)), (72, (m.1 72)), (73, (m.1 73)), (74, (m.1 74)), (75, (m.1 75)), (99, (m.1 99)), (100, (m.1 100))] [(14, F39), (15, F41), (16, F43), (17, F45), (46, (m90.2 46)), (47, (m90.2 47)), (48, (m90.2 48)), (49, (m90.2 49)), (50, upI (m.2 50) (m.1 25) 0), (65, (m.2 65)), (66, (m.2 66)), (67, (m.2 67)), (68, (m.2 68)), (76, (m.2 76)), (77, (m.2 77)), (78, (m.2 78)), (79, (m.2 79)), (80, (m.2 80)), (81, (m.2 81)), (82, (m.2 82)), (83, (m.2 83)), (84, (m.2 84)), (85, (m.2 85)), (86, (m.2 86)), (87, (m.2 87)), (88, (m.2 88)), (89, (m.2 89)), (90, (m.2 90)), (91, (m.2 91)), (92, (m.2 92)), (101, (m.2 101)), (102, (m.2 102)), (103, (m.2 103)), (104, (m.2 104)), (105, (m.2 105)), (106, (m.2 106)), (107, (m.2 107)), (108, (m.2 108)), (109, upI (m.2 109) (m.1 25) (m.1 99))]) c N D (by omega) (Ty_mO hT rfl rfl ⟨g287, g289, g291, g293, g295, g297, g38, g58, f28, ⟨(by omega : ((-1) : Int) ≤ (-1)), (by omega : ((-1) : Int) ≤ 15)⟩, f69, f70, f71, f72, f73, f74, f75, f99, f100, trivial⟩ ⟨G40, G42, G44, G46, (q93.2.1 46), (q93.2.1 47), (q93.2.1 48), (q93.2.1 49), G61, (hT.2.1 65), (hT.2.1 66), (hT.2.1 67), (hT.2.1 68), (hT.2.1 76), (hT.2.1 77), (hT.2.1 78), (hT.2.1 79), (hT.2.1 80), (hT.2.1 81), (hT.2.1 82), (hT.2.1 83), (hT.2.1 84), (hT.2.1 85), (hT.2.1 86), (hT.2.1 87), (hT.2.1 88), (hT.2.1 89), (hT.2.1 90), (hT.2.1 91), (hT.2.1 92), (hT.2.1 101), (hT.2.1 102), (hT.2.1 103), (hT.2.1 104), (hT.2.1 105), (hT.2.1 106), (hT.2.1 107), (hT.2.1 108), G59, trivial⟩) 125 ⟨by decide, by decide⟩ (show 1 ≤ (125 : Int) by omega) (show LxP y286 y288 y290 (m.1 6) y292 by first | exact hLx | (intro h9; exfalso; omega) | (intro h9; have h8 := hLx (by omega); omega))) (fun rr305 k306 => ?_)
                      obtain ⟨y307, y309, y311, y313, y315, y317, g308, g310, g312, g314, g316, g318, h319, h320, h321, h322, rfl⟩ := k306
                      refine ⟨_, _, rfl, ?_⟩
                      refine T_nf2 (st' := []) (l' := [(7, y307), (8, y309), (9, y311), (10, y313), (11, y315), (12, y317), (13, y37), (25, (m.1 25) + 1), (28, (m.1 28)), (64, (-1)), (69, (m.1 69)), (70, (m.1 70)), (71, (m.1 71)), (72, (m.1 72)), (73, (m.1 73)), (74, (m.1 74)), (75, (m.1 75)), (99, (m.1 99)), (100, (m.1 100))]) (a' := [(14, F39), (15, F41), (16, F43), (17, F45), (46, (m90.2 46)), (47, (m90.2 47)), (48, (m90.2 48)), (49, (m90.2 49)), (50, upI (m.2 50) (m.1 25) 0), (65, (m.2 65)), (66, (m.2 66)), (67, (m.2 67)), (68, (m.2 68)), (76, (m.2 76)), (77, (m.2 77)), (78, (m.2 78)), (79, (m.2 79)), (80, (m.2 80)), (81, (m.2 81)), (82, (m.2 82)), (83, (m.2 83)), (84, (m.2 84)), (85, (m.2 85)), (86, (m.2 86)), (87, (m.2 87)), (88, (m.2 88)), (89, (m.2 89)), (90, (m.2 90)), (91, (m.2 91)), (92, (m.2 92)), (101, (m.2 101)), (102, (m.2 102)), (103, (m.2 103)), (104, (m.2 104)), (105, (m.2 105)), (106, (m.2 106)), (107, (m.2 107)), (108, (m.2 108)), (109, upI (m.2 109) (m.1 25) (m.1 99))]) [7, 8, 9, 10, 11, 12] [] rfl ⟨rfl, rfl, rfl, rfl, rfl, rfl, rfl, rfl, rfl, rfl, rfl, rfl, rfl, rfl, rfl, rfl, rfl, rfl, rfl, rfl, rfl, rfl, rfl, rfl, rfl, rfl, rfl, rfl, rfl, rfl, rfl, rfl, rfl, rfl, rfl, rfl, rfl, rfl, trivial⟩ ⟨rfl, rfl, rfl, rfl, rfl, rfl, rfl, rfl, rfl, rfl, rfl, rfl, rfl, rfl, rfl, rfl, rfl, rfl, rfl, rfl, rfl, rfl, rfl, rfl, rfl, rfl, rfl, rfl, rfl, rfl, rfl, rfl, rfl, rfl, rfl, rfl, rfl, rfl, rfl, rfl, rfl, rfl, rfl, rfl, rfl, rfl, rfl, rfl, rfl, rfl, rfl, rfl, rfl, rfl, rfl, rfl, rfl, rfl, rfl, rfl, rfl, rfl, rfl, rfl, rfl, rfl, rfl, rfl, rfl, rfl, rfl, rfl, rfl, rfl, rfl, rfl, rfl, rfl, trivial⟩ rfl rfl (by decide) (by decide) ?_
                      replace h319 : LxP y307 y309 y311 (m.1 6) y313 := h319
                      replace h320 : y313 = 0 → y292 = 0 ∧ y286 = (125 : Int) := h320
                      replace h321 : y288 ≤ y309 := h321
                      replace h322 : y313 = 0 → y288 + y290 ≤ y309 := h322
                      have hf323 : 1 ≤ y313 := by omega
                      clear h320
                      clear h322
                      have hLx := h319
                      clear g287 g289 g291 g293 g295 g297 hf302 h298 h304 h321
                      refine T_ret rfl (fun _ => rfl) ?_
                      exact ⟨(mO m [(7, y307), (8, y309), (9, y311), (10, y313), (11, y315), (12, y317), (13, y37), (25, (m.1 25) + 1), (28, (m.1 28)), (64, (-1)), (69, (m.1 69)), (70, (m.1 70)), (71, (m.1 71)), (72, (m.1 72)), (73, (m.1 73)), (74, (m.1 74)), (75, (m.1 75)), (99, (m.1 99)), (100, (m.1 100))] [(14, F39), (15, F41), (16, F43), (17, F45), (46, (m90.2 46)), (47, (m90.2 47)), (48, (m90.2 48)), (49, (m90.2 49)), (50, upI (m.2 50) (m.1 25) 0), (65, (m.2 65)), (66, (m.2 66)), (67, (m.2 67)), (68, (m.2 68)), (76, (m.2 76)), (77, (m.2 77)), (78, (m.2 78)), (79, (m.2 79)), (80, (m.2 80)), (81, (m.2 81)), (82, (m.2 82)), (83, (m.2 83)), (84, (m.2 84)), (85, (m.2 85)), (86, (m.2 86)), (87, (m.2 87)), (88, (m.2 88)), (89, (m.2 89)), (90, (m.2 90)), (91, (m.2 91)), (92, (m.2 92)), (101, (m.2 101)), (102, (m.2 102)), (103, (m.2 103)), (104, (m.2 104)), (105, (m.2 105)), (106, (m.2 106)), (107, (m.2 107)), (108, (m.2 108)), (109, upI (m.2 109) (m.1 25) (m.1 99))]), (Ty_mO hT rfl rfl ⟨g308, g310, g312, g314, g316, g318, g38, g58, f28, ⟨(by omega : ((-1) : Int) ≤ (-1)), (by omega : ((-1) : Int) ≤ 15)⟩, f69, f70, f71, f72, f73, f74, f75, f99, f100, trivial⟩ ⟨G40, G42, G44, G46, (q93.2.1 46), (q93.2.1 47), (q93.2.1 48), (q93.2.1 49), G61, (hT.2.1 65), (hT.2.1 66), (hT.2.1 67), (hT.2.1 68), (hT.2.1 76), (hT.2.1 77), (hT.2.1 78), (hT.2.1 79), (hT.2.1 80), (hT.2.1 81), (hT.2.1 82), (hT.2.1 83), (hT.2.1 84), (hT.2.1 85), (hT.2.1 86), (hT.2.1 87), (hT.2.1 88), (hT.2.1 89), (hT.2.1 90), (hT.2.1 91), (hT.2.1 92), (hT.2.1 101), (hT.2.1 102), (hT.2.1 103), (hT.2.1 104), (hT.2.1 105), (hT.2.1 106), (hT.2.1 107), (hT.2.1 108), G59, trivial⟩), (show y313 = 0 → (m.1 10) = 0 by omega), (show LxP y307 y309 y311 (m.1 6) y313 by first | (first | exact hLx | exact (fun _ => hLx (by omega)) | (intro h9; exfalso; omega)) | (exfalso; omega)), (show ∀ k, F39 k + F41 k ≤ 4000 by first | (exact hNM) | (exfalso; omega)), (show ∀ k, (m90.2 47) k + (m90.2 48) k ≤ 4000 by first | (exact hPA) | (exfalso; omega)), (fun (h : y313 = 0) => absurd h (by omega)), rfl⟩
                  · skip
                    refine T_gf 95 (.int (i32 (m90.1 10))) rfl rfl rfl rfl rfl rfl ?_
                    refine T_if 136 98 rfl rfl rfl (r32 (by omega) (by omega)) (fun (h324 : (m90.1 10) ≠ 0) => by exfalso; omega) (fun (h324 : ¬ ((m90.1 10) ≠ 0)) => ?_)
                    refine T_ld 99 (.ref 189) rfl (fun _ => rfl) ?_
                    refine T_ld 100 (.int (i32 (m.1 25))) rfl (fun _ => rfl) ?_
                    refine T_call 103 268 [.ref 189, .int (i32 (m.1 25))] [] rfl (fun _ => rfl) rfl (c_takeParameter w (mO m [(7, (m90.1 7)), (8, (m90.1 8)), (9, (m90.1 9)), (10, (m90.1 10)), (11, (m90.1 11)), (12, (m90.1 12)), (13, y37), (25, (m.1 25) + 1), (28, (m.1 28)), (64, (m.1 64)), (69, (m.1 69)), (70, (m.1 70)), (71, (m.1 71)), (72, (m.1 72)), (73, (m.1 73)), (74, (m.1 74)), (75, (m.1 75)), (99, (m.1 99)), (100, (m.1 100))] [(14, F39), (15, F41), (16, F43), (17, F45), (46, (m90.2 46)), (47, (m90.2 47)), (48, (m90.2 48)), (49, (m90.2 49)), (50, upI (m.2 50) (m.1 25) 0), (65, (m.2 65)), (66, (m.2 66)), (67, (m.2 67)), (68, (m.2 68)), (76, (m.2 76)), (77, (m.2 77)), (78, (m.2 78)), (79, (m.2 79)), (80, (m.2 80)), (81, (m.2 81)), (82, (m.2 82)), (83, (m.2 83)), (84, (m.2 84)), (85, (m.2 85)), (86, (m.2 86)), (87, (m.2 87)), (88, (m.2 88)), (89, (m.2 89)), (90, (m.2 90)), (91, (m.2 91)), (92, (m.2 92)), (101, (m.2 101)), (102, (m.2 102)), (103, (m.2 103)), (104, (m.2 104)), (105, (m.2 105)), (106, (m.2 106)), (107, (m.2 107)), (108, (m.2 108)), (109, upI (m.2 109) (m.1 25) (m.1 99))]) c N D (by omega) (Ty_mO hT rfl rfl ⟨(q93.1 7), (q93.1 8), (q93.1 9), (q93.1 10), (q93.1 11), (q93.1 12), g38, g58, f28, f64, f69, f70, f71, f72, f73, f74, f75, f99, f100, trivial⟩ ⟨G40, G42, G44, G46, (q93.2.1 46), (q93.2.1 47), (q93.2.1 48), (q93.2.1 49), G61, (hT.2.1 65), (hT.2.1 66), (hT.2.1 67), (hT.2.1 68), (hT.2.1 76), (hT.2.1 77), (hT.2.1 78), (hT.2.1 79), (hT.2.1 80), (hT.2.1 81), (hT.2.1 82), (hT.2.1 83), (hT.2.1 84), (hT.2.1 85), (hT.2.1 86), (hT.2.1 87), (hT.2.1 88), (hT.2.1 89), (hT.2.1 90), (hT.2.1 91), (hT.2.1 92), (hT.2.1 101), (hT.2.1 102), (hT.2.1 103), (hT.2.1 104), (hT.2.1 105), (hT.2.1 106), (hT.2.1 107), (hT.2.1 108), G59, trivial⟩) (m.1 25) (r32 (by omega) (by omega)) (show LxP (m90.1 7) (m90.1 8) (m90.1 9) (m.1 6) (m90.1 10) by first | exact hLx | exact (fun _ => hLx (by omega)) | (intro h9; exfalso; omega)) (show ∀ k, (m90.2 47) k + (m90.2 48) k ≤ 4000 by assumption) (show 0 ≤ (m.1 25) ∧ (m.1 25) ≤ 15 by omega) (fun _ => trivial)) (fun rr325 k326 => ?_)
                    obtain ⟨m327, hT328, h329, h330, h331, c332, rfl⟩ := k326
                    refine ⟨_, _, rfl, ?_⟩
                    refine T_nf2 (st' := []) (l' := [(7, (m327.1 7)), (8, (m327.1 8)), (9, (m327.1 9)), (10, (m327.1 10)), (11, (m327.1 11)), (12, (m327.1 12)), (13, y37), (25, (m.1 25) + 1), (28, (m.1 28)), (64, (m.1 64)), (69, (m.1 69)), (70, (m.1 70)), (71, (m.1 71)), (72, (m.1 72)), (73, (m.1 73)), (74, (m.1 74)), (75, (m.1 75)), (99, (m.1 99)), (100, (m.1 100))]) (a' := [(14, F39), (15, F41), (16, F43), (17, F45), (46, (m327.2 46)), (47, (m327.2 47)), (48, (m327.2 48)), (49, (m327.2 49)), (50, upI (m.2 50) (m.1 25) 0), (65, (m.2 65)), (66, (m.2 66)), (67, (m.2 67)), (68, (m.2 68)), (76, (m.2 76)), (77, (m.2 77)), (78, (m.2 78)), (79, (m.2 79)), (80, (m.2 80)), (81, (m.2 81)), (82, (m.2 82)), (83, (m.2 83)), (84, (m.2 84)), (85, (m.2 85)), (86, (m.2 86)), (87, (m.2 87)), (88, (m.2 88)), (89, (m.2 89)), (90, (m.2 90)), (91, (m.2 91)), (92, (m.2 92)), (101, (m.2 101)), (102, (m.2 102)), (103, (m.2 103)), (104, (m.2 104)), (105, (m.2 105)), (106, (m.2 106)), (107, (m.2 107)), (108, (m.2 108)), (109, upI (m.2 109) (m.1 25) (m.1 99))]) [7, 8, 9, 10, 11, 12] [46, 47, 48, 49] rfl ⟨rfl, rfl, rfl, rfl, rfl, rfl, rfl, rfl, rfl, rfl, rfl, rfl, rfl, rfl, rfl, rfl, rfl, rfl, rfl, rfl, rfl, rfl, rfl, rfl, rfl, rfl, rfl, rfl, rfl, rfl, rfl, rfl, rfl, rfl, rfl, rfl, rfl, rfl, trivial⟩ ⟨rfl, rfl, rfl, rfl, rfl, rfl, rfl, rfl, rfl, rfl, rfl, rfl, rfl, rfl, rfl, rfl, rfl, rfl, rfl, rfl, rfl, rfl, rfl, rfl, rfl, rfl, rfl, rfl, rfl, rfl, rfl, rfl, rfl, rfl, rfl, rfl, rfl, rfl, rfl, rfl, rfl, rfl, rfl, rfl, rfl, rfl, rfl, rfl, rfl, rfl, rfl, rfl, rfl, rfl, rfl, rfl, rfl, rfl, rfl, rfl, rfl, rfl, rfl, rfl, rfl, rfl, rfl, rfl, rfl, rfl, rfl, rfl, rfl, rfl, rfl, rfl, rfl, rfl, rfl, rfl, rfl, rfl, trivial⟩ rfl rfl (by decide) (by decide) ?_
                    have g333 : 0 ≤ m327.1 7 ∧ m327.1 7 ≤ 330 := hT328.1 7
                    have g334 : 0 ≤ m327.1 8 ∧ m327.1 8 ≤ 4000 := hT328.1 8
                    have g335 : 0 ≤ m327.1 9 ∧ m327.1 9 ≤ 4000 := hT328.1 9
                    have g336 : 0 ≤ m327.1 10 ∧ m327.1 10 ≤ 8 := hT328.1 10
                    have g337 : (-1) ≤ m327.1 11 ∧ m327.1 11 ≤ 4000 := hT328.1 11
                    have g338 : (-9223372036854775808) ≤ m327.1 12 ∧ m327.1 12 ≤ 9223372036854775807 := hT328.1 12
                    by_cases hf339 : (m327.1 10) = 0
                    · skip
                      replace h329 : (m90.1 10) = 0 := h329 hf339
                      replace h330 : LxP (m327.1 7) (m327.1 8) (m327.1 9) (m.1 6) (m327.1 10) := h330
                      have hLx := h330
                      replace h331 : ∀ k, (m327.2 47) k + (m327.2 48) k ≤ 4000 := h331
                      have hPA := h331
                      have c340 := c332 hf339
                      replace c340 : (m90.1 8) + 1 ≤ (m327.1 8) := c340
                      clear c332
                      have u341 : (m.1 8) + 1 ≤ (m327.1 8) := by omega
                      have hAgC : agr (m.2 65) (m.2 65) (m.1 28) := by first | exact agr_r _ _ | exact hAgC | exact agr_t hAgC hAg (by omega)
                      clear g65 g67 g69 g73 g75 h76 u81 q85a q85b q85 ic86 ic87 q93_7 q93_9 q93_11 q93_12 ic96 ic97
                      refine T_gf 107 (.int (i32 (m327.1 10))) rfl rfl rfl rfl rfl rfl ?_
                      refine T_if 123 110 rfl rfl rfl (r32 (by omega) (by omega)) (fun (h342 : (m327.1 10) ≠ 0) => by exfalso; omega) (fun (h342 : ¬ ((m327.1 10) ≠ 0)) => ?_)
                      refine T_gf 114 (.int (i32 (m327.1 7))) rfl rfl rfl rfl rfl rfl ?_
                      refine T_ld 116 (.int (i32 44)) rfl (fun _ => rfl) ?_
                      have J124_344 : ∀ (s343 : Int), (R32 s343) → (0 ≤ s343) → (s343 ≤ 1) → TT w D pm_267 (124, [(0, .ref 189), (1, .int (i32 (m.1 25))), (2, .int (i32 v89))], [.int (i32 s343)], (mhp (mO m [(7, (m327.1 7)), (8, (m327.1 8)), (9, (m327.1 9)), (10, (m327.1 10)), (11, (m327.1 11)), (12, (m327.1 12)), (13, y37), (25, (m.1 25) + 1), (28, (m.1 28)), (64, (m.1 64)), (69, (m.1 69)), (70, (m.1 70)), (71, (m.1 71)), (72, (m.1 72)), (73, (m.1 73)), (74, (m.1 74)), (75, (m.1 75)), (99, (m.1 99)), (100, (m.1 100))] [(14, F39), (15, F41), (16, F43), (17, F45), (46, (m327.2 46)), (47, (m327.2 47)), (48, (m327.2 48)), (49, (m327.2 49)), (50, upI (m.2 50) (m.1 25) 0), (65, (m.2 65)), (66, (m.2 66)), (67, (m.2 67)), (68, (m.2 68)), (76, (m.2 76)), (77, (m.2 77)), (78, (m.2 78)), (79, (m.2 79)), (80, (m.2 80)), (81, (m.2 81)), (82, (m.2 82)), (83, (m.2 83)), (84, (m.2 84)), (85, (m.2 85)), (86, (m.2 86)), (87, (m.2 87)), (88, (m.2 88)), (89, (m.2 89)), (90, (m.2 90)), (91, (m.2 91)), (92, (m.2 92)), (101, (m.2 101)), (102, (m.2 102)), (103, (m.2 103)), (104, (m.2 104)), (105, (m.2 105)), (106, (m.2 106)), (107, (m.2 107)), (108, (m.2 108)), (109, upI (m.2 109) (m.1 25) (m.1 99))]) c, N), 0, 0) (Q_takeAction m c N) := by
                        intro s343 q345 ic346 ic347
                        obtain ⟨q345a, q345b⟩ := id q345
                        refine T_sto 125 [(2, .int (i32 s343)), (0, .ref 189), (1, .int (i32 (m.1 25)))] rfl (fun _ => rfl) ?_
                        refine T_ld 126 (.int (i32 s343)) rfl (fun _ => rfl) ?_
                        refine T_if 87 129 rfl rfl rfl (r32 (by omega) (by omega)) (fun (h349 : s343 = 0) => ?_) (fun (h349 : ¬ (s343 = 0)) => ?_)
                        · skip
                          refine Tm_lv (a := [(0, .ref 189), (1, .int (i32 (m.1 25))), (2, .int (i32 s343))]) rfl rfl ⟨rfl, rfl, rfl, trivial⟩ ?_
                          exact ih100 s343 (mO m [(7, (m327.1 7)), (8, (m327.1 8)), (9, (m327.1 9)), (10, (m327.1 10)), (11, (m327.1 11)), (12, (m327.1 12)), (13, y37), (25, (m.1 25) + 1), (28, (m.1 28)), (64, (m.1 64)), (69, (m.1 69)), (70, (m.1 70)), (71, (m.1 71)), (72, (m.1 72)), (73, (m.1 73)), (74, (m.1 74)), (75, (m.1 75)), (99, (m.1 99)), (100, (m.1 100))] [(14, F39), (15, F41), (16, F43), (17, F45), (46, (m327.2 46)), (47, (m327.2 47)), (48, (m327.2 48)), (49, (m327.2 49)), (50, upI (m.2 50) (m.1 25) 0), (65, (m.2 65)), (66, (m.2 66)), (67, (m.2 67)), (68, (m.2 68)), (76, (m.2 76)), (77, (m.2 77)), (78, (m.2 78)), (79, (m.2 79)), (80, (m.2 80)), (81, (m.2 81)), (82, (m.2 82)), (83, (m.2 83)), (84, (m.2 84)), (85, (m.2 85)), (86, (m.2 86)), (87, (m.2 87)), (88, (m.2 88)), (89, (m.2 89)), (90, (m.2 90)), (91, (m.2 91)), (92, (m.2 92)), (101, (m.2 101)), (102, (m.2 102)), (103, (m.2 103)), (104, (m.2 104)), (105, (m.2 105)), (106, (m.2 106)), (107, (m.2 107)), (108, (m.2 108)), (109, upI (m.2 109) (m.1 25) (m.1 99))]) (r32 (by omega) (by omega)) (Ty_mO hT rfl rfl ⟨(hT328.1 7), (hT328.1 8), (hT328.1 9), (hT328.1 10), (hT328.1 11), (hT328.1 12), g38, g58, f28, f64, f69, f70, f71, f72, f73, f74, f75, f99, f100, trivial⟩ ⟨G40, G42, G44, G46, (hT328.2.1 46), (hT328.2.1 47), (hT328.2.1 48), (hT328.2.1 49), G61, (hT.2.1 65), (hT.2.1 66), (hT.2.1 67), (hT.2.1 68), (hT.2.1 76), (hT.2.1 77), (hT.2.1 78), (hT.2.1 79), (hT.2.1 80), (hT.2.1 81), (hT.2.1 82), (hT.2.1 83), (hT.2.1 84), (hT.2.1 85), (hT.2.1 86), (hT.2.1 87), (hT.2.1 88), (hT.2.1 89), (hT.2.1 90), (hT.2.1 91), (hT.2.1 92), (hT.2.1 101), (hT.2.1 102), (hT.2.1 103), (hT.2.1 104), (hT.2.1 105), (hT.2.1 106), (hT.2.1 107), (hT.2.1 108), G59, trivial⟩) (show 0 ≤ s343 by omega) (show s343 ≤ 1 by omega) (show LxP (m327.1 7) (m327.1 8) (m327.1 9) (m.1 6) (m327.1 10) by exact hLx) (show ∀ k, (m327.2 47) k + (m327.2 48) k ≤ 4000 by exact hPA) (show s343 = 0 ∨ s343 = 1 by omega) (fun _ => (show (m.1 8) + 1 ≤ (m327.1 8) by omega)) (show 1000000 * (8 - (m327.1 10)) + 2 * (4000 - (m327.1 8)) + s343 < (n : Int) by omega)
                        · skip
                          refine T_ld 130 (.ref 189) rfl (fun _ => rfl) ?_
                          refine T_call 133 212 [.ref 189] [] rfl (fun _ => rfl) rfl (c_next w (mO m [(7, (m327.1 7)), (8, (m327.1 8)), (9, (m327.1 9)), (10, (m327.1 10)), (11, (m327.1 11)), (12, (m327.1 12)), (13, y37), (25, (m.1 25) + 1), (28, (m.1 28)), (64, (m.1 64)), (69, (m.1 69)), (70, (m.1 70)), (71, (m.1 71)), (72, (m.1 72)), (73, (m.1 73)), (74, (m.1 74)), (75, (m.1 75)), (99, (m.1 99)), (100, (m.1 100))] [(14, F39), (15, F41), (16, F43), (17, F45), (46, (m327.2 46)), (47, (m327.2 47)), (48, (m327.2 48)), (49, (m327.2 49)), (50, upI (m.2 50) (m.1 25) 0), (65, (m.2 65)), (66, (m.2 66)), (67, (m.2 67)), (68, (m.2 68)), (76, (m.2 76)), (77, (m.2 77)), (78, (m.2 78)), (79, (m.2 79)), (80, (m.2 80)), (81, (m.2 81)), (82, (m.2 82)), (83, (m.2 83)), (84, (m.2 84)), (85, (m.2 85)), (86, (m.2 86)), (87, (m.2 87)), (88, (m.2 88)), (89, (m.2 89)), (90, (m.2 90)), (91, (m.2 91)), (92, (m.2 92)), (101, (m.2 101)), (102, (m.2 102)), (103, (m.2 103)), (104, (m.2 104)), (105, (m.2 105)), (106, (m.2 106)), (107, (m.2 107)), (108, (m.2 108)), (109, upI (m.2 109) (m.1 25) (m.1 99))]) c N D (by omega) (Ty_mO hT rfl rfl ⟨(hT328.1 7), (hT328.1 8), (hT328.1 9), (hT328.1 10), (hT328.1 11), (hT328.1 12), g38, g58, f28, f64, f69, f70, f71, f72, f73, f74, f75, f99, f100, trivial⟩ ⟨G40, G42, G44, G46, (hT328.2.1 46), (hT328.2.1 47), (hT328.2.1 48), (hT328.2.1 49), G61, (hT.2.1 65), (hT.2.1 66), (hT.2.1 67), (hT.2.1 68), (hT.2.1 76), (hT.2.1 77), (hT.2.1 78), (hT.2.1 79), (hT.2.1 80), (hT.2.1 81), (hT.2.1 82), (hT.2.1 83), (hT.2.1 84), (hT.2.1 85), (hT.2.1 86), (hT.2.1 87), (hT.2.1 88), (hT.2.1 89), (hT.2.1 90), (hT.2.1 91), (hT.2.1 92), (hT.2.1 101), (hT.2.1 102), (hT.2.1 103), (hT.2.1 104), (hT.2.1 105), (hT.2.1 106), (hT.2.1 107), (hT.2.1 108), G59, trivial⟩) (show (m327.1 10) = 0 → (m327.1 8) + (m327.1 9) ≤ (m.1 6) by first | omega | (intro h9; have h8 := hLx h9; omega))) (fun rr350 k351 => ?_)
                          obtain ⟨y352, y354, y356, y358, y360, y362, g353, g355, g357, g359, g361, g363, h364, h365, h366, h367, rfl⟩ := k351
                          refine ⟨_, _, rfl, ?_⟩
                          refine T_nf2 (st' := []) (l' := [(7, y352), (8, y354), (9, y356), (10, y358), (11, y360), (12, y362), (13, y37), (25, (m.1 25) + 1), (28, (m.1 28)), (64, (m.1 64)), (69, (m.1 69)), (70, (m.1 70)), (71, (m.1 71)), (72, (m.1 72)), (73, (m.1 73)), (74, (m.1 74)), (75, (m.1 75)), (99, (m.1 99)), (100, (m.1 100))]) (a' := [(14, F39), (15, F41), (16, F43), (17, F45), (46, (m327.2 46)), (47, (m327.2 47)), (48, (m327.2 48)), (49, (m327.2 49)), (50, upI (m.2 50) (m.1 25) 0), (65, (m.2 65)), (66, (m.2 66)), (67, (m.2 67)), (68, (m.2 68)), (76, (m.2 76)), (77, (m.2 77)), (78, (m.2 78)), (79, (m.2 79)), (80, (m.2 80)), (81, (m.2 81)), (82, (m.2 82)), (83, (m.2 83)), (84, (m.2 84)), (85, (m.2 85)), (86, (m.2 86)), (87, (m.2 87)), (88, (m.2 88)), (89, (m.2 89)), (90, (m.2 90)), (91, (m.2 91)), (92, (m.2 92)), (101, (m.2 101)), (102, (m.2 102)), (103, (m.2 103)), (104, (m.2 104)), (105, (m.2 105)), (106, (m.2 106)), (107, (m.2 107)), (108, (m.2 108)), (109, upI (m.2 109) (m.1 25) (m.1 99))]) [7, 8, 9, 10, 11, 12] [] rfl ⟨rfl, rfl, rfl, rfl, rfl, rfl, rfl, rfl, rfl, rfl, rfl, rfl, rfl, rfl, rfl, rfl, rfl, rfl, rfl, rfl, rfl, rfl, rfl, rfl, rfl, rfl, rfl, rfl, rfl, rfl, rfl, rfl, rfl, rfl, rfl, rfl, rfl, rfl, trivial⟩ ⟨rfl, rfl, rfl, rfl, rfl, rfl, rfl, rfl, rfl, rfl, rfl, rfl, rfl, rfl, rfl, rfl, rfl, rfl, rfl, rfl, rfl, rfl, rfl, rfl, rfl, rfl, rfl, rfl, rfl, rfl, rfl, rfl, rfl, rfl, rfl, rfl, rfl, rfl, rfl, rfl, rfl, rfl, rfl, rfl, rfl, rfl, rfl, rfl, rfl, rfl, rfl, rfl, rfl, rfl, rfl, rfl, rfl, rfl, rfl, rfl, rfl, rfl, rfl, rfl, rfl, rfl, rfl, rfl, rfl, rfl, rfl, rfl, rfl, rfl, rfl, rfl, rfl, rfl, trivial⟩ rfl rfl (by decide) (by decide) ?_
                          by_cases hf368 : y358 = 0
                          · skip
                            subst hf368
                            replace h364 : LxP y352 y354 y356 (m.1 6) (0 : Int) := h364
                            have hLx := h364
                            replace h365 : (m327.1 10) = 0 := h365 rfl
                            replace h366 : (m327.1 8) ≤ y354 := h366
                            replace h367 : (m327.1 8) + (m327.1 9) ≤ y354 := h367 rfl
                            have u369 : (m.1 8) + 1 ≤ y354 := by omega
                            have hAgC : agr (m.2 65) (m.2 65) (m.1 28) := by first | exact agr_r _ _ | exact hAgC | exact agr_t hAgC hAg (by omega)
                            clear g333 g334 g335 g336 g337 g338 h330 c340 u341 h342 g359 h365 h366 h367
                            refine T_goto 87 rfl (fun _ => rfl) ?_
                            refine Tm_lv (a := [(0, .ref 189), (1, .int (i32 (m.1 25))), (2, .int (i32 s343))]) rfl rfl ⟨rfl, rfl, rfl, trivial⟩ ?_
                            exact ih100 s343 (mO m [(7, y352), (8, y354), (9, y356), (10, 0), (11, y360), (12, y362), (13, y37), (25, (m.1 25) + 1), (28, (m.1 28)), (64, (m.1 64)), (69, (m.1 69)), (70, (m.1 70)), (71, (m.1 71)), (72, (m.1 72)), (73, (m.1 73)), (74, (m.1 74)), (75, (m.1 75)), (99, (m.1 99)), (100, (m.1 100))] [(14, F39), (15, F41), (16, F43), (17, F45), (46, (m327.2 46)), (47, (m327.2 47)), (48, (m327.2 48)), (49, (m327.2 49)), (50, upI (m.2 50) (m.1 25) 0), (65, (m.2 65)), (66, (m.2 66)), (67, (m.2 67)), (68, (m.2 68)), (76, (m.2 76)), (77, (m.2 77)), (78, (m.2 78)), (79, (m.2 79)), (80, (m.2 80)), (81, (m.2 81)), (82, (m.2 82)), (83, (m.2 83)), (84, (m.2 84)), (85, (m.2 85)), (86, (m.2 86)), (87, (m.2 87)), (88, (m.2 88)), (89, (m.2 89)), (90, (m.2 90)), (91, (m.2 91)), (92, (m.2 92)), (101, (m.2 101)), (102, (m.2 102)), (103, (m.2 103)), (104, (m.2 104)), (105, (m.2 105)), (106, (m.2 106)), (107, (m.2 107)), (108, (m.2 108)), (109, upI (m.2 109) (m.1 25) (m.1 99))]) (r32 (by omega) (by omega)) (Ty_mO hT rfl rfl ⟨g353, g355, g357, ⟨(by omega : (0 : Int) ≤ 0), (by omega : (0 : Int) ≤ 8)⟩, g361, g363, g38, g58, f28, f64, f69, f70, f71, f72, f73, f74, f75, f99, f100, trivial⟩ ⟨G40, G42, G44, G46, (hT328.2.1 46), (hT328.2.1 47), (hT328.2.1 48), (hT328.2.1 49), G61, (hT.2.1 65), (hT.2.1 66), (hT.2.1 67), (hT.2.1 68), (hT.2.1 76), (hT.2.1 77), (hT.2.1 78), (hT.2.1 79), (hT.2.1 80), (hT.2.1 81), (hT.2.1 82), (hT.2.1 83), (hT.2.1 84), (hT.2.1 85), (hT.2.1 86), (hT.2.1 87), (hT.2.1 88), (hT.2.1 89), (hT.2.1 90), (hT.2.1 91), (hT.2.1 92), (hT.2.1 101), (hT.2.1 102), (hT.2.1 103), (hT.2.1 104), (hT.2.1 105), (hT.2.1 106), (hT.2.1 107), (hT.2.1 108), G59, trivial⟩) (show 0 ≤ s343 by omega) (show s343 ≤ 1 by omega) (show LxP y352 y354 y356 (m.1 6) (0 : Int) by exact hLx) (show ∀ k, (m327.2 47) k + (m327.2 48) k ≤ 4000 by exact hPA) (show s343 = 0 ∨ s343 = 1 by omega) (fun _ => (show (m.1 8) + 1 ≤ y354 by omega)) (show 1000000 * (8 - (0 : Int)) + 2 * (4000 - y354) + s343 < (n : Int) by omega)
                          · skip
                            replace h364 : LxP y352 y354 y356 (m.1 6) y358 := h364
                            have hLx := h364
                            clear h365
                            replace h366 : (m327.1 8) ≤ y354 := h366
                            clear h367
                            have hf370 : 1 ≤ y358 := by omega
                            clear g333 g334 g335 g336 g337 g338 h330 c340 u341 h342 h366
                            refine T_goto 87 rfl (fun _ => rfl) ?_
                            refine Tm_lv (a := [(0, .ref 189), (1, .int (i32 (m.1 25))), (2, .int (i32 s343))]) rfl rfl ⟨rfl, rfl, rfl, trivial⟩ ?_
                            exact ih100 s343 (mO m [(7, y352), (8, y354), (9, y356), (10, y358), (11, y360), (12, y362), (13, y37), (25, (m.1 25) + 1), (28, (m.1 28)), (64, (m.1 64)), (69, (m.1 69)), (70, (m.1 70)), (71, (m.1 71)), (72, (m.1 72)), (73, (m.1 73)), (74, (m.1 74)), (75, (m.1 75)), (99, (m.1 99)), (100, (m.1 100))] [(14, F39), (15, F41), (16, F43), (17, F45), (46, (m327.2 46)), (47, (m327.2 47)), (48, (m327.2 48)), (49, (m327.2 49)), (50, upI (m.2 50) (m.1 25) 0), (65, (m.2 65)), (66, (m.2 66)), (67, (m.2 67)), (68, (m.2 68)), (76, (m.2 76)), (77, (m.2 77)), (78, (m.2 78)), (79, (m.2 79)), (80, (m.2 80)), (81, (m.2 81)), (82, (m.2 82)), (83, (m.2 83)), (84, (m.2 84)), (85, (m.2 85)), (86, (m.2 86)), (87, (m.2 87)), (88, (m.2 88)), (89, (m.2 89)), (90, (m.2 90)), (91, (m.2 91)), (92, (m.2 92)), (101, (m.2 101)), (102, (m.2 102)), (103, (m.2 103)), (104, (m.2 104)), (105, (m.2 105)), (106, (m.2 106)), (107, (m.2 107)), (108, (m.2 108)), (109, upI (m.2 109) (m.1 25) (m.1 99))]) (r32 (by omega) (by omega)) (Ty_mO hT rfl rfl ⟨g353, g355, g357, g359, g361, g363, g38, g58, f28, f64, f69, f70, f71, f72, f73, f74, f75, f99, f100, trivial⟩ ⟨G40, G42, G44, G46, (hT328.2.1 46), (hT328.2.1 47), (hT328.2.1 48), (hT328.2.1 49), G61, (hT.2.1 65), (hT.2.1 66), (hT.2.1 67), (hT.2.1 68), (hT.2.1 76), (hT.2.1 77), (hT.2.1 78), (hT.2.1 79), (hT.2.1 80), (hT.2.1 81), (hT.2.1 82), (hT.2.1 83), (hT.2.1 84), (hT.2.1 85), (hT.2.1 86), (hT.2.1 87), (hT.2.1 88), (hT.2.1 89), (hT.2.1 90), (hT.2.1 91), (hT.2.1 92), (hT.2.1 101), (hT.2.1 102), (hT.2.1 103), (hT.2.1 104), (hT.2.1 105), (hT.2.1 106), (hT.2.1 107), (hT.2.1 108), G59, trivial⟩) (show 0 ≤ s343 by omega) (show s343 ≤ 1 by omega) (show LxP y352 y354 y356 (m.1 6) y358 by exact hLx) (show ∀ k, (m327.2 47) k + (m327.2 48) k ≤ 4000 by exact hPA) (show s343 = 0 ∨ s343 = 1 by omega) (fun (h : y358 = 0) => absurd h (by omega)) (show 1000000 * (8 - y358) + 2 * (4000 - y354) + s343 < (n : Int) by omega)
                      refine T_icmp 123 119 rfl rfl rfl (r32 (by omega) (by omega)) ⟨by decide, by decide⟩ (fun (h371 : (m327.1 7) ≠ 44) => ?_) (fun (h371 : ¬ ((m327.1 7) ≠ 44)) => ?_)
                      · skip
                        refine T_ld 124 (.int (i32 0)) rfl (fun _ => rfl) ?_
                        exact J124_344 0 ⟨by decide, by decide⟩ (show 0 ≤ (0 : Int) by omega) (show (0 : Int) ≤ 1 by omega)
                      · skip
                        refine T_ld 120 (.int (i32 1)) rfl (fun _ => rfl) ?_
                        refine T_goto 124 rfl (fun _ => rfl) ?_
                        exact J124_344 1 ⟨by decide, by decide⟩ (show 0 ≤ (1 : Int) by omega) (show (1 : Int) ≤ 1 by omega)
                    · skip
                      clear c332
                      clear h329
                      replace h330 : LxP (m327.1 7) (m327.1 8) (m327.1 9) (m.1 6) (m327.1 10) := h330
                      have hLx := h330
                      replace h331 : ∀ k, (m327.2 47) k + (m327.2 48) k ≤ 4000 := h331
                      have hPA := h331
                      have hf372 : 1 ≤ (m327.1 10) := by omega
                      clear g65 g67 g69 g73 g75 h76 u81 q85a q85b q85 ic86 ic87 q93_7 q93_9 q93_11 q93_12 ic96 ic97
                      refine T_gf 107 (.int (i32 (m327.1 10))) rfl rfl rfl rfl rfl rfl ?_
                      refine T_if 123 110 rfl rfl rfl (r32 (by omega) (by omega)) (fun (h373 : (m327.1 10) ≠ 0) => ?_) (fun (h373 : ¬ ((m327.1 10) ≠ 0)) => by exfalso; omega)
                      refine T_ld 124 (.int (i32 0)) rfl (fun _ => rfl) ?_
                      refine T_sto 125 [(2, .int (i32 0)), (0, .ref 189), (1, .int (i32 (m.1 25)))] rfl (fun _ => rfl) ?_
                      refine T_ld 126 (.int (i32 0)) rfl (fun _ => rfl) ?_
                      refine T_if 87 129 rfl rfl rfl ⟨by decide, by decide⟩ (fun _ => ?_) (fun h374 => absurd (show (0 : Int) = 0 by decide) h374)
                      refine Tm_lv (a := [(0, .ref 189), (1, .int (i32 (m.1 25))), (2, .int (i32 0))]) rfl rfl ⟨rfl, rfl, rfl, trivial⟩ ?_
                      exact ih100 0 (mO m [(7, (m327.1 7)), (8, (m327.1 8)), (9, (m327.1 9)), (10, (m327.1 10)), (11, (m327.1 11)), (12, (m327.1 12)), (13, y37), (25, (m.1 25) + 1), (28, (m.1 28)), (64, (m.1 64)), (69, (m.1 69)), (70, (m.1 70)), (71, (m.1 71)), (72, (m.1 72)), (73, (m.1 73)), (74, (m.1 74)), (75, (m.1 75)), (99, (m.1 99)), (100, (m.1 100))] [(14, F39), (15, F41), (16, F43), (17, F45), (46, (m327.2 46)), (47, (m327.2 47)), (48, (m327.2 48)), (49, (m327.2 49)), (50, upI (m.2 50) (m.1 25) 0), (65, (m.2 65)), (66, (m.2 66)), (67, (m.2 67)), (68, (m.2 68)), (76, (m.2 76)), (77, (m.2 77)), (78, (m.2 78)), (79, (m.2 79)), (80, (m.2 80)), (81, (m.2 81)), (82, (m.2 82)), (83, (m.2 83)), (84, (m.2 84)), (85, (m.2 85)), (86, (m.2 86)), (87, (m.2 87)), (88, (m.2 88)), (89, (m.2 89)), (90, (m.2 90)), (91, (m.2 91)), (92, (m.2 92)), (101, (m.2 101)), (102, (m.2 102)), (103, (m.2 103)), (104, (m.2 104)), (105, (m.2 105)), (106, (m.2 106)), (107, (m.2 107)), (108, (m.2 108)), (109, upI (m.2 109) (m.1 25) (m.1 99))]) ⟨by decide, by decide⟩ (Ty_mO hT rfl rfl ⟨(hT328.1 7), (hT328.1 8), (hT328.1 9), (hT328.1 10), (hT328.1 11), (hT328.1 12), g38, g58, f28, f64, f69, f70, f71, f72, f73, f74, f75, f99, f100, trivial⟩ ⟨G40, G42, G44, G46, (hT328.2.1 46), (hT328.2.1 47), (hT328.2.1 48), (hT328.2.1 49), G61, (hT.2.1 65), (hT.2.1 66), (hT.2.1 67), (hT.2.1 68), (hT.2.1 76), (hT.2.1 77), (hT.2.1 78), (hT.2.1 79), (hT.2.1 80), (hT.2.1 81), (hT.2.1 82), (hT.2.1 83), (hT.2.1 84), (hT.2.1 85), (hT.2.1 86), (hT.2.1 87), (hT.2.1 88), (hT.2.1 89), (hT.2.1 90), (hT.2.1 91), (hT.2.1 92), (hT.2.1 101), (hT.2.1 102), (hT.2.1 103), (hT.2.1 104), (hT.2.1 105), (hT.2.1 106), (hT.2.1 107), (hT.2.1 108), G59, trivial⟩) (show 0 ≤ (0 : Int) by omega) (show (0 : Int) ≤ 1 by omega) (show LxP (m327.1 7) (m327.1 8) (m327.1 9) (m.1 6) (m327.1 10) by exact hLx) (show ∀ k, (m327.2 47) k + (m327.2 48) k ≤ 4000 by exact hPA) (show (0 : Int) = 0 ∨ (0 : Int) = 1 by omega) (fun (h : (m327.1 10) = 0) => absurd h (by omega)) (show 1000000 * (8 - (m327.1 10)) + 2 * (4000 - (m327.1 8)) + (0 : Int) < (n : Int) by omega)
                · skip
                  clear c99
                  have hf375 : 1 ≤ (m90.1 10) := by omega
                  refine T_ld 88 (.int (i32 v89)) rfl (fun _ => rfl) ?_
                  refine T_if 136 91 rfl rfl rfl (r32 (by omega) (by omega)) (fun (h376 : v89 = 0) => ?_) (fun (h376 : ¬ (v89 = 0)) => ?_)
                  · skip
                    refine T_ld 137 (.ref 189) rfl (fun _ => rfl) ?_
                    refine T_ld 139 (.int (i32 41)) rfl (fun _ => rfl) ?_
                    refine T_call 142 232 [.ref 189, .int (i32 41)] [] rfl (fun _ => rfl) rfl (c_need w (mO m [(7, (m90.1 7)), (8, (m90.1 8)), (9, (m90.1 9)), (10, (m90.1 10)), (11, (m90.1 11)), (12, (m90.1 12)), (13, y37), (25, (m.1 25) + 1), (28, (m.1 28)), (64, (m.1 64)), (69, (m.1 69)), (70, (m.1 70)), (71, (m.1 71)), (72, (m.1 72)), (73, (m.1 73)), (74, (m.1 74)), (75, (m.1 75)), (99, (m.1 99)), (100, (m.1 100))] [(14, F39), (15, F41), (16, F43), (17, F45), (46, (m90.2 46)), (47, (m90.2 47)), (48, (m90.2 48)), (49, (m90.2 49)), (50, upI (m.2 50) (m.1 25) 0), (65, (m.2 65)), (66, (m.2 66)), (67, (m.2 67)), (68, (m.2 68)), (76, (m.2 76)), (77, (m.2 77)), (78, (m.2 78)), (79, (m.2 79)), (80, (m.2 80)), (81, (m.2 81)), (82, (m.2 82)), (83, (m.2 83)), (84, (m.2 84)), (85, (m.2 85)), (86, (m.2 86)), (87, (m.2 87)), (88, (m.2 88)), (89, (m.2 89)), (90, (m.2 90)), (91, (m.2 91)), (92, (m.2 92)), (101, (m.2 101)), (102, (m.2 102)), (103, (m.2 103)), (104, (m.2 104)), (105, (m.2 105)), (106, (m.2 106)), (107, (m.2 107)), (108, (m.2 108)), (109, upI (m.2 109) (m.1 25) (m.1 99))]) c N D (by omega) (Ty_mO hT rfl rfl ⟨(q93.1 7), (q93.1 8), (q93.1 9), (q93.1 10), (q93.1 11), (q93.1 12), g38, g58, f28, f64, f69, f70, f71, f72, f73, f74, f75, f99, f100, trivial⟩ ⟨G40, G42, G44, G46, (q93.2.1 46), (q93.2.1 47), (q93.2.1 48), (q93.2.1 49), G61, (hT.2.1 65), (hT.2.1 66), (hT.2.1 67), (hT.2.1 68), (hT.2.1 76), (hT.2.1 77), (hT.2.1 78), (hT.2.1 79), (hT.2.1 80), (hT.2.1 81), (hT.2.1 82), (hT.2.1 83), (hT.2.1 84), (hT.2.1 85), (hT.2.1 86), (hT.2.1 87), (hT.2.1 88), (hT.2.1 89), (hT.2.1 90), (hT.2.1 91), (hT.2.1 92), (hT.2.1 101), (hT.2.1 102), (hT.2.1 103), (hT.2.1 104), (hT.2.1 105), (hT.2.1 106), (hT.2.1 107), (hT.2.1 108), G59, trivial⟩) 41 ⟨by decide, by decide⟩ (show 1 ≤ (41 : Int) by omega) (show LxP (m90.1 7) (m90.1 8) (m90.1 9) (m.1 6) (m90.1 10) by first | exact hLx | (intro h9; exfalso; omega) | (intro h9; have h8 := hLx (by omega); omega))) (fun rr377 k378 => ?_)
                    obtain ⟨y379, y381, y383, y385, y387, y389, g380, g382, g384, g386, g388, g390, h391, h392, h393, h394, rfl⟩ := k378
                    refine ⟨_, _, rfl, ?_⟩
                    refine T_nf2 (st' := []) (l' := [(7, y379), (8, y381), (9, y383), (10, y385), (11, y387), (12, y389), (13, y37), (25, (m.1 25) + 1), (28, (m.1 28)), (64, (m.1 64)), (69, (m.1 69)), (70, (m.1 70)), (71, (m.1 71)), (72, (m.1 72)), (73, (m.1 73)), (74, (m.1 74)), (75, (m.1 75)), (99, (m.1 99)), (100, (m.1 100))]) (a' := [(14, F39), (15, F41), (16, F43), (17, F45), (46, (m90.2 46)), (47, (m90.2 47)), (48, (m90.2 48)), (49, (m90.2 49)), (50, upI (m.2 50) (m.1 25) 0), (65, (m.2 65)), (66, (m.2 66)), (67, (m.2 67)), (68, (m.2 68)), (76, (m.2 76)), (77, (m.2 77)), (78, (m.2 78)), (79, (m.2 79)), (80, (m.2 80)), (81, (m.2 81)), (82, (m.2 82)), (83, (m.2 83)), (84, (m.2 84)), (85, (m.2 85)), (86, (m.2 86)), (87, (m.2 87)), (88, (m.2 88)), (89, (m.2 89)), (90, (m.2 90)), (91, (m.2 91)), (92, (m.2 92)), (101, (m.2 101)), (102, (m.2 102)), (103, (m.2 103)), (104, (m.2 104)), (105, (m.2 105)), (106, (m.2 106)), (107, (m.2 107)), (108, (m.2 108)), (109, upI (m.2 109) (m.1 25) (m.1 99))]) [7, 8, 9, 10, 11, 12] [] rfl ⟨rfl, rfl, rfl, rfl, rfl, rfl, rfl, rfl, rfl, rfl, rfl, rfl, rfl, rfl, rfl, rfl, rfl, rfl, rfl, rfl, rfl, rfl, rfl, rfl, rfl, rfl, rfl, rfl, rfl, rfl, rfl, rfl, rfl, rfl, rfl, rfl, rfl, rfl, trivial⟩ ⟨rfl, rfl, rfl, rfl, rfl, rfl, rfl, rfl, rfl, rfl, rfl, rfl, rfl, rfl, rfl, rfl, rfl, rfl, rfl, rfl, rfl, rfl, rfl, rfl, rfl, rfl, rfl, rfl, rfl, rfl, rfl, rfl, rfl, rfl, rfl, rfl, rfl, rfl, rfl, rfl, rfl, rfl, rfl, rfl, rfl, rfl, rfl, rfl, rfl, rfl, rfl, rfl, rfl, rfl, rfl, rfl, rfl, rfl, rfl, rfl, rfl, rfl, rfl, rfl, rfl, rfl, rfl, rfl, rfl, rfl, rfl, rfl, rfl, rfl, rfl, rfl, rfl, rfl, trivial⟩ rfl rfl (by decide) (by decide) ?_
                    replace h391 : LxP y379 y381 y383 (m.1 6) y385 := h391
                    replace h392 : y385 = 0 → (m90.1 10) = 0 ∧ (m90.1 7) = (41 : Int) := h392
                    replace h393 : (m90.1 8) ≤ y381 := h393
                    replace h394 : y385 = 0 → (m90.1 8) + (m90.1 9) ≤ y381 := h394
                    have hf395 : 1 ≤ y385 := by omega
                    clear h392
                    clear h394
                    have hLx := h391
                    clear g65 g67 g69 g73 g75 h76 u81 q85a q85b q85 ic86 ic87 q93_7 q93_9 q93_11 q93_12 ic96
                    refine T_ld 143 (.ref 189) rfl (fun _ => rfl) ?_
                    refine T_ld 145 (.int (i32 123)) rfl (fun _ => rfl) ?_
                    refine T_call 148 232 [.ref 189, .int (i32 123)] [] rfl (fun _ => rfl) rfl (c_need w (mO m [(7, y379), (8, y381), (9, y383), (10, y385), (11, y387), (12, y389), (13, y37), (25, (m.1 25) + 1), (28, (m.1 28)), (64, (m.1 64)), (69, (m.1 69)), (70, (m.1 70)), (71, (m.1 71)), (72, (m.1 72)), (73, (m.1 73)), (74, (m.1 74)), (75, (m.1 75)), (99, (m.1 99)), (100, (m.1 100))] [(14, F39), (15, F41), (16, F43), (17, F45), (46, (m90.2 46)), (47, (m90.2 47)), (48, (m90.2 48)), (49, (m90.2 49)), (50, upI (m.2 50) (m.1 25) 0), (65, (m.2 65)), (66, (m.2 66)), (67, (m.2 67)), (68, (m.2 68)), (76, (m.2 76)), (77, (m.2 77)), (78, (m.2 78)), (79, (m.2 79)), (80, (m.2 80)), (81, (m.2 81)), (82, (m.2 82)), (83, (m.2 83)), (84, (m.2 84)), (85, (m.2 85)), (86, (m.2 86)), (87, (m.2 87)), (88, (m.2 88)), (89, (m.2 89)), (90, (m.2 90)), (91, (m.2 91)), (92, (m.2 92)), (101, (m.2 101)), (102, (m.2 102)), (103, (m.2 103)), (104, (m.2 104)), (105, (m.2 105)), (106, (m.2 106)), (107, (m.2 107)), (108, (m.2 108)), (109, upI (m.2 109) (m.1 25) (m.1 99))]) c N D (by omega) (Ty_mO hT rfl rfl ⟨g380, g382, g384, g386, g388, g390, g38, g58, f28, f64, f69, f70, f71, f72, f73, f74, f75, f99, f100, trivial⟩ ⟨G40, G42, G44, G46, (q93.2.1 46), (q93.2.1 47), (q93.2.1 48), (q93.2.1 49), G61, (hT.2.1 65), (hT.2.1 66), (hT.2.1 67), (hT.2.1 68), (hT.2.1 76), (hT.2.1 77), (hT.2.1 78), (hT.2.1 79), (hT.2.1 80), (hT.2.1 81), (hT.2.1 82), (hT.2.1 83), (hT.2.1 84), (hT.2.1 85), (hT.2.1 86), (hT.2.1 87), (hT.2.1 88), (hT.2.1 89), (hT.2.1 90), (hT.2.1 91), (hT.2.1 92), (hT.2.1 101), (hT.2.1 102), (hT.2.1 103), (hT.2.1 104), (hT.2.1 105), (hT.2.1 106), (hT.2.1 107), (hT.2.1 108), G59, trivial⟩) 123 ⟨by decide, by decide⟩ (show 1 ≤ (123 : Int) by omega) (show LxP y379 y381 y383 (m.1 6) y385 by first | exact hLx | (intro h9; exfalso; omega) | (intro h9; have h8 := hLx (by omega); omega))) (fun rr396 k397 => ?_)
                    obtain ⟨y398, y400, y402, y404, y406, y408, g399, g401, g403, g405, g407, g409, h410, h411, h412, h413, rfl⟩ := k397
                    refine ⟨_, _, rfl, ?_⟩
                    refine T_nf2 (st' := []) (l' := [(7, y398), (8, y400), (9, y402), (10, y404), (11, y406), (12, y408), (13, y37), (25, (m.1 25) + 1), (28, (m.1 28)), (64, (m.1 64)), (69, (m.1 69)), (70, (m.1 70)), (71, (m.1 71)), (72, (m.1 72)), (73, (m.1 73)), (74, (m.1 74)), (75, (m.1 75)), (99, (m.1 99)), (100, (m.1 100))]) (a' := [(14, F39), (15, F41), (16, F43), (17, F45), (46, (m90.2 46)), (47, (m90.2 47)), (48, (m90.2 48)), (49, (m90.2 49)), (50, upI (m.2 50) (m.1 25) 0), (65, (m.2 65)), (66, (m.2 66)), (67, (m.2 67)), (68, (m.2 68)), (76, (m.2 76)), (77, (m.2 77)), (78, (m.2 78)), (79, (m.2 79)), (80, (m.2 80)), (81, (m.2 81)), (82, (m.2 82)), (83, (m.2 83)), (84, (m.2 84)), (85, (m.2 85)), (86, (m.2 86)), (87, (m.2 87)), (88, (m.2 88)), (89, (m.2 89)), (90, (m.2 90)), (91, (m.2 91)), (92, (m.2 92)), (101, (m.2 101)), (102, (m.2 102)), (103, (m.2 103)), (104, (m.2 104)), (105, (m.2 105)), (106, (m.2 106)), (107, (m.2 107)), (108, (m.2 108)), (109, upI (m.2 109) (m.1 25) (m.1 99))]) [7, 8, 9, 10, 11, 12] [] rfl ⟨rfl, rfl, rfl, rfl, rfl, rfl, rfl, rfl, rfl, rfl, rfl, rfl, rfl, rfl, rfl, rfl, rfl, rfl, rfl, rfl, rfl, rfl, rfl, rfl, rfl, rfl, rfl, rfl, rfl, rfl, rfl, rfl, rfl, rfl, rfl, rfl, rfl, rfl, trivial⟩ ⟨rfl, rfl, rfl, rfl, rfl, rfl, rfl, rfl, rfl, rfl, rfl, rfl, rfl, rfl, rfl, rfl, rfl, rfl, rfl, rfl, rfl, rfl, rfl, rfl, rfl, rfl, rfl, rfl, rfl, rfl, rfl, rfl, rfl, rfl, rfl, rfl, rfl, rfl, rfl, rfl, rfl, rfl, rfl, rfl, rfl, rfl, rfl, rfl, rfl, rfl, rfl, rfl, rfl, rfl, rfl, rfl, rfl, rfl, rfl, rfl, rfl, rfl, rfl, rfl, rfl, rfl, rfl, rfl, rfl, rfl, rfl, rfl, rfl, rfl, rfl, rfl, rfl, rfl, trivial⟩ rfl rfl (by decide) (by decide) ?_
                    replace h410 : LxP y398 y400 y402 (m.1 6) y404 := h410
                    replace h411 : y404 = 0 → y385 = 0 ∧ y379 = (123 : Int) := h411
                    replace h412 : y381 ≤ y400 := h412
                    replace h413 : y404 = 0 → y381 + y383 ≤ y400 := h413
                    have hf414 : 1 ≤ y404 := by omega
                    clear h411
                    clear h413
                    have hLx := h410
                    clear g380 g382 g384 g386 g388 g390 hf395 h391 h393 h412
                    refine T_ld 149 (.ref 189) rfl (fun _ => rfl) ?_
                    refine T_ld 150 (.int (i32 (m.1 25))) rfl (fun _ => rfl) ?_
                    refine T_pf (l' := [(7, y398), (8, y400), (9, y402), (10, y404), (11, y406), (12, y408), (13, y37), (25, (m.1 25) + 1), (28, (m.1 28)), (64, (m.1 25)), (69, (m.1 69)), (70, (m.1 70)), (71, (m.1 71)), (72, (m.1 72)), (73, (m.1 73)), (74, (m.1 74)), (75, (m.1 75)), (99, (m.1 99)), (100, (m.1 100))]) 153 (m.1 25) rfl rfl rfl rfl rfl rfl ?_
                    have g415 : (-1) ≤ (m.1 25) ∧ (m.1 25) ≤ 15 := ⟨by omega, by omega⟩
                    refine T_gf 157 (.int (i32 y404)) rfl rfl rfl rfl rfl rfl ?_
                    refine T_if 211 160 rfl rfl rfl (r32 (by omega) (by omega)) (fun (h416 : y404 ≠ 0) => ?_) (fun (h416 : ¬ (y404 ≠ 0)) => by exfalso; omega)
                    refine T_ld 212 (.ref 189) rfl (fun _ => rfl) ?_
                    refine T_ld 213 (.int (i32 (-1))) rfl (fun _ => rfl) ?_
                    refine T_pf (l' := [(7, y398), (8, y400), (9, y402), (10, y404), (11, y406), (12, y408), (13, y37), (25, (m.1 25) + 1), (28, (m.1 28)), (64, (-1)), (69, (m.1 69)), (70, (m.1 70)), (71, (m.1 71)), (72, (m.1 72)), (73, (m.1 73)), (74, (m.1 74)), (75, (m.1 75)), (99, (m.1 99)), (100, (m.1 100))]) 216 (-1) rfl rfl rfl rfl rfl rfl ?_
                    refine T_ld 217 (.ref 189) rfl (fun _ => rfl) ?_
                    refine T_ld 219 (.int (i32 125)) rfl (fun _ => rfl) ?_
                    refine T_call 222 232 [.ref 189, .int (i32 125)] [] rfl (fun _ => rfl) rfl (c_need w (mO m [(7, y398), (8, y400), (9, y402), (10, y404), (11, y406), (12, y408), (13, y37), (25, (m.1 25) + 1), (28, (m.1 28)), (64, (-1)), (69, (m.1 69)), (70, (m.1 70)), (71, (m.1 71)), (72, (m.1 72)), (73, (m.1 73)), (74, (m.1 74)), (75, (m.1 75)), (99, (m.1 99)), (100, (m.1 100))] [(14, F39), (15, F41), (16, F43), (17, F45), (46, (m90.2 46)), (47, (m90.2 47)), (48, (m90.2 48)), (49, (m90.2 49)), (50, upI (m.2 50) (m.1 25) 0), (65, (m.2 65)), (66, (m.2 66)), (67, (m.2 67)), (68, (m.2 68)), (76, (m.2 76)), (77, (m.2 77)), (78, (m.2 78)), (79, (m.2 79)), (80, (m.2 80)), (81, (m.2 81)), (82, (m.2 82)), (83, (m.2 83)), (84, (m.2 84)), (85, (m.2 85)), (86, (m.2 86)), (87, (m.2 87)), (88, (m.2 88)), (89, (m.2 89)), (90, (m.2 90)), (91, (m.2 91)), (92, (m.2 92)), (101, (m.2 101)), (102, (m.2 102)), (103, (m.2 103)), (104, (m.2 104)), (105, (m.2 105)), (106, (m.2 106)), (107, (m.2 107)), (108, (m.2 108)), (109, upI (m.2 109) (m.1 25) (m.1 99))]) c N D (by omega) (Ty_mO hT rfl rfl ⟨g399, g401, g403, g405, g407, g409, g38, g58, f28, ⟨(by omega : ((-1) : Int) ≤ (-1)), (by omega : ((-1) : Int) ≤ 15)⟩, f69, f70, f71, f72, f73, f74, f75, f99, f100, trivial⟩ ⟨G40, G42, G44, G46, (q93.2.1 46), (q93.2.1 47), (q93.2.1 48), (q93.2.1 49), G61, (hT.2.1 65), (hT.2.1 66), (hT.2.1 67), (hT.2.1 68), (hT.2.1 76), (hT.2.1 77), (hT.2.1 78), (hT.2.1 79), (hT.2.1 80), (hT.2.1 81), (hT.2.1 82), (hT.2.1 83), (hT.2.1 84), (hT.2.1 85), (hT.2.1 86), (hT.2.1 87), (hT.2.1 88), (hT.2.1 89), (hT.2.1 90), (hT.2.1 91), (hT.2.1 92), (hT.2.1 101), (hT.2.1 102), (hT.2.1 103), (hT.2.1 104), (hT.2.1 105), (hT.2.1 106), (hT.2.1 107), (hT.2.1 108), G59, trivial⟩) 125 ⟨by decide, by decide⟩ (show 1 ≤ (125 : Int) by omega) (show LxP y398 y400 y402 (m.1 6) y404 by first | exact hLx | (intro h9; exfalso; omega) | (intro h9; have h8 := hLx (by omega); omega))) (fun rr417 k418 => ?_)
                    obtain ⟨y419, y421, y423, y425, y427, y429, g420, g422, g424, g426, g428, g430, h431, h432, h433, h434, rfl⟩ := k418
                    refine ⟨_, _, rfl, ?_⟩
                    refine T_nf2 (st' := []) (l' := [(7, y419), (8, y421), (9, y423), (10, y425), (11, y427), (12, y429), (13, y37), (25, (m.1 25) + 1), (28, (m.1 28)), (64, (-1)), (69, (m.1 69)), (70, (m.1 70)), (71, (m.1 71)), (72, (m.1 72)), (73, (m.1 73)), (74, (m.1 74)), (75, (m.1 75)), (99, (m.1 99)), (100, (m.1 100))]) (a' := [(14, F39), (15, F41), (16, F43), (17, F45), (46, (m90.2 46)), (47, (m90.2 47)), (48, (m90.2 48)), (49, (m90.2 49)), (50, upI (m.2 50) (m.1 25) 0), (65, (m.2 65)), (66, (m.2 66)), (67, (m.2 67)), (68, (m.2 68)), (76, (m.2 76)), (77, (m.2 77)), (78, (m.2 78)), (79, (m.2 79)), (80, (m.2 80)), (81, (m.2 81)), (82, (m.2 82)), (83, (m.2 83)), (84, (m.2 84)), (85, (m.2 85)), (86, (m.2 86)), (87, (m.2 87)), (88, (m.2 88)), (89, (m.2 89)), (90, (m.2 90)), (91, (m.2 91)), (92, (m.2 92)), (101, (m.2 101)), (102, (m.2 102)), (103, (m.2 103)), (104, (m.2 104)), (105, (m.2 105)), (106, (m.2 106)), (107, (m.2 107)), (108, (m.2 108)), (109, upI (m.2 109) (m.1 25) (m.1 99))]) [7, 8, 9, 10, 11, 12] [] rfl ⟨rfl, rfl, rfl, rfl, rfl, rfl, rfl, rfl, rfl, rfl, rfl, rfl, rfl, rfl, rfl, rfl, rfl, rfl, rfl, rfl, rfl, rfl, rfl, rfl, rfl, rfl, rfl, rfl, rfl, rfl, rfl, rfl, rfl, rfl, rfl, rfl, rfl, rfl, trivial⟩ ⟨rfl, rfl, rfl, rfl, rfl, rfl, rfl, rfl, rfl, rfl, rfl, rfl, rfl, rfl, rfl, rfl, rfl, rfl, rfl, rfl, rfl, rfl, rfl, rfl, rfl, rfl, rfl, rfl, rfl, rfl, rfl, rfl, rfl, rfl, rfl, rfl, rfl, rfl, rfl, rfl, rfl, rfl, rfl, rfl, rfl, rfl, rfl, rfl, rfl, rfl, rfl, rfl, rfl, rfl, rfl, rfl, rfl, rfl, rfl, rfl, rfl, rfl, rfl, rfl, rfl, rfl, rfl, rfl, rfl, rfl, rfl, rfl, rfl, rfl, rfl, rfl, rfl, rfl, trivial⟩ rfl rfl (by decide) (by decide) ?_
                    replace h431 : LxP y419 y421 y423 (m.1 6) y425 := h431
                    replace h432 : y425 = 0 → y404 = 0 ∧ y398 = (125 : Int) := h432
                    replace h433 : y400 ≤ y421 := h433
                    replace h434 : y425 = 0 → y400 + y402 ≤ y421 := h434
                    have hf435 : 1 ≤ y425 := by omega
                    clear h432
                    clear h434
                    have hLx := h431
                    clear g399 g401 g403 g405 g407 g409 hf414 h410 h416 h433
                    refine T_ret rfl (fun _ => rfl) ?_
                    exact ⟨(mO m [(7, y419), (8, y421), (9, y423), (10, y425), (11, y427), (12, y429), (13, y37), (25, (m.1 25) + 1), (28, (m.1 28)), (64, (-1)), (69, (m.1 69)), (70, (m.1 70)), (71, (m.1 71)), (72, (m.1 72)), (73, (m.1 73)), (74, (m.1 74)), (75, (m.1 75)), (99, (m.1 99)), (100, (m.1 100))] [(14, F39), (15, F41), (16, F43), (17, F45), (46, (m90.2 46)), (47, (m90.2 47)), (48, (m90.2 48)), (49, (m90.2 49)), (50, upI (m.2 50) (m.1 25) 0), (65, (m.2 65)), (66, (m.2 66)), (67, (m.2 67)), (68, (m.2 68)), (76, (m.2 76)), (77, (m.2 77)), (78, (m.2 78)), (79, (m.2 79)), (80, (m.2 80)), (81, (m.2 81)), (82, (m.2 82)), (83, (m.2 83)), (84, (m.2 84)), (85, (m.2 85)), (86, (m.2 86)), (87, (m.2 87)), (88, (m.2 88)), (89, (m.2 89)), (90, (m.2 90)), (91, (m.2 91)), (92, (m.2 92)), (101, (m.2 101)), (102, (m.2 102)), (103, (m.2 103)), (104, (m.2 104)), (105, (m.2 105)), (106, (m.2 106)), (107, (m.2 107)), (108, (m.2 108)), (109, upI (m.2 109) (m.1 25) (m.1 99))]), (Ty_mO hT rfl rfl ⟨g420, g422, g424, g426, g428, g430, g38, g58, f28, ⟨(by omega : ((-1) : Int) ≤ (-1)), (by omega : ((-1) : Int) ≤ 15)⟩, f69, f70, f71, f72, f73, f74, f75, f99, f100, trivial⟩ ⟨G40, G42, G44, G46, (q93.2.1 46), (q93.2.1 47), (q93.2.1 48), (q93.2.1 49), G61, (hT.2.1 65), (hT.2.1 66), (hT.2.1 67), (hT.2.1 68), (hT.2.1 76), (hT.2.1 77), (hT.2.1 78), (hT.2.1 79), (hT.2.1 80), (hT.2.1 81), (hT.2.1 82), (hT.2.1 83), (hT.2.1 84), (hT.2.1 85), (hT.2.1 86), (hT.2.1 87), (hT.2.1 88), (hT.2.1 89), (hT.2.1 90), (hT.2.1 91), (hT.2.1 92), (hT.2.1 101), (hT.2.1 102), (hT.2.1 103), (hT.2.1 104), (hT.2.1 105), (hT.2.1 106), (hT.2.1 107), (hT.2.1 108), G59, trivial⟩), (show y425 = 0 → (m.1 10) = 0 by omega), (show LxP y419 y421 y423 (m.1 6) y425 by first | (first | exact hLx | exact (fun _ => hLx (by omega)) | (intro h9; exfalso; omega)) | (exfalso; omega)), (show ∀ k, F39 k + F41 k ≤ 4000 by first | (exact hNM) | (exfalso; omega)), (show ∀ k, (m90.2 47) k + (m90.2 48) k ≤ 4000 by first | (exact hPA) | (exfalso; omega)), (fun (h : y425 = 0) => absurd h (by omega)), rfl⟩
                  · skip
                    refine T_gf 95 (.int (i32 (m90.1 10))) rfl rfl rfl rfl rfl rfl ?_
                    refine T_if 136 98 rfl rfl rfl (r32 (by omega) (by omega)) (fun (h436 : (m90.1 10) ≠ 0) => ?_) (fun (h436 : ¬ ((m90.1 10) ≠ 0)) => by exfalso; omega)
                    refine T_ld 137 (.ref 189) rfl (fun _ => rfl) ?_
                    refine T_ld 139 (.int (i32 41)) rfl (fun _ => rfl) ?_
                    refine T_call 142 232 [.ref 189, .int (i32 41)] [] rfl (fun _ => rfl) rfl (c_need w (mO m [(7, (m90.1 7)), (8, (m90.1 8)), (9, (m90.1 9)), (10, (m90.1 10)), (11, (m90.1 11)), (12, (m90.1 12)), (13, y37), (25, (m.1 25) + 1), (28, (m.1 28)), (64, (m.1 64)), (69, (m.1 69)), (70, (m.1 70)), (71, (m.1 71)), (72, (m.1 72)), (73, (m.1 73)), (74, (m.1 74)), (75, (m.1 75)), (99, (m.1 99)), (100, (m.1 100))] [(14, F39), (15, F41), (16, F43), (17, F45), (46, (m90.2 46)), (47, (m90.2 47)), (48, (m90.2 48)), (49, (m90.2 49)), (50, upI (m.2 50) (m.1 25) 0), (65, (m.2 65)), (66, (m.2 66)), (67, (m.2 67)), (68, (m.2 68)), (76, (m.2 76)), (77, (m.2 77)), (78, (m.2 78)), (79, (m.2 79)), (80, (m.2 80)), (81, (m.2 81)), (82, (m.2 82)), (83, (m.2 83)), (84, (m.2 84)), (85, (m.2 85)), (86, (m.2 86)), (87, (m.2 87)), (88, (m.2 88)), (89, (m.2 89)), (90, (m.2 90)), (91, (m.2 91)), (92, (m.2 92)), (101, (m.2 101)), (102, (m.2 102)), (103, (m.2 103)), (104, (m.2 104)), (105, (m.2 105)), (106, (m.2 106)), (107, (m.2 107)), (108, (m.2 108)), (109, upI (m.2 109) (m.1 25) (m.1 99))]) c N D (by omega) (Ty_mO hT rfl rfl ⟨(q93.1 7), (q93.1 8), (q93.1 9), (q93.1 10), (q93.1 11), (q93.1 12), g38, g58, f28, f64, f69, f70, f71, f72, f73, f74, f75, f99, f100, trivial⟩ ⟨G40, G42, G44, G46, (q93.2.1 46), (q93.2.1 47), (q93.2.1 48), (q93.2.1 49), G61, (hT.2.1 65), (hT.2.1 66), (hT.2.1 67), (hT.2.1 68), (hT.2.1 76), (hT.2.1 77), (hT.2.1 78), (hT.2.1 79), (hT.2.1 80), (hT.2.1 81), (hT.2.1 82), (hT.2.1 83), (hT.2.1 84), (hT.2.1 85), (hT.2.1 86), (hT.2.1 87), (hT.2.1 88), (hT.2.1 89), (hT.2.1 90), (hT.2.1 91), (hT.2.1 92), (hT.2.1 101), (hT.2.1 102), (hT.2.1 103), (hT.2.1 104), (hT.2.1 105), (hT.2.1 106), (hT.2.1 107), (hT.2.1 108), G59, trivial⟩) 41 ⟨by decide, by decide⟩ (show 1 ≤ (41 : Int) by omega) (show LxP (m90.1 7) (m90.1 8) (m90.1 9) (m.1 6) (m90.1 10) by first | exact hLx | (intro h9; exfalso; omega) | (intro h9; have h8 := hLx (by omega); omega))) (fun rr437 k438 => ?_)
                    obtain ⟨y439, y441, y443, y445, y447, y449, g440, g442, g444, g446, g448, g450, h451, h452, h453, h454, rfl⟩ := k438
                    refine ⟨_, _, rfl, ?_⟩
                    refine T_nf2 (st' := []) (l' := [(7, y439), (8, y441), (9, y443), (10, y445), (11, y447), (12, y449), (13, y37), (25, (m.1 25) + 1), (28, (m.1 28)), (64, (m.1 64)), (69, (m.1 69)), (70, (m.1 70)), (71, (m.1 71)), (72, (m.1 72)), (73, (m.1 73)), (74, (m.1 74)), (75, (m.1 75)), (99, (m.1 99)), (100, (m.1 100))]) (a' := [(14, F39), (15, F41), (16, F43), (17, F45), (46, (m90.2 46)), (47, (m90.2 47)), (48, (m90.2 48)), (49, (m90.2 49)), (50, upI (m.2 50) (m.1 25) 0), (65, (m.2 65)), (66, (m.2 66)), (67, (m.2 67)), (68, (m.2 68)), (76, (m.2 76)), (77, (m.2 77)), (78, (m.2 78)), (79, (m.2 79)), (80, (m.2 80)), (81, (m.2 81)), (82, (m.2 82)), (83, (m.2 83)), (84, (m.2 84)), (85, (m.2 85)), (86, (m.2 86)), (87, (m.2 87)), (88, (m.2 88)), (89, (m.2 89)), (90, (m.2 90)), (91, (m.2 91)), (92, (m.2 92)), (101, (m.2 101)), (102, (m.2 102)), (103, (m.2 103)), (104, (m.2 104)), (105, (m.2 105)), (106, (m.2 106)), (107, (m.2 107)), (108, (m.2 108)), (109, upI (m.2 109) (m.1 25) (m.1 99))]) [7, 8, 9, 10, 11, 12] [] rfl ⟨rfl, rfl, rfl, rfl, rfl, rfl, rfl, rfl, rfl, rfl, rfl, rfl, rfl, rfl, rfl, rfl, rfl, rfl, rfl, rfl, rfl, rfl, rfl, rfl, rfl, rfl, rfl, rfl, rfl, rfl, rfl, rfl, rfl, rfl, rfl, rfl, rfl, rfl, trivial⟩ ⟨rfl, rfl, rfl, rfl, rfl, rfl, rfl, rfl, rfl, rfl, rfl, rfl, rfl, rfl, rfl, rfl, rfl, rfl, rfl, rfl, rfl, rfl, rfl, rfl, rfl, rfl, rfl, rfl, rfl, rfl, rfl, rfl, rfl, rfl, rfl, rfl, rfl, rfl, rfl, rfl, rfl, rfl, rfl, rfl, rfl, rfl, rfl, rfl, rfl, rfl, rfl, rfl, rfl, rfl, rfl, rfl, rfl, rfl, rfl, rfl, rfl, rfl, rfl, rfl, rfl, rfl, rfl, rfl, rfl, rfl, rfl, rfl, rfl, rfl, rfl, rfl, rfl, rfl, trivial⟩ rfl rfl (by decide) (by decide) ?_
                    replace h451 : LxP y439 y441 y443 (m.1 6) y445 := h451
                    replace h452 : y445 = 0 → (m90.1 10) = 0 ∧ (m90.1 7) = (41 : Int) := h452
                    replace h453 : (m90.1 8) ≤ y441 := h453
                    replace h454 : y445 = 0 → (m90.1 8) + (m90.1 9) ≤ y441 := h454
                    have hf455 : 1 ≤ y445 := by omega
                    clear h452
                    clear h454
                    have hLx := h451
                    clear g65 g67 g69 g73 g75 h76 u81 q85a q85b q85 ic86 ic87 q93_7 q93_9 q93_11 q93_12 ic96
                    refine T_ld 143 (.ref 189) rfl (fun _ => rfl) ?_
                    refine T_ld 145 (.int (i32 123)) rfl (fun _ => rfl) ?_
                    refine T_call 148 232 [.ref 189, .int (i32 123)] [] rfl (fun _ => rfl) rfl (c_need w (mO m [(7, y439), (8, y441), (9, y443), (10, y445), (11, y447), (12, y449), (13, y37), (25, (m.1 25) + 1), (28, (m.1 28)), (64, (m.1 64)), (69, (m.1 69)), (70, (m.1 70)), (71, (m.1 71)), (72, (m.1 72)), (73, (m.1 73)), (74, (m.1 74)), (75, (m.1 75)), (99, (m.1 99)), (100, (m.1 100))] [(14, F39), (15, F41), (16, F43), (17, F45), (46, (m90.2 46)), (47, (m90.2 47)), (48, (m90.2 48)), (49, (m90.2 49)), (50, upI (m.2 50) (m.1 25) 0), (65, (m.2 65)), (66, (m.2 66)), (67, (m.2 67)), (68, (m.2 68)), (76, (m.2 76)), (77, (m.2 77)), (78, (m.2 78)), (79, (m.2 79)), (80, (m.2 80)), (81, (m.2 81)), (82, (m.2 82)), (83, (m.2 83)), (84, (m.2 84)), (85, (m.2 85)), (86, (m.2 86)), (87, (m.2 87)), (88, (m.2 88)), (89, (m.2 89)), (90, (m.2 90)), (91, (m.2 91)), (92, (m.2 92)), (101, (m.2 101)), (102, (m.2 102)), (103, (m.2 103)), (104, (m.2 104)), (105, (m.2 105)), (106, (m.2 106)), (107, (m.2 107)), (108, (m.2 108)), (109, upI (m.2 109) (m.1 25) (m.1 99))]) c N D (by omega) (Ty_mO hT rfl rfl ⟨g440, g442, g444, g446, g448, g450, g38, g58, f28, f64, f69, f70, f71, f72, f73, f74, f75, f99, f100, trivial⟩ ⟨G40, G42, G44, G46, (q93.2.1 46), (q93.2.1 47), (q93.2.1 48), (q93.2.1 49), G61, (hT.2.1 65), (hT.2.1 66), (hT.2.1 67), (hT.2.1 68), (hT.2.1 76), (hT.2.1 77), (hT.2.1 78), (hT.2.1 79), (hT.2.1 80), (hT.2.1 81), (hT.2.1 82), (hT.2.1 83), (hT.2.1 84), (hT.2.1 85), (hT.2.1 86), (hT.2.1 87), (hT.2.1 88), (hT.2.1 89), (hT.2.1 90), (hT.2.1 91), (hT.2.1 92), (hT.2.1 101), (hT.2.1 102), (hT.2.1 103), (hT.2.1 104), (hT.2.1 105), (hT.2.1 106), (hT.2.1 107), (hT.2.1 108), G59, trivial⟩) 123 ⟨by decide, by decide⟩ (show 1 ≤ (123 : Int) by omega) (show LxP y439 y441 y443 (m.1 6) y445 by first | exact hLx | (intro h9; exfalso; omega) | (intro h9; have h8 := hLx (by omega); omega))) (fun rr456 k457 => ?_)
                    obtain ⟨y458, y460, y462, y464, y466, y468, g459, g461, g463, g465, g467, g469, h470, h471, h472, h473, rfl⟩ := k457
                    refine ⟨_, _, rfl, ?_⟩
                    refine T_nf2 (st' := []) (l' := [(7, y458), (8, y460), (9, y462), (10, y464), (11, y466), (12, y468), (13, y37), (25, (m.1 25) + 1), (28, (m.1 28)), (64, (m.1 64)), (69, (m.1 69)), (70, (m.1 70)), (71, (m.1 71)), (72, (m.1 72)), (73, (m.1 73)), (74, (m.1 74)), (75, (m.1 75)), (99, (m.1 99)), (100, (m.1 100))]) (a' := [(14, F39), (15, F41), (16, F43), (17, F45), (46, (m90.2 46)), (47, (m90.2 47)), (48, (m90.2 48)), (49, (m90.2 49)), (50, upI (m.2 50) (m.1 25) 0), (65, (m.2 65)), (66, (m.2 66)), (67, (m.2 67)), (68, (m.2 68)), (76, (m.2 76)), (77, (m.2 77)), (78, (m.2 78)), (79, (m.2 79)), (80, (m.2 80)), (81, (m.2 81)), (82, (m.2 82)), (83, (m.2 83)), (84, (m.2 84)), (85, (m.2 85)), (86, (m.2 86)), (87, (m.2 87)), (88, (m.2 88)), (89, (m.2 89)), (90, (m.2 90)), (91, (m.2 91)), (92, (m.2 92)), (101, (m.2 101)), (102, (m.2 102)), (103, (m.2 103)), (104, (m.2 104)), (105, (m.2 105)), (106, (m.2 106)), (107, (m.2 107)), (108, (m.2 108)), (109, upI (m.2 109) (m.1 25) (m.1 99))]) [7, 8, 9, 10, 11, 12] [] rfl ⟨rfl, rfl, rfl, rfl, rfl, rfl, rfl, rfl, rfl, rfl, rfl, rfl, rfl, rfl, rfl, rfl, rfl, rfl, rfl, rfl, rfl, rfl, rfl, rfl, rfl, rfl, rfl, rfl, rfl, rfl, rfl, rfl, rfl, rfl, rfl, rfl, rfl, rfl, trivial⟩ ⟨rfl, rfl, rfl, rfl, rfl, rfl, rfl, rfl, rfl, rfl, rfl, rfl, rfl, rfl, rfl, rfl, rfl, rfl, rfl, rfl, rfl, rfl, rfl, rfl, rfl, rfl, rfl, rfl, rfl, rfl, rfl, rfl, rfl, rfl, rfl, rfl, rfl, rfl, rfl, rfl, rfl, rfl, rfl, rfl, rfl, rfl, rfl, rfl, rfl, rfl, rfl, rfl, rfl, rfl, rfl, rfl, rfl, rfl, rfl, rfl, rfl, rfl, rfl, rfl, rfl, rfl, rfl, rfl, rfl, rfl, rfl, rfl, rfl, rfl, rfl, rfl, rfl, rfl, trivial⟩ rfl rfl (by decide) (by decide) ?_
                    replace h470 : LxP y458 y460 y462 (m.1 6) y464 := h470
                    replace h471 : y464 = 0 → y445 = 0 ∧ y439 = (123 : Int) := h471
                    replace h472 : y441 ≤ y460 := h472
                    replace h473 : y464 = 0 → y441 + y443 ≤ y460 := h473
                    have hf474 : 1 ≤ y464 := by omega
                    clear h471
                    clear h473
                    have hLx := h470
                    clear g440 g442 g444 g446 g448 g450 hf455 h451 h453 h472
                    refine T_ld 149 (.ref 189) rfl (fun _ => rfl) ?_
                    refine T_ld 150 (.int (i32 (m.1 25))) rfl (fun _ => rfl) ?_
                    refine T_pf (l' := [(7, y458), (8, y460), (9, y462), (10, y464), (11, y466), (12, y468), (13, y37), (25, (m.1 25) + 1), (28, (m.1 28)), (64, (m.1 25)), (69, (m.1 69)), (70, (m.1 70)), (71, (m.1 71)), (72, (m.1 72)), (73, (m.1 73)), (74, (m.1 74)), (75, (m.1 75)), (99, (m.1 99)), (100, (m.1 100))]) 153 (m.1 25) rfl rfl rfl rfl rfl rfl ?_
                    have g475 : (-1) ≤ (m.1 25) ∧ (m.1 25) ≤ 15 := ⟨by omega, by omega⟩
                    refine T_gf 157 (.int (i32 y464)) rfl rfl rfl rfl rfl rfl ?_
                    refine T_if 211 160 rfl rfl rfl (r32 (by omega) (by omega)) (fun (h476 : y464 ≠ 0) => ?_) (fun (h476 : ¬ (y464 ≠ 0)) => by exfalso; omega)
                    refine T_ld 212 (.ref 189) rfl (fun _ => rfl) ?_
                    refine T_ld 213 (.int (i32 (-1))) rfl (fun _ => rfl) ?_
                    refine T_pf (l' := [(7, y458), (8, y460), (9, y462), (10, y464), (11, y466), (12, y468), (13, y37), (25, (m.1 25) + 1), (28, (m.1 28)), (64, (-1)), (69, (m.1 69)), (70, (m.1 70)), (71, (m.1 71)), (72, (m.1 72)), (73, (m.1 73)), (74, (m.1 74)), (75, (m.1 75)), (99, (m.1 99)), (100, (m.1 100))]) 216 (-1) rfl rfl rfl rfl rfl rfl ?_
                    refine T_ld 217 (.ref 189) rfl (fun _ => rfl) ?_
                    refine T_ld 219 (.int (i32 125)) rfl (fun _ => rfl) ?_
                    refine T_call 222 232 [.ref 189, .int (i32 125)] [] rfl (fun _ => rfl) rfl (c_need w (mO m [(7, y458), (8, y460), (9, y462), (10, y464), (11, y466), (12, y468), (13, y37), (25, (m.1 25) + 1), (28, (m.1 28)), (64, (-1)), (69, (m.1 69)), (70, (m.1 70)), (71, (m.1 71)), (72, (m.1 72)), (73, (m.1 73)), (74, (m.1 74)), (75, (m.1 75)), (99, (m.1 99)), (100, (m.1 100))] [(14, F39), (15, F41), (16, F43), (17, F45), (46, (m90.2 46)), (47, (m90.2 47)), (48, (m90.2 48)), (49, (m90.2 49)), (50, upI (m.2 50) (m.1 25) 0), (65, (m.2 65)), (66, (m.2 66)), (67, (m.2 67)), (68, (m.2 68)), (76, (m.2 76)), (77, (m.2 77)), (78, (m.2 78)), (79, (m.2 79)), (80, (m.2 80)), (81, (m.2 81)), (82, (m.2 82)), (83, (m.2 83)), (84, (m.2 84)), (85, (m.2 85)), (86, (m.2 86)), (87, (m.2 87)), (88, (m.2 88)), (89, (m.2 89)), (90, (m.2 90)), (91, (m.2 91)), (92, (m.2 92)), (101, (m.2 101)), (102, (m.2 102)), (103, (m.2 103)), (104, (m.2 104)), (105, (m.2 105)), (106, (m.2 106)), (107, (m.2 107)), (108, (m.2 108)), (109, upI (m.2 109) (m.1 25) (m.1 99))]) c N D (by omega) (Ty_mO hT rfl rfl ⟨g459, g461, g463, g465, g467, g469, g38, g58, f28, ⟨(by omega : ((-1) : Int) ≤ (-1)), (by omega : ((-1) : Int) ≤ 15)⟩, f69, f70, f71, f72, f73, f74, f75, f99, f100, trivial⟩ ⟨G40, G42, G44, G46, (q93.2.1 46), (q93.2.1 47), (q93.2.1 48), (q93.2.1 49), G61, (hT.2.1 65), (hT.2.1 66), (hT.2.1 67), (hT.2.1 68), (hT.2.1 76), (hT.2.1 77), (hT.2.1 78), (hT.2.1 79), (hT.2.1 80), (hT.2.1 81), (hT.2.1 82), (hT.2.1 83), (hT.2.1 84), (hT.2.1 85), (hT.2.1 86), (hT.2.1 87), (hT.2.1 88), (hT.2.1 89), (hT.2.1 90), (hT.2.1 91), (hT.2.1 92), (hT.2.1 101), (hT.2.1 102), (hT.2.1 103), (hT.2.1 104), (hT.2.1 105), (hT.2.1 106), (hT.2.1 107), (hT.2.1 108), G59, trivial⟩) 125 ⟨by decide, by decide⟩ (show 1 ≤ (125 : Int) by omega) (show LxP y458 y460 y462 (m.1 6) y464 by first | exact hLx | (intro h9; exfalso; omega) | (intro h9; have h8 := hLx (by omega); omega))) (fun rr477 k478 => ?_)
                    obtain ⟨y479, y481, y483, y485, y487, y489, g480, g482, g484, g486, g488, g490, h491, h492, h493, h494, rfl⟩ := k478
                    refine ⟨_, _, rfl, ?_⟩
                    refine T_nf2 (st' := []) (l' := [(7, y479), (8, y481), (9, y483), (10, y485), (11, y487), (12, y489), (13, y37), (25, (m.1 25) + 1), (28, (m.1 28)), (64, (-1)), (69, (m.1 69)), (70, (m.1 70)), (71, (m.1 71)), (72, (m.1 72)), (73, (m.1 73)), (74, (m.1 74)), (75, (m.1 75)), (99, (m.1 99)), (100, (m.1 100))]) (a' := [(14, F39), (15, F41), (16, F43), (17, F45), (46, (m90.2 46)), (47, (m90.2 47)), (48, (m90.2 48)), (49, (m90.2 49)), (50, upI (m.2 50) (m.1 25) 0), (65, (m.2 65)), (66, (m.2 66)), (67, (m.2 67)), (68, (m.2 68)), (76, (m.2 76)), (77, (m.2 77)), (78, (m.2 78)), (79, (m.2 79)), (80, (m.2 80)), (81, (m.2 81)), (82, (m.2 82)), (83, (m.2 83)), (84, (m.2 84)), (85, (m.2 85)), (86, (m.2 86)), (87, (m.2 87)), (88, (m.2 88)), (89, (m.2 89)), (90, (m.2 90)), (91, (m.2 91)), (92, (m.2 92)), (101, (m.2 101)), (102, (m.2 102)), (103, (m.2 103)), (104, (m.2 104)), (105, (m.2 105)), (106, (m.2 106)), (107, (m.2 107)), (108, (m.2 108)), (109, upI (m.2 109) (m.1 25) (m.1 99))]) [7, 8, 9, 10, 11, 12] [] rfl ⟨rfl, rfl, rfl, rfl, rfl, rfl, rfl, rfl, rfl, rfl, rfl, rfl, rfl, rfl, rfl, rfl, rfl, rfl, rfl, rfl, rfl, rfl, rfl, rfl, rfl, rfl, rfl, rfl, rfl, rfl, rfl, rfl, rfl, rfl, rfl, rfl, rfl, rfl, trivial⟩ ⟨rfl, rfl, rfl, rfl, rfl, rfl, rfl, rfl, rfl, rfl, rfl, rfl, rfl, rfl, rfl, rfl, rfl, rfl, rfl, rfl, rfl, rfl, rfl, rfl, rfl, rfl, rfl, rfl, rfl, rfl, rfl, rfl, rfl, rfl, rfl, rfl, rfl, rfl, rfl, rfl, rfl, rfl, rfl, rfl, rfl, rfl, rfl, rfl, rfl, rfl, rfl, rfl, rfl, rfl, rfl, rfl, rfl, rfl, rfl, rfl, rfl, rfl, rfl, rfl, rfl, rfl, rfl, rfl, rfl, rfl, rfl, rfl, rfl, rfl, rfl, rfl, rfl, rfl, trivial⟩ rfl rfl (by decide) (by decide) ?_
                    replace h491 : LxP y479 y481 y483 (m.1 6) y485 := h491
                    replace h492 : y485 = 0 → y464 = 0 ∧ y458 = (125 : Int) := h492
                    replace h493 : y460 ≤ y481 := h493
                    replace h494 : y485 = 0 → y460 + y462 ≤ y481 := h494
                    have hf495 : 1 ≤ y485 := by omega
                    clear h492
                    clear h494
                    have hLx := h491
                    clear g459 g461 g463 g465 g467 g469 hf474 h470 h476 h493
                    refine T_ret rfl (fun _ => rfl) ?_
                    exact ⟨(mO m [(7, y479), (8, y481), (9, y483), (10, y485), (11, y487), (12, y489), (13, y37), (25, (m.1 25) + 1), (28, (m.1 28)), (64, (-1)), (69, (m.1 69)), (70, (m.1 70)), (71, (m.1 71)), (72, (m.1 72)), (73, (m.1 73)), (74, (m.1 74)), (75, (m.1 75)), (99, (m.1 99)), (100, (m.1 100))] [(14, F39), (15, F41), (16, F43), (17, F45), (46, (m90.2 46)), (47, (m90.2 47)), (48, (m90.2 48)), (49, (m90.2 49)), (50, upI (m.2 50) (m.1 25) 0), (65, (m.2 65)), (66, (m.2 66)), (67, (m.2 67)), (68, (m.2 68)), (76, (m.2 76)), (77, (m.2 77)), (78, (m.2 78)), (79, (m.2 79)), (80, (m.2 80)), (81, (m.2 81)), (82, (m.2 82)), (83, (m.2 83)), (84, (m.2 84)), (85, (m.2 85)), (86, (m.2 86)), (87, (m.2 87)), (88, (m.2 88)), (89, (m.2 89)), (90, (m.2 90)), (91, (m.2 91)), (92, (m.2 92)), (101, (m.2 101)), (102, (m.2 102)), (103, (m.2 103)), (104, (m.2 104)), (105, (m.2 105)), (106, (m.2 106)), (107, (m.2 107)), (108, (m.2 108)), (109, upI (m.2 109) (m.1 25) (m.1 99))]), (Ty_mO hT rfl rfl ⟨g480, g482, g484, g486, g488, g490, g38, g58, f28, ⟨(by omega : ((-1) : Int) ≤ (-1)), (by omega : ((-1) : Int) ≤ 15)⟩, f69, f70, f71, f72, f73, f74, f75, f99, f100, trivial⟩ ⟨G40, G42, G44, G46, (q93.2.1 46), (q93.2.1 47), (q93.2.1 48), (q93.2.1 49), G61, (hT.2.1 65), (hT.2.1 66), (hT.2.1 67), (hT.2.1 68), (hT.2.1 76), (hT.2.1 77), (hT.2.1 78), (hT.2.1 79), (hT.2.1 80), (hT.2.1 81), (hT.2.1 82), (hT.2.1 83), (hT.2.1 84), (hT.2.1 85), (hT.2.1 86), (hT.2.1 87), (hT.2.1 88), (hT.2.1 89), (hT.2.1 90), (hT.2.1 91), (hT.2.1 92), (hT.2.1 101), (hT.2.1 102), (hT.2.1 103), (hT.2.1 104), (hT.2.1 105), (hT.2.1 106), (hT.2.1 107), (hT.2.1 108), G59, trivial⟩), (show y485 = 0 → (m.1 10) = 0 by omega), (show LxP y479 y481 y483 (m.1 6) y485 by first | (first | exact hLx | exact (fun _ => hLx (by omega)) | (intro h9; exfalso; omega)) | (exfalso; omega)), (show ∀ k, F39 k + F41 k ≤ 4000 by first | (exact hNM) | (exfalso; omega)), (show ∀ k, (m90.2 47) k + (m90.2 48) k ≤ 4000 by first | (exact hPA) | (exfalso; omega)), (fun (h : y485 = 0) => absurd h (by omega)), rfl⟩
            refine Tm_lv (a := [(0, .ref 189), (1, .int (i32 (m.1 25))), (2, .int (i32 s83))]) rfl rfl ⟨rfl, rfl, rfl, trivial⟩ ?_
            exact L87_91 ((1000000 * (8 - (0 : Int)) + 2 * (4000 - y66) + s83 : Int) + 1).toNat s83 (mO m [(7, y64), (8, y66), (9, y68), (10, 0), (11, y72), (12, y74), (13, y37), (25, (m.1 25) + 1), (28, (m.1 28)), (64, (m.1 64)), (69, (m.1 69)), (70, (m.1 70)), (71, (m.1 71)), (72, (m.1 72)), (73, (m.1 73)), (74, (m.1 74)), (75, (m.1 75)), (99, (m.1 99)), (100, (m.1 100))] [(14, F39), (15, F41), (16, F43), (17, F45), (46, upI (m.2 46) (m.1 25) 0), (47, (m.2 47)), (48, (m.2 48)), (49, (m.2 49)), (50, upI (m.2 50) (m.1 25) 0), (65, (m.2 65)), (66, (m.2 66)), (67, (m.2 67)), (68, (m.2 68)), (76, (m.2 76)), (77, (m.2 77)), (78, (m.2 78)), (79, (m.2 79)), (80, (m.2 80)), (81, (m.2 81)), (82, (m.2 82)), (83, (m.2 83)), (84, (m.2 84)), (85, (m.2 85)), (86, (m.2 86)), (87, (m.2 87)), (88, (m.2 88)), (89, (m.2 89)), (90, (m.2 90)), (91, (m.2 91)), (92, (m.2 92)), (101, (m.2 101)), (102, (m.2 102)), (103, (m.2 103)), (104, (m.2 104)), (105, (m.2 105)), (106, (m.2 106)), (107, (m.2 107)), (108, (m.2 108)), (109, upI (m.2 109) (m.1 25) (m.1 99))]) (r32 (by omega) (by omega)) (Ty_mO hT rfl rfl ⟨g65, g67, g69, ⟨(by omega : (0 : Int) ≤ 0), (by omega : (0 : Int) ≤ 8)⟩, g73, g75, g38, g58, f28, f64, f69, f70, f71, f72, f73, f74, f75, f99, f100, trivial⟩ ⟨G40, G42, G44, G46, G60, (hT.2.1 47), (hT.2.1 48), (hT.2.1 49), G61, (hT.2.1 65), (hT.2.1 66), (hT.2.1 67), (hT.2.1 68), (hT.2.1 76), (hT.2.1 77), (hT.2.1 78), (hT.2.1 79), (hT.2.1 80), (hT.2.1 81), (hT.2.1 82), (hT.2.1 83), (hT.2.1 84), (hT.2.1 85), (hT.2.1 86), (hT.2.1 87), (hT.2.1 88), (hT.2.1 89), (hT.2.1 90), (hT.2.1 91), (hT.2.1 92), (hT.2.1 101), (hT.2.1 102), (hT.2.1 103), (hT.2.1 104), (hT.2.1 105), (hT.2.1 106), (hT.2.1 107), (hT.2.1 108), G59, trivial⟩) (show 0 ≤ s83 by omega) (show s83 ≤ 1 by omega) (show LxP y64 y66 y68 (m.1 6) (0 : Int) by exact hLx) (show ∀ k, (m.2 47) k + (m.2 48) k ≤ 4000 by exact hPA) (show s83 = 0 ∨ s83 = 1 by omega) (fun _ => (show (m.1 8) + 1 ≤ y66 by omega)) (show 1000000 * (8 - (0 : Int)) + 2 * (4000 - y66) + s83 < ((((1000000 * (8 - (0 : Int)) + 2 * (4000 - y66) + s83 : Int) + 1).toNat : Nat) : Int) by omega)
          refine T_icmp 85 81 rfl rfl rfl (r32 (by omega) (by omega)) ⟨by decide, by decide⟩ (fun (h496 : y64 = 41) => ?_) (fun (h496 : ¬ (y64 = 41)) => ?_)
          · skip
            refine T_ld 86 (.int (i32 0)) rfl (fun _ => rfl) ?_
            refine Tm_lv (a := [(0, .ref 189), (1, .int (i32 (m.1 25)))]) rfl rfl ⟨rfl, rfl, trivial⟩ ?_
            exact J86_84 0 ⟨by decide, by decide⟩ (show 0 ≤ (0 : Int) by omega) (show (0 : Int) ≤ 1 by omega)
          · skip
            refine T_ld 82 (.int (i32 1)) rfl (fun _ => rfl) ?_
            refine T_goto 86 rfl (fun _ => rfl) ?_
            refine Tm_lv (a := [(0, .ref 189), (1, .int (i32 (m.1 25)))]) rfl rfl ⟨rfl, rfl, trivial⟩ ?_
            exact J86_84 1 ⟨by decide, by decide⟩ (show 0 ≤ (1 : Int) by omega) (show (1 : Int) ≤ 1 by omega)
        · skip
          replace h76 : LxP y64 y66 y68 (m.1 6) y70 := h76
          have hLx := h76
          clear h77
          replace h78 : y27 ≤ y66 := h78
          clear h79
          have hf497 : 1 ≤ y70 := by omega
          clear g26 g28 g30 g34 g36 g47a g47b h48 h52 u56 h57 h78
          refine T_gf 69 (.int (i32 y70)) rfl rfl rfl rfl rfl rfl ?_
          refine T_if 85 72 rfl rfl rfl (r32 (by omega) (by omega)) (fun (h498 : y70 ≠ 0) => ?_) (fun (h498 : ¬ (y70 ≠ 0)) => by exfalso; omega)
          refine T_ld 86 (.int (i32 0)) rfl (fun _ => rfl) ?_
          refine T_sto 87 [(2, .int (i32 0)), (1, .int (i32 (m.1 25))), (0, .ref 189)] rfl (fun _ => rfl) ?_
          refine T_ld 88 (.int (i32 0)) rfl (fun _ => rfl) ?_
          refine T_if 136 91 rfl rfl rfl ⟨by decide, by decide⟩ (fun _ => ?_) (fun h499 => absurd (show (0 : Int) = 0 by decide) h499)
          refine T_ld 137 (.ref 189) rfl (fun _ => rfl) ?_
          refine T_ld 139 (.int (i32 41)) rfl (fun _ => rfl) ?_
          refine T_call 142 232 [.ref 189, .int (i32 41)] [] rfl (fun _ => rfl) rfl (c_need w (mO m [(7, y64), (8, y66), (9, y68), (10, y70), (11, y72), (12, y74), (13, y37), (25, (m.1 25) + 1), (28, (m.1 28)), (64, (m.1 64)), (69, (m.1 69)), (70, (m.1 70)), (71, (m.1 71)), (72, (m.1 72)), (73, (m.1 73)), (74, (m.1 74)), (75, (m.1 75)), (99, (m.1 99)), (100, (m.1 100))] [(14, F39), (15, F41), (16, F43), (17, F45), (46, upI (m.2 46) (m.1 25) 0), (47, (m.2 47)), (48, (m.2 48)), (49, (m.2 49)), (50, upI (m.2 50) (m.1 25) 0), (65, (m.2 65)), (66, (m.2 66)), (67, (m.2 67)), (68, (m.2 68)), (76, (m.2 76)), (77, (m.2 77)), (78, (m.2 78)), (79, (m.2 79)), (80, (m.2 80)), (81, (m.2 81)), (82, (m.2 82)), (83, (m.2 83)), (84, (m.2 84)), (85, (m.2 85)), (86, (m.2 86)), (87, (m.2 87)), (88, (m.2 88)), (89, (m.2 89)), (90, (m.2 90)), (91, (m.2 91)), (92, (m.2 92)), (101, (m.2 101)), (102, (m.2 102)), (103, (m.2 103)), (104, (m.2 104)), (105, (m.2 105)), (106, (m.2 106)), (107, (m.2 107)), (108, (m.2 108)), (109, upI (m.2 109) (m.1 25) (m.1 99))]) c N D (by omega) (Ty_mO hT rfl rfl ⟨g65, g67, g69, g71, g73, g75, g38, g58, f28, f64, f69, f70, f71, f72, f73, f74, f75, f99, f100, trivial⟩ ⟨G40, G42, G44, G46, G60, (hT.2.1 47), (hT.2.1 48), (hT.2.1 49), G61, (hT.2.1 65), (hT.2.1 66), (hT.2.1 67), (hT.2.1 68), (hT.2.1 76), (hT.2.1 77), (hT.2.1 78), (hT.2.1 79), (hT.2.1 80), (hT.2.1 81), (hT.2.1 82), (hT.2.1 83), (hT.2.1 84), (hT.2.1 85), (hT.2.1 86), (hT.2.1 87), (hT.2.1 88), (hT.2.1 89), (hT.2.1 90), (hT.2.1 91), (hT.2.1 92), (hT.2.1 101), (hT.2.1 102), (hT.2.1 103), (hT.2.1 104), (hT.2.1 105), (hT.2.1 106), (hT.2.1 107), (hT.2.1 108), G59, trivial⟩) 41 ⟨by decide, by decide⟩ (show 1 ≤ (41 : Int) by omega) (show LxP y64 y66 y68 (m.1 6) y70 by first | exact hLx | (intro h9; exfalso; omega) | (intro h9; have h8 := hLx (by omega); omega))) (fun rr500 k501 => ?_)
          obtain ⟨y502, y504, y506, y508, y510, y512, g503, g505, g507, g509, g511, g513, h514, h515, h516, h517, rfl⟩ := k501
          refine ⟨_, _, rfl, ?_⟩
          refine T_nf2 (st' := []) (l' := [(7, y502), (8, y504), (9, y506), (10, y508), (11, y510), (12, y512), (13, y37), (25, (m.1 25) + 1), (28, (m.1 28)), (64, (m.1 64)), (69, (m.1 69)), (70, (m.1 70)), (71, (m.1 71)), (72, (m.1 72)), (73, (m.1 73)), (74, (m.1 74)), (75, (m.1 75)), (99, (m.1 99)), (100, (m.1 100))]) (a' := [(14, F39), (15, F41), (16, F43), (17, F45), (46, upI (m.2 46) (m.1 25) 0), (47, (m.2 47)), (48, (m.2 48)), (49, (m.2 49)), (50, upI (m.2 50) (m.1 25) 0), (65, (m.2 65)), (66, (m.2 66)), (67, (m.2 67)), (68, (m.2 68)), (76, (m.2 76)), (77, (m.2 77)), (78, (m.2 78)), (79, (m.2 79)), (80, (m.2 80)), (81, (m.2 81)), (82, (m.2 82)), (83, (m.2 83)), (84, (m.2 84)), (85, (m.2 85)), (86, (m.2 86)), (87, (m.2 87)), (88, (m.2 88)), (89, (m.2 89)), (90, (m.2 90)), (91, (m.2 91)), (92, (m.2 92)), (101, (m.2 101)), (102, (m.2 102)), (103, (m.2 103)), (104, (m.2 104)), (105, (m.2 105)), (106, (m.2 106)), (107, (m.2 107)), (108, (m.2 108)), (109, upI (m.2 109) (m.1 25) (m.1 99))]) [7, 8, 9, 10, 11, 12] [] rfl ⟨rfl, rfl, rfl, rfl, rfl, rfl, rfl, rfl, rfl, rfl, rfl, rfl, rfl, rfl, rfl, rfl, rfl, rfl, rfl, rfl, rfl, rfl, rfl, rfl, rfl, rfl, rfl, rfl, rfl, rfl, rfl, rfl, rfl, rfl, rfl, rfl, rfl, rfl, trivial⟩ ⟨rfl, rfl, rfl, rfl, rfl, rfl, rfl, rfl, rfl, rfl, rfl, rfl, rfl, rfl, rfl, rfl, rfl, rfl, rfl, rfl, rfl, rfl, rfl, rfl, rfl, rfl, rfl, rfl, rfl, rfl, rfl, rfl, rfl, rfl, rfl, rfl, rfl, rfl, rfl, rfl, rfl, rfl, rfl, rfl, rfl, rfl, rfl, rfl, rfl, rfl, rfl, rfl, rfl, rfl, rfl, rfl, rfl, rfl, rfl, rfl, rfl, rfl, rfl, rfl, rfl, rfl, rfl, rfl, rfl, rfl, rfl, rfl, rfl, rfl, rfl, rfl, rfl, rfl, trivial⟩ rfl rfl (by decide) (by decide) ?_
          replace h514 : LxP y502 y504 y506 (m.1 6) y508 := h514
          replace h515 : y508 = 0 → y70 = 0 ∧ y64 = (41 : Int) := h515
          replace h516 : y66 ≤ y504 := h516
          replace h517 : y508 = 0 → y66 + y68 ≤ y504 := h517
          have hf518 : 1 ≤ y508 := by omega
          clear h515
          clear h517
          have hLx := h514
          clear g65 g67 g69 g71 g73 g75 h76 hf497 h498 h516
          refine T_ld 143 (.ref 189) rfl (fun _ => rfl) ?_
          refine T_ld 145 (.int (i32 123)) rfl (fun _ => rfl) ?_
          refine T_call 148 232 [.ref 189, .int (i32 123)] [] rfl (fun _ => rfl) rfl (c_need w (mO m [(7, y502), (8, y504), (9, y506), (10, y508), (11, y510), (12, y512), (13, y37), (25, (m.1 25) + 1), (28, (m.1 28)), (64, (m.1 64)), (69, (m.1 69)), (70, (m.1 70)), (71, (m.1 71)), (72, (m.1 72)), (73, (m.1 73)), (74, (m.1 74)), (75, (m.1 75)), (99, (m.1 99)), (100, (m.1 100))] [(14, F39), (15, F41), (16, F43), (17, F45), (46, upI (m.2 46) (m.1 25) 0), (47, (m.2 47)), (48, (m.2 48)), (49, (m.2 49)), (50, upI (m.2 50) (m.1 25) 0), (65, (m.2 65)), (66, (m.2 66)), (67, (m.2 67)), (68, (m.2 68)), (76, (m.2 76)), (77, (m.2 77)), (78, (m.2 78)), (79, (m.2 79)), (80, (m.2 80)), (81, (m.2 81)), (82, (m.2 82)), (83, (m.2 83)), (84, (m.2 84)), (85, (m.2 85)), (86, (m.2 86)), (87, (m.2 87)), (88, (m.2 88)), (89, (m.2 89)), (90, (m.2 90)), (91, (m.2 91)), (92, (m.2 92)), (101, (m.2 101)), (102, (m.2 102)), (103, (m.2 103)), (104, (m.2 104)), (105, (m.2 105)), (106, (m.2 106)), (107, (m.2 107)), (108, (m.2 108)), (109, upI (m.2 109) (m.1 25) (m.1 99))]) c N D (by omega) (Ty_mO hT rfl rfl ⟨g503, g505, g507, g509, g511, g513, g38, g58, f28, f64, f69, f70, f71, f72, f73, f74, f75, f99, f100, trivial⟩ ⟨G40, G42, G44, G46, G60, (hT.2.1 47), (hT.2.1 48), (hT.2.1 49), G61, (hT.2.1 65), (hT.2.1 66), (hT.2.1 67), (hT.2.1 68), (hT.2.1 76), (hT.2.1 77), (hT.2.1 78), (hT.2.1 79), (hT.2.1 80), (hT.2.1 81), (hT.2.1 82), (hT.2.1 83), (hT.2.1 84), (hT.2.1 85), (hT.2.1 86), (hT.2.1 87), (hT.2.1 88), (hT.2.1 89), (hT.2.1 90), (hT.2.1 91), (hT.2.1 92), (hT.2.1 101), (hT.2.1 102), (hT.2.1 103), (hT.2.1 104), (hT.2.1 105), (hT.2.1 106), (hT.2.1 107), (hT.2.1 108), G59, trivial⟩) 123 ⟨by decide, by decide⟩ (show 1 ≤ (123 : Int) by omega) (show LxP y502 y504 y506 (m.1 6) y508 by first | exact hLx | (intro h9; exfalso; omega) | (intro h9; have h8 := hLx (by omega); omega))) (fun rr519 k520 => ?_)
          obtain ⟨y521, y523, y525, y527, y529, y531, g522, g524, g526, g528, g530, g532, h533, h534, h535, h536, rfl⟩ := k520
          refine ⟨_, _, rfl, ?_⟩
          refine T_nf2 (st' := []) (l' := [(7, y521), (8, y523), (9, y525), (10, y527), (11, y529), (12, y531), (13, y37), (25, (m.1 25) + 1), (28, (m.1 28)), (64, (m.1 64)), (69, (m.1 69)), (70, (m.1 70)), (71, (m.1 71)), (72, (m.1 72)), (73, (m.1 73)), (74, (m.1 74)), (75, (m.1 75)), (99, (m.1 99)), (100, (m.1 100))]) (a' := [(14, F39), (15, F41), (16, F43), (17, F45), (46, upI (m.2 46) (m.1 25) 0), (47, (m.2 47)), (48, (m.2 48)), (49, (m.2 49)), (50, upI (m.2 50) (m.1 25) 0), (65, (m.2 65)), (66, (m.2 66)), (67, (m.2 67)), (68, (m.2 68)), (76, (m.2 76)), (77, (m.2 77)), (78, (m.2 78)), (79, (m.2 79)), (80, (m.2 80)), (81, (m.2 81)), (82, (m.2 82)), (83, (m.2 83)), (84, (m.2 84)), (85, (m.2 85)), (86, (m.2 86)), (87, (m.2 87)), (88, (m.2 88)), (89, (m.2 89)), (90, (m.2 90)), (91, (m.2 91)), (92, (m.2 92)), (101, (m.2 101)), (102, (m.2 102)), (103, (m.2 103)), (104, (m.2 104)), (105, (m.2 105)), (106, (m.2 106)), (107, (m.2 107)), (108, (m.2 108)), (109, upI (m.2 109) (m.1 25) (m.1 99))]) [7, 8, 9, 10, 11, 12] [] rfl ⟨rfl, rfl, rfl, rfl, rfl, rfl, rfl, rfl, rfl, rfl, rfl, rfl, rfl, rfl, rfl, rfl, rfl, rfl, rfl, rfl, rfl, rfl, rfl, rfl, rfl, rfl, rfl, rfl, rfl, rfl, rfl, rfl, rfl, rfl, rfl, rfl, rfl, rfl, trivial⟩ ⟨rfl, rfl, rfl, rfl, rfl, rfl, rfl, rfl, rfl, rfl, rfl, rfl, rfl, rfl, rfl, rfl, rfl, rfl, rfl, rfl, rfl, rfl, rfl, rfl, rfl, rfl, rfl, rfl, rfl, rfl, rfl, rfl, rfl, rfl, rfl, rfl, rfl, rfl, rfl, rfl, rfl, rfl, rfl, rfl, rfl, rfl, rfl, rfl, rfl, rfl, rfl, rfl, rfl, rfl, rfl, rfl, rfl, rfl, rfl, rfl, rfl, rfl, rfl, rfl, rfl, rfl, rfl, rfl, rfl, rfl, rfl, rfl, rfl, rfl, rfl, rfl, rfl, rfl, trivial⟩ rfl rfl (by decide) (by decide) ?_
          replace h533 : LxP y521 y523 y525 (m.1 6) y527 := h533
          replace h534 : y527 = 0 → y508 = 0 ∧ y502 = (123 : Int) := h534
          replace h535 : y504 ≤ y523 := h535
          replace h536 : y527 = 0 → y504 + y506 ≤ y523 := h536
          have hf537 : 1 ≤ y527 := by omega
          clear h534
          clear h536
          have hLx := h533
          clear g503 g505 g507 g509 g511 g513 hf518 h514 h535
          refine T_ld 149 (.ref 189) rfl (fun _ => rfl) ?_
          refine T_ld 150 (.int (i32 (m.1 25))) rfl (fun _ => rfl) ?_
          refine T_pf (l' := [(7, y521), (8, y523), (9, y525), (10, y527), (11, y529), (12, y531), (13, y37), (25, (m.1 25) + 1), (28, (m.1 28)), (64, (m.1 25)), (69, (m.1 69)), (70, (m.1 70)), (71, (m.1 71)), (72, (m.1 72)), (73, (m.1 73)), (74, (m.1 74)), (75, (m.1 75)), (99, (m.1 99)), (100, (m.1 100))]) 153 (m.1 25) rfl rfl rfl rfl rfl rfl ?_
          have g538 : (-1) ≤ (m.1 25) ∧ (m.1 25) ≤ 15 := ⟨by omega, by omega⟩
          refine T_gf 157 (.int (i32 y527)) rfl rfl rfl rfl rfl rfl ?_
          refine T_if 211 160 rfl rfl rfl (r32 (by omega) (by omega)) (fun (h539 : y527 ≠ 0) => ?_) (fun (h539 : ¬ (y527 ≠ 0)) => by exfalso; omega)
          refine T_ld 212 (.ref 189) rfl (fun _ => rfl) ?_
          refine T_ld 213 (.int (i32 (-1))) rfl (fun _ => rfl) ?_
          refine T_pf (l' := [(7, y521), (8, y523), (9, y525), (10, y527), (11, y529), (12, y531), (13, y37), (25, (m.1 25) + 1), (28, (m.1 28)), (64, (-1)), (69, (m.1 69)), (70, (m.1 70)), (71, (m.1 71)), (72, (m.1 72)), (73, (m.1 73)), (74, (m.1 74)), (75, (m.1 75)), (99, (m.1 99)), (100, (m.1 100))]) 216 (-1) rfl rfl rfl rfl rfl rfl ?_
          refine T_ld 217 (.ref 189) rfl (fun _ => rfl) ?_
          refine T_ld 219 (.int (i32 125)) rfl (fun _ => rfl) ?_
          refine T_call 222 232 [.ref 189, .int (i32 125)] [] rfl (fun _ => rfl) rfl (c_need w (mO m [(7, y521), (8, y523), (9, y525), (10, y527), (11, y529), (12, y531), (13, y37), (25, (m.1 25) + 1), (28, (m.1 28)), (64, (-1)), (69, (m.1 69)), (70, (m.1 70)), (71, (m.1 71)), (72, (m.1 72)), (73, (m.1 73)), (74, (m.1 74)), (75, (m.1 75)), (99, (m.1 99)), (100, (m.1 100))] [(14, F39), (15, F41), (16, F43), (17, F45), (46, upI (m.2 46) (m.1 25) 0), (47, (m.2 47)), (48, (m.2 48)), (49, (m.2 49)), (50, upI (m.2 50) (m.1 25) 0), (65, (m.2 65)), (66, (m.2 66)), (67, (m.2 67)), (68, (m.2 68)), (76, (m.2 76)), (77, (m.2 77)), (78, (m.2 78)), (79, (m.2 79)), (80, (m.2 80)), (81, (m.2 81)), (82, (m.2 82)), (83, (m.2 83)), (84, (m.2 84)), (85, (m.2 85)), (86, (m.2 86)), (87, (m.2 87)), (88, (m.2 88)), (89, (m.2 89)), (90, (m.2 90)), (91, (m.2 91)), (92, (m.2 92)), (101, (m.2 101)), (102, (m.2 102)), (103, (m.2 103)), (104, (m.2 104)), (105, (m.2 105)), (106, (m.2 106)), (107, (m.2 107)), (108, (m.2 108)), (109, upI (m.2 109) (m.1 25) (m.1 99))]) c N D (by omega) (Ty_mO hT rfl rfl ⟨g522, g524, g526, g528, g530, g532, g38, g58, f28, ⟨(by omega : ((-1) : Int) ≤ (-1)), (by omega : ((-1) : Int) ≤ 15)⟩, f69, f70, f71, f72, f73, f74, f75, f99, f100, trivial⟩ ⟨G40, G42, G44, G46, G60, (hT.2.1 47), (hT.2.1 48), (hT.2.1 49), G61, (hT.2.1 65), (hT.2.1 66), (hT.2.1 67), (hT.2.1 68), (hT.2.1 76), (hT.2.1 77), (hT.2.1 78), (hT.2.1 79), (hT.2.1 80), (hT.2.1 81), (hT.2.1 82), (hT.2.1 83), (hT.2.1 84), (hT.2.1 85), (hT.2.1 86), (hT.2.1 87), (hT.2.1 88), (hT.2.1 89), (hT.2.1 90), (hT.2.1 91), (hT.2.1 92), (hT.2.1 101), (hT.2.1 102), (hT.2.1 103), (hT.2.1 104), (hT.2.1 105), (hT.2.1 106), (hT.2.1 107), (hT.2.1 108), G59, trivial⟩) 125 ⟨by decide, by decide⟩ (show 1 ≤ (125 : Int) by omega) (show LxP y521 y523 y525 (m.1 6) y527 by first | exact hLx | (intro h9; exfalso; omega) | (intro h9; have h8 := hLx (by omega); omega))) (fun rr540 k541 => ?_)
          obtain ⟨y542, y544, y546, y548, y550, y552, g543, g545, g547, g549, g551, g553, h554, h555, h556, h557, rfl⟩ := k541
          refine ⟨_, _, rfl, ?_⟩
          refine T_nf2 (st' := []) (l' := [(7, y542), (8, y544), (9, y546), (10, y548), (11, y550), (12, y552), (13, y37), (25, (m.1 25) + 1), (28, (m.1 28)), (64, (-1)), (69, (m.1 69)), (70, (m.1 70)), (71, (m.1 71)), (72, (m.1 72)), (73, (m.1 73)), (74, (m.1 74)), (75, (m.1 75)), (99, (m.1 99)), (100, (m.1 100))]) (a' := [(14, F39), (15, F41), (16, F43), (17, F45), (46, upI (m.2 46) (m.1 25) 0), (47, (m.2 47)), (48, (m.2 48)), (49, (m.2 49)), (50, upI (m.2 50) (m.1 25) 0), (65, (m.2 65)), (66, (m.2 66)), (67, (m.2 67)), (68, (m.2 68)), (76, (m.2 76)), (77, (m.2 77)), (78, (m.2 78)), (79, (m.2 79)), (80, (m.2 80)), (81, (m.2 81)), (82, (m.2 82)), (83, (m.2 83)), (84, (m.2 84)), (85, (m.2 85)), (86, (m.2 86)), (87, (m.2 87)), (88, (m.2 88)), (89, (m.2 89)), (90, (m.2 90)), (91, (m.2 91)), (92, (m.2 92)), (101, (m.2 101)), (102, (m.2 102)), (103, (m.2 103)), (104, (m.2 104)), (105, (m.2 105)), (106, (m.2 106)), (107, (m.2 107)), (108, (m.2 108)), (109, upI (m.2 109) (m.1 25) (m.1 99))]) [7, 8, 9, 10, 11, 12] [] rfl ⟨rfl, rfl, rfl, rfl, rfl, rfl, rfl, rfl, rfl, rfl, rfl, rfl, rfl, rfl, rfl, rfl, rfl, rfl, rfl, rfl, rfl, rfl, rfl, rfl, rfl, rfl, rfl, rfl, rfl, rfl, rfl, rfl, rfl, rfl, rfl, rfl, rfl, rfl, trivial⟩ ⟨rfl, rfl, rfl, rfl, rfl, rfl, rfl, rfl, rfl, rfl, rfl, rfl, rfl, rfl, rfl, rfl, rfl, rfl, rfl, rfl, rfl, rfl, rfl, rfl, rfl, rfl, rfl, rfl, rfl, rfl, rfl, rfl, rfl, rfl, rfl, rfl, rfl, rfl, rfl, rfl, rfl, rfl, rfl, rfl, rfl, rfl, rfl, rfl, rfl, rfl, rfl, rfl, rfl, rfl, rfl, rfl, rfl, rfl, rfl, rfl, rfl, rfl, rfl, rfl, rfl, rfl, rfl, rfl, rfl, rfl, rfl, rfl, rfl, rfl, rfl, rfl, rfl, rfl, trivial⟩ rfl rfl (by decide) (by decide) ?_
          replace h554 : LxP y542 y544 y546 (m.1 6) y548 := h554
          replace h555 : y548 = 0 → y527 = 0 ∧ y521 = (125 : Int) := h555
          replace h556 : y523 ≤ y544 := h556
          replace h557 : y548 = 0 → y523 + y525 ≤ y544 := h557
          have hf558 : 1 ≤ y548 := by omega
          clear h555
          clear h557
          have hLx := h554
          clear g522 g524 g526 g528 g530 g532 hf537 h533 h539 h556
          refine T_ret rfl (fun _ => rfl) ?_
          exact ⟨(mO m [(7, y542), (8, y544), (9, y546), (10, y548), (11, y550), (12, y552), (13, y37), (25, (m.1 25) + 1), (28, (m.1 28)), (64, (-1)), (69, (m.1 69)), (70, (m.1 70)), (71, (m.1 71)), (72, (m.1 72)), (73, (m.1 73)), (74, (m.1 74)), (75, (m.1 75)), (99, (m.1 99)), (100, (m.1 100))] [(14, F39), (15, F41), (16, F43), (17, F45), (46, upI (m.2 46) (m.1 25) 0), (47, (m.2 47)), (48, (m.2 48)), (49, (m.2 49)), (50, upI (m.2 50) (m.1 25) 0), (65, (m.2 65)), (66, (m.2 66)), (67, (m.2 67)), (68, (m.2 68)), (76, (m.2 76)), (77, (m.2 77)), (78, (m.2 78)), (79, (m.2 79)), (80, (m.2 80)), (81, (m.2 81)), (82, (m.2 82)), (83, (m.2 83)), (84, (m.2 84)), (85, (m.2 85)), (86, (m.2 86)), (87, (m.2 87)), (88, (m.2 88)), (89, (m.2 89)), (90, (m.2 90)), (91, (m.2 91)), (92, (m.2 92)), (101, (m.2 101)), (102, (m.2 102)), (103, (m.2 103)), (104, (m.2 104)), (105, (m.2 105)), (106, (m.2 106)), (107, (m.2 107)), (108, (m.2 108)), (109, upI (m.2 109) (m.1 25) (m.1 99))]), (Ty_mO hT rfl rfl ⟨g543, g545, g547, g549, g551, g553, g38, g58, f28, ⟨(by omega : ((-1) : Int) ≤ (-1)), (by omega : ((-1) : Int) ≤ 15)⟩, f69, f70, f71, f72, f73, f74, f75, f99, f100, trivial⟩ ⟨G40, G42, G44, G46, G60, (hT.2.1 47), (hT.2.1 48), (hT.2.1 49), G61, (hT.2.1 65), (hT.2.1 66), (hT.2.1 67), (hT.2.1 68), (hT.2.1 76), (hT.2.1 77), (hT.2.1 78), (hT.2.1 79), (hT.2.1 80), (hT.2.1 81), (hT.2.1 82), (hT.2.1 83), (hT.2.1 84), (hT.2.1 85), (hT.2.1 86), (hT.2.1 87), (hT.2.1 88), (hT.2.1 89), (hT.2.1 90), (hT.2.1 91), (hT.2.1 92), (hT.2.1 101), (hT.2.1 102), (hT.2.1 103), (hT.2.1 104), (hT.2.1 105), (hT.2.1 106), (hT.2.1 107), (hT.2.1 108), G59, trivial⟩), (show y548 = 0 → (m.1 10) = 0 by omega), (show LxP y542 y544 y546 (m.1 6) y548 by first | (first | exact hLx | exact (fun _ => hLx (by omega)) | (intro h9; exfalso; omega)) | (exfalso; omega)), (show ∀ k, F39 k + F41 k ≤ 4000 by first | (exact hNM) | (exfalso; omega)), (show ∀ k, (m.2 47) k + (m.2 48) k ≤ 4000 by first | (exact hPA) | (exfalso; omega)), (fun (h : y548 = 0) => absurd h (by omega)), rfl⟩
      · skip
        replace h48 : LxP y25 y27 y29 (m.1 6) y31 := h48
        have hLx := h48
        replace h49 : y7 ≤ y27 := h49
        clear h50
        clear h51
        replace h52 : nn = 1 → (m.1 25) ≠ (16 : Int) := h52
        replace h53 : ∀ k, F39 k + F41 k ≤ 4000 := h53
        have hNM := h53
        replace h54 : (nn = 1 ∧ (0 : Int) = 0 ∧ y37 = (m.1 13) + 1 ∧ F39 = upI (m.2 14) (m.1 13) y7 ∧ F41 = upI (m.2 15) (m.1 13) y9 ∧ F43 = upI (m.2 16) (m.1 13) (6 : Int) ∧ F45 = upI (m.2 17) (m.1 13) (m.1 25)) ∨ (nn = 0 ∧ 0 < y31 ∧ y37 = (m.1 13) ∧ F39 = (m.2 14) ∧ F41 = (m.2 15) ∧ F43 = (m.2 16) ∧ F45 = (m.2 17)) := h54
        have hN := h54
        have hf559 : 1 ≤ y31 := by omega
        clear g6 g8 g10 g14 g16 h17 h19 h20 u22 h49 h54
        refine T_if 20 19 rfl rfl rfl (r32 (by omega) (by omega)) (fun (h560 : nn ≠ 0) => ?_) (fun (h560 : ¬ (nn ≠ 0)) => ?_)
        · skip
          refine T_gf 24 (.int (i32 (m.1 25))) rfl rfl rfl rfl rfl rfl ?_
          refine T_sto 25 [(1, .int (i32 (m.1 25))), (0, .ref 189)] rfl (fun _ => rfl) ?_
          refine T_ld 26 (.ref 189) rfl (fun _ => rfl) ?_
          refine T_ld 27 (.ref 189) rfl (fun _ => rfl) ?_
          refine T_gf1 30 (.int (i32 (m.1 25))) rfl rfl rfl rfl ?_
          refine T_ld 31 (.int (i32 1)) rfl (fun _ => rfl) ?_
          refine T_iadd 32 rfl rfl ?_
          refine T_pf (l' := [(7, y25), (8, y27), (9, y29), (10, y31), (11, y33), (12, y35), (13, y37), (25, (m.1 25) + 1), (28, (m.1 28)), (64, (m.1 64)), (69, (m.1 69)), (70, (m.1 70)), (71, (m.1 71)), (72, (m.1 72)), (73, (m.1 73)), (74, (m.1 74)), (75, (m.1 75)), (99, (m.1 99)), (100, (m.1 100))]) 35 ((m.1 25) + 1) rfl rfl rfl rfl rfl rfl ?_
          have g561 : 0 ≤ (m.1 25) + 1 ∧ (m.1 25) + 1 ≤ 16 := ⟨by omega, by omega⟩
          refine T_gf 39 (.ref 269) rfl rfl rfl rfl rfl rfl ?_
          refine T_ld 40 (.int (i32 (m.1 25))) rfl (fun _ => rfl) ?_
          refine T_gf 44 (.int (i32 (m.1 99))) rfl rfl rfl rfl rfl rfl ?_
          have G562 : ∀ j, 0 ≤ (upI (m.2 109) (m.1 25) (m.1 99)) j ∧ (upI (m.2 109) (m.1 25) (m.1 99)) j ≤ 192 := upI_rg (hT.2.1 109) ⟨by omega, by omega⟩
          refine T_iast (a' := [(14, F39), (15, F41), (16, F43), (17, F45), (46, (m.2 46)), (47, (m.2 47)), (48, (m.2 48)), (49, (m.2 49)), (50, (m.2 50)), (65, (m.2 65)), (66, (m.2 66)), (67, (m.2 67)), (68, (m.2 68)), (76, (m.2 76)), (77, (m.2 77)), (78, (m.2 78)), (79, (m.2 79)), (80, (m.2 80)), (81, (m.2 81)), (82, (m.2 82)), (83, (m.2 83)), (84, (m.2 84)), (85, (m.2 85)), (86, (m.2 86)), (87, (m.2 87)), (88, (m.2 88)), (89, (m.2 89)), (90, (m.2 90)), (91, (m.2 91)), (92, (m.2 92)), (101, (m.2 101)), (102, (m.2 102)), (103, (m.2 103)), (104, (m.2 104)), (105, (m.2 105)), (106, (m.2 106)), (107, (m.2 107)), (108, (m.2 108)), (109, upI (m.2 109) (m.1 25) (m.1 99))]) 45 109 (m.2 109) rfl rfl rfl (by omega) (show (m.1 25) < (16 : Int) by omega) rfl rfl ?_
          refine T_gf 49 (.ref 216) rfl rfl rfl rfl rfl rfl ?_
          refine T_ld 50 (.int (i32 (m.1 25))) rfl (fun _ => rfl) ?_
          refine T_ld 51 (.int (i32 0)) rfl (fun _ => rfl) ?_
          have G563 : ∀ j, 0 ≤ (upI (m.2 46) (m.1 25) 0) j ∧ (upI (m.2 46) (m.1 25) 0) j ≤ 4 := upI_rg (hT.2.1 46) ⟨by omega, by omega⟩
          refine T_iast (a' := [(14, F39), (15, F41), (16, F43), (17, F45), (46, upI (m.2 46) (m.1 25) 0), (47, (m.2 47)), (48, (m.2 48)), (49, (m.2 49)), (50, (m.2 50)), (65, (m.2 65)), (66, (m.2 66)), (67, (m.2 67)), (68, (m.2 68)), (76, (m.2 76)), (77, (m.2 77)), (78, (m.2 78)), (79, (m.2 79)), (80, (m.2 80)), (81, (m.2 81)), (82, (m.2 82)), (83, (m.2 83)), (84, (m.2 84)), (85, (m.2 85)), (86, (m.2 86)), (87, (m.2 87)), (88, (m.2 88)), (89, (m.2 89)), (90, (m.2 90)), (91, (m.2 91)), (92, (m.2 92)), (101, (m.2 101)), (102, (m.2 102)), (103, (m.2 103)), (104, (m.2 104)), (105, (m.2 105)), (106, (m.2 106)), (107, (m.2 107)), (108, (m.2 108)), (109, upI (m.2 109) (m.1 25) (m.1 99))]) 52 46 (m.2 46) rfl rfl rfl (by omega) (show (m.1 25) < (16 : Int) by omega) rfl rfl ?_
          refine T_gf 56 (.ref 220) rfl rfl rfl rfl rfl rfl ?_
          refine T_ld 57 (.int (i32 (m.1 25))) rfl (fun _ => rfl) ?_
          refine T_ld 58 (.int (i32 0)) rfl (fun _ => rfl) ?_
          have G564 : ∀ j, 0 ≤ (upI (m.2 50) (m.1 25) 0) j ∧ (upI (m.2 50) (m.1 25) 0) j ≤ 13 := upI_rg (hT.2.1 50) ⟨by omega, by omega⟩
          refine T_iast (a' := [(14, F39), (15, F41), (16, F43), (17, F45), (46, upI (m.2 46) (m.1 25) 0), (47, (m.2 47)), (48, (m.2 48)), (49, (m.2 49)), (50, upI (m.2 50) (m.1 25) 0), (65, (m.2 65)), (66, (m.2 66)), (67, (m.2 67)), (68, (m.2 68)), (76, (m.2 76)), (77, (m.2 77)), (78, (m.2 78)), (79, (m.2 79)), (80, (m.2 80)), (81, (m.2 81)), (82, (m.2 82)), (83, (m.2 83)), (84, (m.2 84)), (85, (m.2 85)), (86, (m.2 86)), (87, (m.2 87)), (88, (m.2 88)), (89, (m.2 89)), (90, (m.2 90)), (91, (m.2 91)), (92, (m.2 92)), (101, (m.2 101)), (102, (m.2 102)), (103, (m.2 103)), (104, (m.2 104)), (105, (m.2 105)), (106, (m.2 106)), (107, (m.2 107)), (108, (m.2 108)), (109, upI (m.2 109) (m.1 25) (m.1 99))]) 59 50 (m.2 50) rfl rfl rfl (by omega) (show (m.1 25) < (16 : Int) by omega) rfl rfl ?_
          refine T_ld 60 (.ref 189) rfl (fun _ => rfl) ?_
          refine T_ld 62 (.int (i32 40)) rfl (fun _ => rfl) ?_
          refine T_call 65 232 [.ref 189, .int (i32 40)] [] rfl (fun _ => rfl) rfl (c_need w (mO m [(7, y25), (8, y27), (9, y29), (10, y31), (11, y33), (12, y35), (13, y37), (25, (m.1 25) + 1), (28, (m.1 28)), (64, (m.1 64)), (69, (m.1 69)), (70, (m.1 70)), (71, (m.1 71)), (72, (m.1 72)), (73, (m.1 73)), (74, (m.1 74)), (75, (m.1 75)), (99, (m.1 99)), (100, (m.1 100))] [(14, F39), (15, F41), (16, F43), (17, F45), (46, upI (m.2 46) (m.1 25) 0), (47, (m.2 47)), (48, (m.2 48)), (49, (m.2 49)), (50, upI (m.2 50) (m.1 25) 0), (65, (m.2 65)), (66, (m.2 66)), (67, (m.2 67)), (68, (m.2 68)), (76, (m.2 76)), (77, (m.2 77)), (78, (m.2 78)), (79, (m.2 79)), (80, (m.2 80)), (81, (m.2 81)), (82, (m.2 82)), (83, (m.2 83)), (84, (m.2 84)), (85, (m.2 85)), (86, (m.2 86)), (87, (m.2 87)), (88, (m.2 88)), (89, (m.2 89)), (90, (m.2 90)), (91, (m.2 91)), (92, (m.2 92)), (101, (m.2 101)), (102, (m.2 102)), (103, (m.2 103)), (104, (m.2 104)), (105, (m.2 105)), (106, (m.2 106)), (107, (m.2 107)), (108, (m.2 108)), (109, upI (m.2 109) (m.1 25) (m.1 99))]) c N D (by omega) (Ty_mO hT rfl rfl ⟨g26, g28, g30, g32, g34, g36, g38, g561, f28, f64, f69, f70, f71, f72, f73, f74, f75, f99, f100, trivial⟩ ⟨G40, G42, G44, G46, G563, (hT.2.1 47), (hT.2.1 48), (hT.2.1 49), G564, (hT.2.1 65), (hT.2.1 66), (hT.2.1 67), (hT.2.1 68), (hT.2.1 76), (hT.2.1 77), (hT.2.1 78), (hT.2.1 79), (hT.2.1 80), (hT.2.1 81), (hT.2.1 82), (hT.2.1 83), (hT.2.1 84), (hT.2.1 85), (hT.2.1 86), (hT.2.1 87), (hT.2.1 88), (hT.2.1 89), (hT.2.1 90), (hT.2.1 91), (hT.2.1 92), (hT.2.1 101), (hT.2.1 102), (hT.2.1 103), (hT.2.1 104), (hT.2.1 105), (hT.2.1 106), (hT.2.1 107), (hT.2.1 108), G562, trivial⟩) 40 ⟨by decide, by decide⟩ (show 1 ≤ (40 : Int) by omega) (show LxP y25 y27 y29 (m.1 6) y31 by first | exact hLx | (intro h9; exfalso; omega) | (intro h9; have h8 := hLx (by omega); omega))) (fun rr565 k566 => ?_)
          obtain ⟨y567, y569, y571, y573, y575, y577, g568, g570, g572, g574, g576, g578, h579, h580, h581, h582, rfl⟩ := k566
          refine ⟨_, _, rfl, ?_⟩
          refine T_nf2 (st' := []) (l' := [(7, y567), (8, y569), (9, y571), (10, y573), (11, y575), (12, y577), (13, y37), (25, (m.1 25) + 1), (28, (m.1 28)), (64, (m.1 64)), (69, (m.1 69)), (70, (m.1 70)), (71, (m.1 71)), (72, (m.1 72)), (73, (m.1 73)), (74, (m.1 74)), (75, (m.1 75)), (99, (m.1 99)), (100, (m.1 100))]) (a' := [(14, F39), (15, F41), (16, F43), (17, F45), (46, upI (m.2 46) (m.1 25) 0), (47, (m.2 47)), (48, (m.2 48)), (49, (m.2 49)), (50, upI (m.2 50) (m.1 25) 0), (65, (m.2 65)), (66, (m.2 66)), (67, (m.2 67)), (68, (m.2 68)), (76, (m.2 76)), (77, (m.2 77)), (78, (m.2 78)), (79, (m.2 79)), (80, (m.2 80)), (81, (m.2 81)), (82, (m.2 82)), (83, (m.2 83)), (84, (m.2 84)), (85, (m.2 85)), (86, (m.2 86)), (87, (m.2 87)), (88, (m.2 88)), (89, (m.2 89)), (90, (m.2 90)), (91, (m.2 91)), (92, (m.2 92)), (101, (m.2 101)), (102, (m.2 102)), (103, (m.2 103)), (104, (m.2 104)), (105, (m.2 105)), (106, (m.2 106)), (107, (m.2 107)), (108, (m.2 108)), (109, upI (m.2 109) (m.1 25) (m.1 99))]) [7, 8, 9, 10, 11, 12] [] rfl ⟨rfl, rfl, rfl, rfl, rfl, rfl, rfl, rfl, rfl, rfl, rfl, rfl, rfl, rfl, rfl, rfl, rfl, rfl, rfl, rfl, rfl, rfl, rfl, rfl, rfl, rfl, rfl, rfl, rfl, rfl, rfl, rfl, rfl, rfl, rfl, rfl, rfl, rfl, trivial⟩ ⟨rfl, rfl, rfl, rfl, rfl, rfl, rfl, rfl, rfl, rfl, rfl, rfl, rfl, rfl, rfl, rfl, rfl, rfl, rfl, rfl, rfl, rfl, rfl, rfl, rfl, rfl, rfl, rfl, rfl, rfl, rfl, rfl, rfl, rfl, rfl, rfl, rfl, rfl, rfl, rfl, rfl, rfl, rfl, rfl, rfl, rfl, rfl, rfl, rfl, rfl, rfl, rfl, rfl, rfl, rfl, rfl, rfl, rfl, rfl, rfl, rfl, rfl, rfl, rfl, rfl, rfl, rfl, rfl, rfl, rfl, rfl, rfl, rfl, rfl, rfl, rfl, rfl, rfl, trivial⟩ rfl rfl (by decide) (by decide) ?_
          replace h579 : LxP y567 y569 y571 (m.1 6) y573 := h579
          replace h580 : y573 = 0 → y31 = 0 ∧ y25 = (40 : Int) := h580
          replace h581 : y27 ≤ y569 := h581
          replace h582 : y573 = 0 → y27 + y29 ≤ y569 := h582
          have hf583 : 1 ≤ y573 := by omega
          clear h580
          clear h582
          have hLx := h579
          clear g26 g28 g30 g32 g34 g36 g47a g47b h48 h52 hf559 h560 h581
          refine T_gf 69 (.int (i32 y573)) rfl rfl rfl rfl rfl rfl ?_
          refine T_if 85 72 rfl rfl rfl (r32 (by omega) (by omega)) (fun (h584 : y573 ≠ 0) => ?_) (fun (h584 : ¬ (y573 ≠ 0)) => by exfalso; omega)
          refine T_ld 86 (.int (i32 0)) rfl (fun _ => rfl) ?_
          refine T_sto 87 [(2, .int (i32 0)), (1, .int (i32 (m.1 25))), (0, .ref 189)] rfl (fun _ => rfl) ?_
          refine T_ld 88 (.int (i32 0)) rfl (fun _ => rfl) ?_
          refine T_if 136 91 rfl rfl rfl ⟨by decide, by decide⟩ (fun _ => ?_) (fun h585 => absurd (show (0 : Int) = 0 by decide) h585)
          refine T_ld 137 (.ref 189) rfl (fun _ => rfl) ?_
          refine T_ld 139 (.int (i32 41)) rfl (fun _ => rfl) ?_
          refine T_call 142 232 [.ref 189, .int (i32 41)] [] rfl (fun _ => rfl) rfl (c_need w (mO m [(7, y567), (8, y569), (9, y571), (10, y573), (11, y575), (12, y577), (13, y37), (25, (m.1 25) + 1), (28, (m.1 28)), (64, (m.1 64)), (69, (m.1 69)), (70, (m.1 70)), (71, (m.1 71)), (72, (m.1 72)), (73, (m.1 73)), (74, (m.1 74)), (75, (m.1 75)), (99, (m.1 99)), (100, (m.1 100))] [(14, F39), (15, F41), (16, F43), (17, F45), (46, upI (m.2 46) (m.1 25) 0), (47, (m.2 47)), (48, (m.2 48)), (49, (m.2 49)), (50, upI (m.2 50) (m.1 25) 0), (65, (m.2 65)), (66, (m.2 66)), (67, (m.2 67)), (68, (m.2 68)), (76, (m.2 76)), (77, (m.2 77)), (78, (m.2 78)), (79, (m.2 79)), (80, (m.2 80)), (81, (m.2 81)), (82, (m.2 82)), (83, (m.2 83)), (84, (m.2 84)), (85, (m.2 85)), (86, (m.2 86)), (87, (m.2 87)), (88, (m.2 88)), (89, (m.2 89)), (90, (m.2 90)), (91, (m.2 91)), (92, (m.2 92)), (101, (m.2 101)), (102, (m.2 102)), (103, (m.2 103)), (104, (m.2 104)), (105, (m.2 105)), (106, (m.2 106)), (107, (m.2 107)), (108, (m.2 108)), (109, upI (m.2 109) (m.1 25) (m.1 99))]) c N D (by omega) (Ty_mO hT rfl rfl ⟨g568, g570, g572, g574, g576, g578, g38, g561, f28, f64, f69, f70, f71, f72, f73, f74, f75, f99, f100, trivial⟩ ⟨G40, G42, G44, G46, G563, (hT.2.1 47), (hT.2.1 48), (hT.2.1 49), G564, (hT.2.1 65), (hT.2.1 66), (hT.2.1 67), (hT.2.1 68), (hT.2.1 76), (hT.2.1 77), (hT.2.1 78), (hT.2.1 79), (hT.2.1 80), (hT.2.1 81), (hT.2.1 82), (hT.2.1 83), (hT.2.1 84), (hT.2.1 85), (hT.2.1 86), (hT.2.1 87), (hT.2.1 88), (hT.2.1 89), (hT.2.1 90), (hT.2.1 91), (hT.2.1 92), (hT.2.1 101), (hT.2.1 102), (hT.2.1 103), (hT.2.1 104), (hT.2.1 105), (hT.2.1 106), (hT.2.1 107), (hT.2.1 108), G562, trivial⟩) 41 ⟨by decide, by decide⟩ (show 1 ≤ (41 : Int) by omega) (show LxP y567 y569 y571 (m.1 6) y573 by first | exact hLx | (intro h9; exfalso; omega) | (intro h9; have h8 := hLx (by omega); omega))) (fun rr586 k587 => ?_)
          obtain ⟨y588, y590, y592, y594, y596, y598, g589, g591, g593, g595, g597, g599, h600, h601, h602, h603, rfl⟩ := k587
          refine ⟨_, _, rfl, ?_⟩
          refine T_nf2 (st' := []) (l' := [(7, y588), (8, y590), (9, y592), (10, y594), (11, y596), (12, y598), (13, y37), (25, (m.1 25) + 1), (28, (m.1 28)), (64, (m.1 64)), (69, (m.1 69)), (70, (m.1 70)), (71, (m.1 71)), (72, (m.1 72)), (73, (m.1 73)), (74, (m.1 74)), (75, (m.1 75)), (99, (m.1 99)), (100, (m.1 100))]) (a' := [(14, F39), (15, F41), (16, F43), (17, F45), (46, upI (m.2 46) (m.1 25) 0), (47, (m.2 47)), (48, (m.2 48)), (49, (m.2 49)), (50, upI (m.2 50) (m.1 25) 0), (65, (m.2 65)), (66, (m.2 66)), (67, (m.2 67)), (68, (m.2 68)), (76, (m.2 76)), (77, (m.2 77)), (78, (m.2 78)), (79, (m.2 79)), (80, (m.2 80)), (81, (m.2 81)), (82, (m.2 82)), (83, (m.2 83)), (84, (m.2 84)), (85, (m.2 85)), (86, (m.2 86)), (87, (m.2 87)), (88, (m.2 88)), (89, (m.2 89)), (90, (m.2 90)), (91, (m.2 91)), (92, (m.2 92)), (101, (m.2 101)), (102, (m.2 102)), (103, (m.2 103)), (104, (m.2 104)), (105, (m.2 105)), (106, (m.2 106)), (107, (m.2 107)), (108, (m.2 108)), (109, upI (m.2 109) (m.1 25) (m.1 99))]) [7, 8, 9, 10, 11, 12] [] rfl ⟨rfl, rfl, rfl, rfl, rfl, rfl, rfl, rfl, rfl, rfl, rfl, rfl, rfl, rfl, rfl, rfl, rfl, rfl, rfl, rfl, rfl, rfl, rfl, rfl, rfl, rfl, rfl, rfl, rfl, rfl, rfl, rfl, rfl, rfl, rfl, rfl, rfl, rfl, trivial⟩ ⟨rfl, rfl, rfl, rfl, rfl, rfl, rfl, rfl, rfl, rfl, rfl, rfl, rfl, rfl, rfl, rfl, rfl, rfl, rfl, rfl, rfl, rfl, rfl, rfl, rfl, rfl, rfl, rfl, rfl, rfl, rfl, rfl, rfl, rfl, rfl, rfl, rfl, rfl, rfl, rfl, rfl, rfl, rfl, rfl, rfl, rfl, rfl, rfl, rfl, rfl, rfl, rfl, rfl, rfl, rfl, rfl, rfl, rfl, rfl, rfl, rfl, rfl, rfl, rfl, rfl, rfl, rfl, rfl, rfl, rfl, rfl, rfl, rfl, rfl, rfl, rfl, rfl, rfl, trivial⟩ rfl rfl (by decide) (by decide) ?_
          replace h600 : LxP y588 y590 y592 (m.1 6) y594 := h600
          replace h601 : y594 = 0 → y573 = 0 ∧ y567 = (41 : Int) := h601
          replace h602 : y569 ≤ y590 := h602
          replace h603 : y594 = 0 → y569 + y571 ≤ y590 := h603
          have hf604 : 1 ≤ y594 := by omega
          clear h601
          clear h603
          have hLx := h600
          clear g568 g570 g572 g574 g576 g578 hf583 h579 h584 h602
          refine T_ld 143 (.ref 189) rfl (fun _ => rfl) ?_
          refine T_ld 145 (.int (i32 123)) rfl (fun _ => rfl) ?_
          refine T_call 148 232 [.ref 189, .int (i32 123)] [] rfl (fun _ => rfl) rfl (c_need w (mO m [(7, y588), (8, y590), (9, y592), (10, y594), (11, y596), (12, y598), (13, y37), (25, (m.1 25) + 1), (28, (m.1 28)), (64, (m.1 64)), (69, (m.1 69)), (70, (m.1 70)), (71, (m.1 71)), (72, (m.1 72)), (73, (m.1 73)), (74, (m.1 74)), (75, (m.1 75)), (99, (m.1 99)), (100, (m.1 100))] [(14, F39), (15, F41), (16, F43), (17, F45), (46, upI (m.2 46) (m.1 25) 0), (47, (m.2 47)), (48, (m.2 48)), (49, (m.2 49)), (50, upI (m.2 50) (m.1 25) 0), (65, (m.2 65)), (66, (m.2 66)), (67, (m.2 67)), (68, (m.2 68)), (76, (m.2 76)), (77, (m.2 77)), (78, (m.2 78)), (79, (m.2 79)), (80, (m.2 80)), (81, (m.2 81)), (82, (m.2 82)), (83, (m.2 83)), (84, (m.2 84)), (85, (m.2 85)), (86, (m.2 86)), (87, (m.2 87)), (88, (m.2 88)), (89, (m.2 89)), (90, (m.2 90)), (91, (m.2 91)), (92, (m.2 92)), (101, (m.2 101)), (102, (m.2 102)), (103, (m.2 103)), (104, (m.2 104)), (105, (m.2 105)), (106, (m.2 106)), (107, (m.2 107)), (108, (m.2 108)), (109, upI (m.2 109) (m.1 25) (m.1 99))]) c N D (by omega) (Ty_mO hT rfl rfl ⟨g589, g591, g593, g595, g597, g599, g38, g561, f28, f64, f69, f70, f71, f72, f73, f74, f75, f99, f100, trivial⟩ ⟨G40, G42, G44, G46, G563, (hT.2.1 47), (hT.2.1 48), (hT.2.1 49), G564, (hT.2.1 65), (hT.2.1 66), (hT.2.1 67), (hT.2.1 68), (hT.2.1 76), (hT.2.1 77), (hT.2.1 78), (hT.2.1 79), (hT.2.1 80), (hT.2.1 81), (hT.2.1 82), (hT.2.1 83), (hT.2.1 84), (hT.2.1 85), (hT.2.1 86), (hT.2.1 87), (hT.2.1 88), (hT.2.1 89), (hT.2.1 90), (hT.2.1 91), (hT.2.1 92), (hT.2.1 101), (hT.2.1 102), (hT.2.1 103), (hT.2.1 104), (hT.2.1 105), (hT.2.1 106), (hT.2.1 107), (hT.2.1 108), G562, trivial⟩) 123 ⟨by decide, by decide⟩ (show 1 ≤ (123 : Int) by omega) (show LxP y588 y590 y592 (m.1 6) y594 by first | exact hLx | (intro h9; exfalso; omega) | (intro h9; have h8 := hLx (by omega); omega))) (fun rr605 k606 => ?_)
          obtain ⟨y607, y609, y611, y613, y615, y617, g608, g610, g612, g614, g616, g618, h619, h620, h621, h622, rfl⟩ := k606
          refine ⟨_, _, rfl, ?_⟩
          refine T_nf2 (st' := []) (l' := [(7, y607), (8, y609), (9, y611), (10, y613), (11, y615), (12, y617), (13, y37), (25, (m.1 25) + 1), (28, (m.1 28)), (64, (m.1 64)), (69, (m.1 69)), (70, (m.1 70)), (71, (m.1 71)), (72, (m.1 72)), (73, (m.1 73)), (74, (m.1 74)), (75, (m.1 75)), (99, (m.1 99)), (100, (m.1 100))]) (a' := [(14, F39), (15, F41), (16, F43), (17, F45), (46, upI (m.2 46) (m.1 25) 0), (47, (m.2 47)), (48, (m.2 48)), (49, (m.2 49)), (50, upI (m.2 50) (m.1 25) 0), (65, (m.2 65)), (66, (m.2 66)), (67, (m.2 67)), (68, (m.2 68)), (76, (m.2 76)), (77, (m.2 77)), (78, (m.2 78)), (79, (m.2 79)), (80, (m.2 80)), (81, (m.2 81)), (82, (m.2 82)), (83, (m.2 83)), (84, (m.2 84)), (85, (m.2 85)), (86, (m.2 86)), (87, (m.2 87)), (88, (m.2 88)), (89, (m.2 89)), (90, (m.2 90)), (91, (m.2 91)), (92, (m.2 92)), (101, (m.2 101)), (102, (m.2 102)), (103, (m.2 103)), (104, (m.2 104)), (105, (m.2 105)), (106, (m.2 106)), (107, (m.2 107)), (108, (m.2 108)), (109, upI (m.2 109) (m.1 25) (m.1 99))]) [7, 8, 9, 10, 11, 12] [] rfl ⟨rfl, rfl, rfl, rfl, rfl, rfl, rfl, rfl, rfl, rfl, rfl, rfl, rfl, rfl, rfl, rfl, rfl, rfl, rfl, rfl, rfl, rfl, rfl, rfl, rfl, rfl, rfl, rfl, rfl, rfl, rfl, rfl, rfl, rfl, rfl, rfl, rfl, rfl, trivial⟩ ⟨rfl, rfl, rfl, rfl, rfl, rfl, rfl, rfl, rfl, rfl, rfl, rfl, rfl, rfl, rfl, rfl, rfl, rfl, rfl, rfl, rfl, rfl, rfl, rfl, rfl, rfl, rfl, rfl, rfl, rfl, rfl, rfl, rfl, rfl, rfl, rfl, rfl, rfl, rfl, rfl, rfl, rfl, rfl, rfl, rfl, rfl, rfl, rfl, rfl, rfl, rfl, rfl, rfl, rfl, rfl, rfl, rfl, rfl, rfl, rfl, rfl, rfl, rfl, rfl, rfl, rfl, rfl, rfl, rfl, rfl, rfl, rfl, rfl, rfl, rfl, rfl, rfl, rfl, trivial⟩ rfl rfl (by decide) (by decide) ?_
          replace h619 : LxP y607 y609 y611 (m.1 6) y613 := h619
          replace h620 : y613 = 0 → y594 = 0 ∧ y588 = (123 : Int) := h620
          replace h621 : y590 ≤ y609 := h621
          replace h622 : y613 = 0 → y590 + y592 ≤ y609 := h622
          have hf623 : 1 ≤ y613 := by omega
          clear h620
          clear h622
          have hLx := h619
          clear g589 g591 g593 g595 g597 g599 hf604 h600 h621
          refine T_ld 149 (.ref 189) rfl (fun _ => rfl) ?_
          refine T_ld 150 (.int (i32 (m.1 25))) rfl (fun _ => rfl) ?_
          refine T_pf (l' := [(7, y607), (8, y609), (9, y611), (10, y613), (11, y615), (12, y617), (13, y37), (25, (m.1 25) + 1), (28, (m.1 28)), (64, (m.1 25)), (69, (m.1 69)), (70, (m.1 70)), (71, (m.1 71)), (72, (m.1 72)), (73, (m.1 73)), (74, (m.1 74)), (75, (m.1 75)), (99, (m.1 99)), (100, (m.1 100))]) 153 (m.1 25) rfl rfl rfl rfl rfl rfl ?_
          have g624 : (-1) ≤ (m.1 25) ∧ (m.1 25) ≤ 15 := ⟨by omega, by omega⟩
          refine T_gf 157 (.int (i32 y613)) rfl rfl rfl rfl rfl rfl ?_
          refine T_if 211 160 rfl rfl rfl (r32 (by omega) (by omega)) (fun (h625 : y613 ≠ 0) => ?_) (fun (h625 : ¬ (y613 ≠ 0)) => by exfalso; omega)
          refine T_ld 212 (.ref 189) rfl (fun _ => rfl) ?_
          refine T_ld 213 (.int (i32 (-1))) rfl (fun _ => rfl) ?_
          refine T_pf (l' := [(7, y607), (8, y609), (9, y611), (10, y613), (11, y615), (12, y617), (13, y37), (25, (m.1 25) + 1), (28, (m.1 28)), (64, (-1)), (69, (m.1 69)), (70, (m.1 70)), (71, (m.1 71)), (72, (m.1 72)), (73, (m.1 73)), (74, (m.1 74)), (75, (m.1 75)), (99, (m.1 99)), (100, (m.1 100))]) 216 (-1) rfl rfl rfl rfl rfl rfl ?_
          refine T_ld 217 (.ref 189) rfl (fun _ => rfl) ?_
          refine T_ld 219 (.int (i32 125)) rfl (fun _ => rfl) ?_
          refine T_call 222 232 [.ref 189, .int (i32 125)] [] rfl (fun _ => rfl) rfl (c_need w (mO m [(7, y607), (8, y609), (9, y611), (10, y613), (11, y615), (12, y617), (13, y37), (25, (m.1 25) + 1), (28, (m.1 28)), (64, (-1)), (69, (m.1 69)), (70, (m.1 70)), (71, (m.1 71)), (72, (m.1 72)), (73, (m.1 73)), (74, (m.1 74)), (75, (m.1 75)), (99, (m.1 99)), (100, (m.1 100))] [(14, F39), (15, F41), (16, F43), (17, F45), (46, upI (m.2 46) (m.1 25) 0), (47, (m.2 47)), (48, (m.2 48)), (49, (m.2 49)), (50, upI (m.2 50) (m.1 25) 0), (65, (m.2 65)), (66, (m.2 66)), (67, (m.2 67)), (68, (m.2 68)), (76, (m.2 76)), (77, (m.2 77)), (78, (m.2 78)), (79, (m.2 79)), (80, (m.2 80)), (81, (m.2 81)), (82, (m.2 82)), (83, (m.2 83)), (84, (m.2 84)), (85, (m.2 85)), (86, (m.2 86)), (87, (m.2 87)), (88, (m.2 88)), (89, (m.2 89)), (90, (m.2 90)), (91, (m.2 91)), (92, (m.2 92)), (101, (m.2 101)), (102, (m.2 102)), (103, (m.2 103)), (104, (m.2 104)), (105, (m.2 105)), (106, (m.2 106)), (107, (m.2 107)), (108, (m.2 108)), (109, upI (m.2 109) (m.1 25) (m.1 99))]) c N D (by omega) (Ty_mO hT rfl rfl ⟨g608, g610, g612, g614, g616, g618, g38, g561, f28, ⟨(by omega : ((-1) : Int) ≤ (-1)), (by omega : ((-1) : Int) ≤ 15)⟩, f69, f70, f71, f72, f73, f74, f75, f99, f100, trivial⟩ ⟨G40, G42, G44, G46, G563, (hT.2.1 47), (hT.2.1 48), (hT.2.1 49), G564, (hT.2.1 65), (hT.2.1 66), (hT.2.1 67), (hT.2.1 68), (hT.2.1 76), (hT.2.1 77), (hT.2.1 78), (hT.2.1 79), (hT.2.1 80), (hT.2.1 81), (hT.2.1 82), (hT.2.1 83), (hT.2.1 84), (hT.2.1 85), (hT.2.1 86), (hT.2.1 87), (hT.2.1 88), (hT.2.1 89), (hT.2.1 90), (hT.2.1 91), (hT.2.1 92), (hT.2.1 101), (hT.2.1 102), (hT.2.1 103), (hT.2.1 104), (hT.2.1 105), (hT.2.1 106), (hT.2.1 107), (hT.2.1 108), G562, trivial⟩) 125 ⟨by decide, by decide⟩ (show 1 ≤ (125 : Int) by omega) (show LxP y607 y609 y611 (m.1 6) y613 by first | exact hLx | (intro h9; exfalso; omega) | (intro h9; have h8 := hLx (by omega); omega))) (fun rr626 k627 => ?_)
          obtain ⟨y628, y630, y632, y634, y636, y638, g629, g631, g633, g635, g637, g639, h640, h641, h642, h643, rfl⟩ := k627
          refine ⟨_, _, rfl, ?_⟩
          refine T_nf2 (st' := []) (l' := [(7, y628), (8, y630), (9, y632), (10, y634), (11, y636), (12, y638), (13, y37), (25, (m.1 25) + 1), (28, (m.1 28)), (64, (-1)), (69, (m.1 69)), (70, (m.1 70)), (71, (m.1 71)), (72, (m.1 72)), (73, (m.1 73)), (74, (m.1 74)), (75, (m.1 75)), (99, (m.1 99)), (100, (m.1 100))]) (a' := [(14, F39), (15, F41), (16, F43), (17, F45), (46, upI (m.2 46) (m.1 25) 0), (47, (m.2 47)), (48, (m.2 48)), (49, (m.2 49)), (50, upI (m.2 50) (m.1 25) 0), (65, (m.2 65)), (66, (m.2 66)), (67, (m.2 67)), (68, (m.2 68)), (76, (m.2 76)), (77, (m.2 77)), (78, (m.2 78)), (79, (m.2 79)), (80, (m.2 80)), (81, (m.2 81)), (82, (m.2 82)), (83, (m.2 83)), (84, (m.2 84)), (85, (m.2 85)), (86, (m.2 86)), (87, (m.2 87)), (88, (m.2 88)), (89, (m.2 89)), (90, (m.2 90)), (91, (m.2 91)), (92, (m.2 92)), (101, (m.2 101)), (102, (m.2 102)), (103, (m.2 103)), (104, (m.2 104)), (105, (m.2 105)), (106, (m.2 106)), (107, (m.2 107)), (108, (m.2 108)), (109, upI (m.2 109) (m.1 25) (m.1 99))]) [7, 8, 9, 10, 11, 12] [] rfl ⟨rfl, rfl, rfl, rfl, rfl, rfl, rfl, rfl, rfl, rfl, rfl, rfl, rfl, rfl, rfl, rfl, rfl, rfl, rfl, rfl, rfl, rfl, rfl, rfl, rfl, rfl, rfl, rfl, rfl, rfl, rfl, rfl, rfl, rfl, rfl, rfl, rfl, rfl, trivial⟩ ⟨rfl, rfl, rfl, rfl, rfl, rfl, rfl, rfl, rfl, rfl, rfl, rfl, rfl, rfl, rfl, rfl, rfl, rfl, rfl, rfl, rfl, rfl, rfl, rfl, rfl, rfl, rfl, rfl, rfl, rfl, rfl, rfl, rfl, rfl, rfl, rfl, rfl, rfl, rfl, rfl, rfl, rfl, rfl, rfl, rfl, rfl, rfl, rfl, rfl, rfl, rfl, rfl, rfl, rfl, rfl, rfl, rfl, rfl, rfl, rfl, rfl, rfl, rfl, rfl, rfl, rfl, rfl, rfl, rfl, rfl, rfl, rfl, rfl, rfl, rfl, rfl, rfl, rfl, trivial⟩ rfl rfl (by decide) (by decide) ?_
          replace h640 : LxP y628 y630 y632 (m.1 6) y634 := h640
          replace h641 : y634 = 0 → y613 = 0 ∧ y607 = (125 : Int) := h641
          replace h642 : y609 ≤ y630 := h642
          replace h643 : y634 = 0 → y609 + y611 ≤ y630 := h643
          have hf644 : 1 ≤ y634 := by omega
          clear h641
          clear h643
          have hLx := h640
          clear g608 g610 g612 g614 g616 g618 hf623 h619 h625 h642
          refine T_ret rfl (fun _ => rfl) ?_
          exact ⟨(mO m [(7, y628), (8, y630), (9, y632), (10, y634), (11, y636), (12, y638), (13, y37), (25, (m.1 25) + 1), (28, (m.1 28)), (64, (-1)), (69, (m.1 69)), (70, (m.1 70)), (71, (m.1 71)), (72, (m.1 72)), (73, (m.1 73)), (74, (m.1 74)), (75, (m.1 75)), (99, (m.1 99)), (100, (m.1 100))] [(14, F39), (15, F41), (16, F43), (17, F45), (46, upI (m.2 46) (m.1 25) 0), (47, (m.2 47)), (48, (m.2 48)), (49, (m.2 49)), (50, upI (m.2 50) (m.1 25) 0), (65, (m.2 65)), (66, (m.2 66)), (67, (m.2 67)), (68, (m.2 68)), (76, (m.2 76)), (77, (m.2 77)), (78, (m.2 78)), (79, (m.2 79)), (80, (m.2 80)), (81, (m.2 81)), (82, (m.2 82)), (83, (m.2 83)), (84, (m.2 84)), (85, (m.2 85)), (86, (m.2 86)), (87, (m.2 87)), (88, (m.2 88)), (89, (m.2 89)), (90, (m.2 90)), (91, (m.2 91)), (92, (m.2 92)), (101, (m.2 101)), (102, (m.2 102)), (103, (m.2 103)), (104, (m.2 104)), (105, (m.2 105)), (106, (m.2 106)), (107, (m.2 107)), (108, (m.2 108)), (109, upI (m.2 109) (m.1 25) (m.1 99))]), (Ty_mO hT rfl rfl ⟨g629, g631, g633, g635, g637, g639, g38, g561, f28, ⟨(by omega : ((-1) : Int) ≤ (-1)), (by omega : ((-1) : Int) ≤ 15)⟩, f69, f70, f71, f72, f73, f74, f75, f99, f100, trivial⟩ ⟨G40, G42, G44, G46, G563, (hT.2.1 47), (hT.2.1 48), (hT.2.1 49), G564, (hT.2.1 65), (hT.2.1 66), (hT.2.1 67), (hT.2.1 68), (hT.2.1 76), (hT.2.1 77), (hT.2.1 78), (hT.2.1 79), (hT.2.1 80), (hT.2.1 81), (hT.2.1 82), (hT.2.1 83), (hT.2.1 84), (hT.2.1 85), (hT.2.1 86), (hT.2.1 87), (hT.2.1 88), (hT.2.1 89), (hT.2.1 90), (hT.2.1 91), (hT.2.1 92), (hT.2.1 101), (hT.2.1 102), (hT.2.1 103), (hT.2.1 104), (hT.2.1 105), (hT.2.1 106), (hT.2.1 107), (hT.2.1 108), G562, trivial⟩), (show y634 = 0 → (m.1 10) = 0 by omega), (show LxP y628 y630 y632 (m.1 6) y634 by first | (first | exact hLx | exact (fun _ => hLx (by omega)) | (intro h9; exfalso; omega)) | (exfalso; omega)), (show ∀ k, F39 k + F41 k ≤ 4000 by first | (exact hNM) | (exfalso; omega)), (show ∀ k, (m.2 47) k + (m.2 48) k ≤ 4000 by first | (exact hPA) | (exfalso; omega)), (fun (h : y634 = 0) => absurd h (by omega)), rfl⟩
        · skip
          refine T_ret rfl (fun _ => rfl) ?_
          exact ⟨(mO m [(7, y25), (8, y27), (9, y29), (10, y31), (11, y33), (12, y35), (13, y37), (25, (m.1 25)), (28, (m.1 28)), (64, (m.1 64)), (69, (m.1 69)), (70, (m.1 70)), (71, (m.1 71)), (72, (m.1 72)), (73, (m.1 73)), (74, (m.1 74)), (75, (m.1 75)), (99, (m.1 99)), (100, (m.1 100))] [(14, F39), (15, F41), (16, F43), (17, F45), (46, (m.2 46)), (47, (m.2 47)), (48, (m.2 48)), (49, (m.2 49)), (50, (m.2 50)), (65, (m.2 65)), (66, (m.2 66)), (67, (m.2 67)), (68, (m.2 68)), (76, (m.2 76)), (77, (m.2 77)), (78, (m.2 78)), (79, (m.2 79)), (80, (m.2 80)), (81, (m.2 81)), (82, (m.2 82)), (83, (m.2 83)), (84, (m.2 84)), (85, (m.2 85)), (86, (m.2 86)), (87, (m.2 87)), (88, (m.2 88)), (89, (m.2 89)), (90, (m.2 90)), (91, (m.2 91)), (92, (m.2 92)), (101, (m.2 101)), (102, (m.2 102)), (103, (m.2 103)), (104, (m.2 104)), (105, (m.2 105)), (106, (m.2 106)), (107, (m.2 107)), (108, (m.2 108)), (109, (m.2 109))]), (Ty_mO hT rfl rfl ⟨g26, g28, g30, g32, g34, g36, g38, f25, f28, f64, f69, f70, f71, f72, f73, f74, f75, f99, f100, trivial⟩ ⟨G40, G42, G44, G46, (hT.2.1 46), (hT.2.1 47), (hT.2.1 48), (hT.2.1 49), (hT.2.1 50), (hT.2.1 65), (hT.2.1 66), (hT.2.1 67), (hT.2.1 68), (hT.2.1 76), (hT.2.1 77), (hT.2.1 78), (hT.2.1 79), (hT.2.1 80), (hT.2.1 81), (hT.2.1 82), (hT.2.1 83), (hT.2.1 84), (hT.2.1 85), (hT.2.1 86), (hT.2.1 87), (hT.2.1 88), (hT.2.1 89), (hT.2.1 90), (hT.2.1 91), (hT.2.1 92), (hT.2.1 101), (hT.2.1 102), (hT.2.1 103), (hT.2.1 104), (hT.2.1 105), (hT.2.1 106), (hT.2.1 107), (hT.2.1 108), (hT.2.1 109), trivial⟩), (show y31 = 0 → (m.1 10) = 0 by omega), (show LxP y25 y27 y29 (m.1 6) y31 by first | (first | exact hLx | exact (fun _ => hLx (by omega)) | (intro h9; exfalso; omega)) | (exfalso; omega)), (show ∀ k, F39 k + F41 k ≤ 4000 by first | (exact hNM) | (exfalso; omega)), (show ∀ k, (m.2 47) k + (m.2 48) k ≤ 4000 by first | (exact hPA) | (exfalso; omega)), (fun (h : y31 = 0) => absurd h (by omega)), rfl⟩
    · skip
      replace h17 : LxP y5 y7 y9 (m.1 6) y11 := h17
      have hLx := h17
      clear h18
      replace h19 : (m.1 8) ≤ y7 := h19
      clear h20
      have hf645 : 1 ≤ y11 := by omega
      refine T_ld 5 (.ref 189) rfl (fun _ => rfl) ?_
      refine T_ld 7 (.int (i32 6)) rfl (fun _ => rfl) ?_
      refine T_gf 11 (.int (i32 (m.1 25))) rfl rfl rfl rfl rfl rfl ?_
      refine T_ld 13 (.int (i32 16)) rfl (fun _ => rfl) ?_
      refine T_call 16 225 [.ref 189, .int (i32 6), .int (i32 (m.1 25)), .int (i32 16)] [] rfl (fun _ => rfl) rfl (c_newName w (mO m [(7, y5), (8, y7), (9, y9), (10, y11), (11, y13), (12, y15), (13, (m.1 13)), (25, (m.1 25)), (28, (m.1 28)), (64, (m.1 64)), (69, (m.1 69)), (70, (m.1 70)), (71, (m.1 71)), (72, (m.1 72)), (73, (m.1 73)), (74, (m.1 74)), (75, (m.1 75)), (99, (m.1 99)), (100, (m.1 100))] [(14, (m.2 14)), (15, (m.2 15)), (16, (m.2 16)), (17, (m.2 17)), (46, (m.2 46)), (47, (m.2 47)), (48, (m.2 48)), (49, (m.2 49)), (50, (m.2 50)), (65, (m.2 65)), (66, (m.2 66)), (67, (m.2 67)), (68, (m.2 68)), (76, (m.2 76)), (77, (m.2 77)), (78, (m.2 78)), (79, (m.2 79)), (80, (m.2 80)), (81, (m.2 81)), (82, (m.2 82)), (83, (m.2 83)), (84, (m.2 84)), (85, (m.2 85)), (86, (m.2 86)), (87, (m.2 87)), (88, (m.2 88)), (89, (m.2 89)), (90, (m.2 90)), (91, (m.2 91)), (92, (m.2 92)), (101, (m.2 101)), (102, (m.2 102)), (103, (m.2 103)), (104, (m.2 104)), (105, (m.2 105)), (106, (m.2 106)), (107, (m.2 107)), (108, (m.2 108)), (109, (m.2 109))]) c N D (by omega) (Ty_mO hT rfl rfl ⟨g6, g8, g10, g12, g14, g16, f13, f25, f28, f64, f69, f70, f71, f72, f73, f74, f75, f99, f100, trivial⟩ ⟨(hT.2.1 14), (hT.2.1 15), (hT.2.1 16), (hT.2.1 17), (hT.2.1 46), (hT.2.1 47), (hT.2.1 48), (hT.2.1 49), (hT.2.1 50), (hT.2.1 65), (hT.2.1 66), (hT.2.1 67), (hT.2.1 68), (hT.2.1 76), (hT.2.1 77), (hT.2.1 78), (hT.2.1 79), (hT.2.1 80), (hT.2.1 81), (hT.2.1 82), (hT.2.1 83), (hT.2.1 84), (hT.2.1 85), (hT.2.1 86), (hT.2.1 87), (hT.2.1 88), (hT.2.1 89), (hT.2.1 90), (hT.2.1 91), (hT.2.1 92), (hT.2.1 101), (hT.2.1 102), (hT.2.1 103), (hT.2.1 104), (hT.2.1 105), (hT.2.1 106), (hT.2.1 107), (hT.2.1 108), (hT.2.1 109), trivial⟩) 6 (m.1 25) 16 ⟨by decide, by decide⟩ (r32 (by omega) (by omega)) ⟨by decide, by decide⟩ (show LxP y5 y7 y9 (m.1 6) y11 by first | exact hLx | (intro h9; exfalso; omega) | (intro h9; have h8 := hLx (by omega); omega)) (show ∀ k, (m.2 14) k + (m.2 15) k ≤ 4000 by first | exact p1 | exact hNM) (show y11 = 0 → (m.1 13) ≤ 119 by omega) (show 1 ≤ (6 : Int) ∧ (6 : Int) ≤ 7 by omega) (show 0 ≤ (m.1 25) ∧ ((m.1 25) ≠ (16 : Int) → (m.1 25) ≤ 15) by omega)) (fun rr646 k647 => ?_)
      obtain ⟨y648, y650, y652, y654, y656, y658, y660, F662, F664, F666, F668, nn, g649, g651, g653, g655, g657, g659, g661, G663, G665, G667, G669, g670, h671, h672, h673, h674, h675, h676, h677, rfl⟩ := k647
      refine ⟨_, _, rfl, ?_⟩
      refine T_nf2 (st' := [.int (i32 nn)]) (l' := [(7, y648), (8, y650), (9, y652), (10, y654), (11, y656), (12, y658), (13, y660), (25, (m.1 25)), (28, (m.1 28)), (64, (m.1 64)), (69, (m.1 69)), (70, (m.1 70)), (71, (m.1 71)), (72, (m.1 72)), (73, (m.1 73)), (74, (m.1 74)), (75, (m.1 75)), (99, (m.1 99)), (100, (m.1 100))]) (a' := [(14, F662), (15, F664), (16, F666), (17, F668), (46, (m.2 46)), (47, (m.2 47)), (48, (m.2 48)), (49, (m.2 49)), (50, (m.2 50)), (65, (m.2 65)), (66, (m.2 66)), (67, (m.2 67)), (68, (m.2 68)), (76, (m.2 76)), (77, (m.2 77)), (78, (m.2 78)), (79, (m.2 79)), (80, (m.2 80)), (81, (m.2 81)), (82, (m.2 82)), (83, (m.2 83)), (84, (m.2 84)), (85, (m.2 85)), (86, (m.2 86)), (87, (m.2 87)), (88, (m.2 88)), (89, (m.2 89)), (90, (m.2 90)), (91, (m.2 91)), (92, (m.2 92)), (101, (m.2 101)), (102, (m.2 102)), (103, (m.2 103)), (104, (m.2 104)), (105, (m.2 105)), (106, (m.2 106)), (107, (m.2 107)), (108, (m.2 108)), (109, (m.2 109))]) [7, 8, 9, 10, 11, 12, 13] [14, 15, 16, 17] rfl ⟨rfl, rfl, rfl, rfl, rfl, rfl, rfl, rfl, rfl, rfl, rfl, rfl, rfl, rfl, rfl, rfl, rfl, rfl, rfl, rfl, rfl, rfl, rfl, rfl, rfl, rfl, rfl, rfl, rfl, rfl, rfl, rfl, rfl, rfl, rfl, rfl, rfl, rfl, trivial⟩ ⟨rfl, rfl, rfl, rfl, rfl, rfl, rfl, rfl, rfl, rfl, rfl, rfl, rfl, rfl, rfl, rfl, rfl, rfl, rfl, rfl, rfl, rfl, rfl, rfl, rfl, rfl, rfl, rfl, rfl, rfl, rfl, rfl, rfl, rfl, rfl, rfl, rfl, rfl, rfl, rfl, rfl, rfl, rfl, rfl, rfl, rfl, rfl, rfl, rfl, rfl, rfl, rfl, rfl, rfl, rfl, rfl, rfl, rfl, rfl, rfl, rfl, rfl, rfl, rfl, rfl, rfl, rfl, rfl, rfl, rfl, rfl, rfl, rfl, rfl, rfl, rfl, rfl, rfl, trivial⟩ rfl rfl (by decide) (by decide) ?_
      obtain ⟨g670a, g670b⟩ := g670
      replace h671 : LxP y648 y650 y652 (m.1 6) y654 := h671
      replace h672 : y7 ≤ y650 := h672
      replace h673 : y654 = 0 → y11 = 0 ∧ y7 + y9 ≤ y650 := h673
      replace h674 : y654 = 0 → nn = 1 ∧ y5 = 1 := h674
      replace h675 : nn = 1 → (m.1 25) ≠ (16 : Int) := h675
      replace h676 : ∀ k, F662 k + F664 k ≤ 4000 := h676
      replace h677 : (nn = 1 ∧ y11 = 0 ∧ y660 = (m.1 13) + 1 ∧ F662 = upI (m.2 14) (m.1 13) y7 ∧ F664 = upI (m.2 15) (m.1 13) y9 ∧ F666 = upI (m.2 16) (m.1 13) (6 : Int) ∧ F668 = upI (m.2 17) (m.1 13) (m.1 25)) ∨ (nn = 0 ∧ 0 < y654 ∧ y660 = (m.1 13) ∧ F662 = (m.2 14) ∧ F664 = (m.2 15) ∧ F666 = (m.2 16) ∧ F668 = (m.2 17)) := h677
      have hf678 : 1 ≤ y654 := by omega
      clear h673
      clear h674
      have hLx := h671
      have hNM := h676
      have hN := h677
      clear g6 g8 g10 g12 g14 g16 h17 h19 hf645 h672 h677
      refine T_if 20 19 rfl rfl rfl (r32 (by omega) (by omega)) (fun (h679 : nn ≠ 0) => ?_) (fun (h679 : ¬ (nn ≠ 0)) => ?_)
      · skip
        refine T_gf 24 (.int (i32 (m.1 25))) rfl rfl rfl rfl rfl rfl ?_
        refine T_sto 25 [(1, .int (i32 (m.1 25))), (0, .ref 189)] rfl (fun _ => rfl) ?_
        refine T_ld 26 (.ref 189) rfl (fun _ => rfl) ?_
        refine T_ld 27 (.ref 189) rfl (fun _ => rfl) ?_
        refine T_gf1 30 (.int (i32 (m.1 25))) rfl rfl rfl rfl ?_
        refine T_ld 31 (.int (i32 1)) rfl (fun _ => rfl) ?_
        refine T_iadd 32 rfl rfl ?_
        refine T_pf (l' := [(7, y648), (8, y650), (9, y652), (10, y654), (11, y656), (12, y658), (13, y660), (25, (m.1 25) + 1), (28, (m.1 28)), (64, (m.1 64)), (69, (m.1 69)), (70, (m.1 70)), (71, (m.1 71)), (72, (m.1 72)), (73, (m.1 73)), (74, (m.1 74)), (75, (m.1 75)), (99, (m.1 99)), (100, (m.1 100))]) 35 ((m.1 25) + 1) rfl rfl rfl rfl rfl rfl ?_
        have g680 : 0 ≤ (m.1 25) + 1 ∧ (m.1 25) + 1 ≤ 16 := ⟨by omega, by omega⟩
        refine T_gf 39 (.ref 269) rfl rfl rfl rfl rfl rfl ?_
        refine T_ld 40 (.int (i32 (m.1 25))) rfl (fun _ => rfl) ?_
        refine T_gf 44 (.int (i32 (m.1 99))) rfl rfl rfl rfl rfl rfl ?_
        have G681 : ∀ j, 0 ≤ (upI (m.2 109) (m.1 25) (m.1 99)) j ∧ (upI (m.2 109) (m.1 25) (m.1 99)) j ≤ 192 := upI_rg (hT.2.1 109) ⟨by omega, by omega⟩
        refine T_iast (a' := [(14, F662), (15, F664), (16, F666), (17, F668), (46, (m.2 46)), (47, (m.2 47)), (48, (m.2 48)), (49, (m.2 49)), (50, (m.2 50)), (65, (m.2 65)), (66, (m.2 66)), (67, (m.2 67)), (68, (m.2 68)), (76, (m.2 76)), (77, (m.2 77)), (78, (m.2 78)), (79, (m.2 79)), (80, (m.2 80)), (81, (m.2 81)), (82, (m.2 82)), (83, (m.2 83)), (84, (m.2 84)), (85, (m.2 85)), (86, (m.2 86)), (87, (m.2 87)), (88, (m.2 88)), (89, (m.2 89)), (90, (m.2 90)), (91, (m.2 91)), (92, (m.2 92)), (101, (m.2 101)), (102, (m.2 102)), (103, (m.2 103)), (104, (m.2 104)), (105, (m.2 105)), (106, (m.2 106)), (107, (m.2 107)), (108, (m.2 108)), (109, upI (m.2 109) (m.1 25) (m.1 99))]) 45 109 (m.2 109) rfl rfl rfl (by omega) (show (m.1 25) < (16 : Int) by omega) rfl rfl ?_
        refine T_gf 49 (.ref 216) rfl rfl rfl rfl rfl rfl ?_
        refine T_ld 50 (.int (i32 (m.1 25))) rfl (fun _ => rfl) ?_
        refine T_ld 51 (.int (i32 0)) rfl (fun _ => rfl) ?_
        have G682 : ∀ j, 0 ≤ (upI (m.2 46) (m.1 25) 0) j ∧ (upI (m.2 46) (m.1 25) 0) j ≤ 4 := upI_rg (hT.2.1 46) ⟨by omega, by omega⟩
        refine T_iast (a' := [(14, F662), (15, F664), (16, F666), (17, F668), (46, upI (m.2 46) (m.1 25) 0), (47, (m.2 47)), (48, (m.2 48)), (49, (m.2 49)), (50, (m.2 50)), (65, (m.2 65)), (66, (m.2 66)), (67, (m.2 67)), (68, (m.2 68)), (76, (m.2 76)), (77, (m.2 77)), (78, (m.2 78)), (79, (m.2 79)), (80, (m.2 80)), (81, (m.2 81)), (82, (m.2 82)), (83, (m.2 83)), (84, (m.2 84)), (85, (m.2 85)), (86, (m.2 86)), (87, (m.2 87)), (88, (m.2 88)), (89, (m.2 89)), (90, (m.2 90)), (91, (m.2 91)), (92, (m.2 92)), (101, (m.2 101)), (102, (m.2 102)), (103, (m.2 103)), (104, (m.2 104)), (105, (m.2 105)), (106, (m.2 106)), (107, (m.2 107)), (108, (m.2 108)), (109, upI (m.2 109) (m.1 25) (m.1 99))]) 52 46 (m.2 46) rfl rfl rfl (by omega) (show (m.1 25) < (16 : Int) by omega) rfl rfl ?_
        refine T_gf 56 (.ref 220) rfl rfl rfl rfl rfl rfl ?_
        refine T_ld 57 (.int (i32 (m.1 25))) rfl (fun _ => rfl) ?_
        refine T_ld 58 (.int (i32 0)) rfl (fun _ => rfl) ?_
        have G683 : ∀ j, 0 ≤ (upI (m.2 50) (m.1 25) 0) j ∧ (upI (m.2 50) (m.1 25) 0) j ≤ 13 := upI_rg (hT.2.1 50) ⟨by omega, by omega⟩
        refine T_iast (a' := [(14, F662), (15, F664), (16, F666), (17, F668), (46, upI (m.2 46) (m.1 25) 0), (47, (m.2 47)), (48, (m.2 48)), (49, (m.2 49)), (50, upI (m.2 50) (m.1 25) 0), (65, (m.2 65)), (66, (m.2 66)), (67, (m.2 67)), (68, (m.2 68)), (76, (m.2 76)), (77, (m.2 77)), (78, (m.2 78)), (79, (m.2 79)), (80, (m.2 80)), (81, (m.2 81)), (82, (m.2 82)), (83, (m.2 83)), (84, (m.2 84)), (85, (m.2 85)), (86, (m.2 86)), (87, (m.2 87)), (88, (m.2 88)), (89, (m.2 89)), (90, (m.2 90)), (91, (m.2 91)), (92, (m.2 92)), (101, (m.2 101)), (102, (m.2 102)), (103, (m.2 103)), (104, (m.2 104)), (105, (m.2 105)), (106, (m.2 106)), (107, (m.2 107)), (108, (m.2 108)), (109, upI (m.2 109) (m.1 25) (m.1 99))]) 59 50 (m.2 50) rfl rfl rfl (by omega) (show (m.1 25) < (16 : Int) by omega) rfl rfl ?_
        refine T_ld 60 (.ref 189) rfl (fun _ => rfl) ?_
        refine T_ld 62 (.int (i32 40)) rfl (fun _ => rfl) ?_
        refine T_call 65 232 [.ref 189, .int (i32 40)] [] rfl (fun _ => rfl) rfl (c_need w (mO m [(7, y648), (8, y650), (9, y652), (10, y654), (11, y656), (12, y658), (13, y660), (25, (m.1 25) + 1), (28, (m.1 28)), (64, (m.1 64)), (69, (m.1 69)), (70, (m.1 70)), (71, (m.1 71)), (72, (m.1 72)), (73, (m.1 73)), (74, (m.1 74)), (75, (m.1 75)), (99, (m.1 99)), (100, (m.1 100))] [(14, F662), (15, F664), (16, F666), (17, F668), (46, upI (m.2 46) (m.1 25) 0), (47, (m.2 47)), (48, (m.2 48)), (49, (m.2 49)), (50, upI (m.2 50) (m.1 25) 0), (65, (m.2 65)), (66, (m.2 66)), (67, (m.2 67)), (68, (m.2 68)), (76, (m.2 76)), (77, (m.2 77)), (78, (m.2 78)), (79, (m.2 79)), (80, (m.2 80)), (81, (m.2 81)), (82, (m.2 82)), (83, (m.2 83)), (84, (m.2 84)), (85, (m.2 85)), (86, (m.2 86)), (87, (m.2 87)), (88, (m.2 88)), (89, (m.2 89)), (90, (m.2 90)), (91, (m.2 91)), (92, (m.2 92)), (101, (m.2 101)), (102, (m.2 102)), (103, (m.2 103)), (104, (m.2 104)), (105, (m.2 105)), (106, (m.2 106)), (107, (m.2 107)), (108, (m.2 108)), (109, upI (m.2 109) (m.1 25) (m.1 99))]) c N D (by omega) (Ty_mO hT rfl rfl ⟨g649, g651, g653, g655, g657, g659, g661, g680, f28, f64, f69, f70, f71, f72, f73, f74, f75, f99, f100, trivial⟩ ⟨G663, G665, G667, G669, G682, (hT.2.1 47), (hT.2.1 48), (hT.2.1 49), G683, (hT.2.1 65), (hT.2.1 66), (hT.2.1 67), (hT.2.1 68), (hT.2.1 76), (hT.2.1 77), (hT.2.1 78), (hT.2.1 79), (hT.2.1 80), (hT.2.1 81), (hT.2.1 82), (hT.2.1 83), (hT.2.1 84), (hT.2.1 85), (hT.2.1 86), (hT.2.1 87), (hT.2.1 88), (hT.2.1 89), (hT.2.1 90), (hT.2.1 91), (hT.2.1 92), (hT.2.1 101), (hT.2.1 102), (hT.2.1 103), (hT.2.1 104), (hT.2.1 105), (hT.2.1 106), (hT.2.1 107), (hT.2.1 108), G681, trivial⟩) 40 ⟨by decide, by decide⟩ (show 1 ≤ (40 : Int) by omega) (show LxP y648 y650 y652 (m.1 6) y654 by first | exact hLx | (intro h9; exfalso; omega) | (intro h9; have h8 := hLx (by omega); omega))) (fun rr684 k685 => ?_)
        obtain ⟨y686, y688, y690, y692, y694, y696, g687, g689, g691, g693, g695, g697, h698, h699, h700, h701, rfl⟩ := k685
        refine ⟨_, _, rfl, ?_⟩
        refine T_nf2 (st' := []) (l' := [(7, y686), (8, y688), (9, y690), (10, y692), (11, y694), (12, y696), (13, y660), (25, (m.1 25) + 1), (28, (m.1 28)), (64, (m.1 64)), (69, (m.1 69)), (70, (m.1 70)), (71, (m.1 71)), (72, (m.1 72)), (73, (m.1 73)), (74, (m.1 74)), (75, (m.1 75)), (99, (m.1 99)), (100, (m.1 100))]) (a' := [(14, F662), (15, F664), (16, F666), (17, F668), (46, upI (m.2 46) (m.1 25) 0), (47, (m.2 47)), (48, (m.2 48)), (49, (m.2 49)), (50, upI (m.2 50) (m.1 25) 0), (65, (m.2 65)), (66, (m.2 66)), (67, (m.2 67)), (68, (m.2 68)), (76, (m.2 76)), (77, (m.2 77)), (78, (m.2 78)), (79, (m.2 79)), (80, (m.2 80)), (81, (m.2 81)), (82, (m.2 82)), (83, (m.2 83)), (84, (m.2 84)), (85, (m.2 85)), (86, (m.2 86)), (87, (m.2 87)), (88, (m.2 88)), (89, (m.2 89)), (90, (m.2 90)), (91, (m.2 91)), (92, (m.2 92)), (101, (m.2 101)), (102, (m.2 102)), (103, (m.2 103)), (104, (m.2 104)), (105, (m.2 105)), (106, (m.2 106)), (107, (m.2 107)), (108, (m.2 108)), (109, upI (m.2 109) (m.1 25) (m.1 99))]) [7, 8, 9, 10, 11, 12] [] rfl ⟨rfl, rfl, rfl, rfl, rfl, rfl, rfl, rfl, rfl, rfl, rfl, rfl, rfl, rfl, rfl, rfl, rfl, rfl, rfl, rfl, rfl, rfl, rfl, rfl, rfl, rfl, rfl, rfl, rfl, rfl, rfl, rfl, rfl, rfl, rfl, rfl, rfl, rfl, trivial⟩ ⟨rfl, rfl, rfl, rfl, rfl, rfl, rfl, rfl, rfl, rfl, rfl, rfl, rfl, rfl, rfl, rfl, rfl, rfl, rfl, rfl, rfl, rfl, rfl, rfl, rfl, rfl, rfl, rfl, rfl, rfl, rfl, rfl, rfl, rfl, rfl, rfl, rfl, rfl, rfl, rfl, rfl, rfl, rfl, rfl, rfl, rfl, rfl, rfl, rfl, rfl, rfl, rfl, rfl, rfl, rfl, rfl, rfl, rfl, rfl, rfl, rfl, rfl, rfl, rfl, rfl, rfl, rfl, rfl, rfl, rfl, rfl, rfl, rfl, rfl, rfl, rfl, rfl, rfl, trivial⟩ rfl rfl (by decide) (by decide) ?_
        replace h698 : LxP y686 y688 y690 (m.1 6) y692 := h698
        replace h699 : y692 = 0 → y654 = 0 ∧ y648 = (40 : Int) := h699
        replace h700 : y650 ≤ y688 := h700
        replace h701 : y692 = 0 → y650 + y652 ≤ y688 := h701
        have hf702 : 1 ≤ y692 := by omega
        clear h699
        clear h701
        have hLx := h698
        clear g649 g651 g653 g655 g657 g659 g670a g670b hf678 h671 h675 h679 h700
        refine T_gf 69 (.int (i32 y692)) rfl rfl rfl rfl rfl rfl ?_
        refine T_if 85 72 rfl rfl rfl (r32 (by omega) (by omega)) (fun (h703 : y692 ≠ 0) => ?_) (fun (h703 : ¬ (y692 ≠ 0)) => by exfalso; omega)
        refine T_ld 86 (.int (i32 0)) rfl (fun _ => rfl) ?_
        refine T_sto 87 [(2, .int (i32 0)), (1, .int (i32 (m.1 25))), (0, .ref 189)] rfl (fun _ => rfl) ?_
        refine T_ld 88 (.int (i32 0)) rfl (fun _ => rfl) ?_
        refine T_if 136 91 rfl rfl rfl ⟨by decide, by decide⟩ (fun _ => ?_) (fun h704 => absurd (show (0 : Int) = 0 by decide) h704)
        refine T_ld 137 (.ref 189) rfl (fun _ => rfl) ?_
        refine T_ld 139 (.int (i32 41)) rfl (fun _ => rfl) ?_
        refine T_call 142 232 [.ref 189, .int (i32 41)] [] rfl (fun _ => rfl) rfl (c_need w (mO m [(7, y686), (8, y688), (9, y690), (10, y692), (11, y694), (12, y696), (13, y660), (25, (m.1 25) + 1), (28, (m.1 28)), (64, (m.1 64)), (69, (m.1 69)), (70, (m.1 70)), (71, (m.1 71)), (72, (m.1 72)), (73, (m.1 73)), (74, (m.1 74)), (75, (m.1 75)), (99, (m.1 99)), (100, (m.1 100))] [(14, F662), (15, F664), (16, F666), (17, F668), (46, upI (m.2 46) (m.1 25) 0), (47, (m.2 47)), (48, (m.2 48)), (49, (m.2 49)), (50, upI (m.2 50) (m.1 25) 0), (65, (m.2 65)), (66, (m.2 66)), (67, (m.2 67)), (68, (m.2 68)), (76, (m.2 76)), (77, (m.2 77)), (78, (m.2 78)), (79, (m.2 79)), (80, (m.2 80)), (81, (m.2 81)), (82, (m.2 82)), (83, (m.2 83)), (84, (m.2 84)), (85, (m.2 85)), (86, (m.2 86)), (87, (m.2 87)), (88, (m.2 88)), (89, (m.2 89)), (90, (m.2 90)), (91, (m.2 91)), (92, (m.2 92)), (101, (m.2 101)), (102, (m.2 102)), (103, (m.2 103)), (104, (m.2 104)), (105, (m.2 105)), (106, (m.2 106)), (107, (m.2 107)), (108, (m.2 108)), (109, upI (m.2 109) (m.1 25) (m.1 99))]) c N D (by omega) (Ty_mO hT rfl rfl ⟨g687, g689, g691, g693, g695, g697, g661, g680, f28, f64, f69, f70, f71, f72, f73, f74, f75, f99, f100, trivial⟩ ⟨G663, G665, G667, G669, G682, (hT.2.1 47), (hT.2.1 48), (hT.2.1 49), G683, (hT.2.1 65), (hT.2.1 66), (hT.2.1 67), (hT.2.1 68), (hT.2.1 76), (hT.2.1 77), (hT.2.1 78), (hT.2.1 79), (hT.2.1 80), (hT.2.1 81), (hT.2.1 82), (hT.2.1 83), (hT.2.1 84), (hT.2.1 85), (hT.2.1 86), (hT.2.1 87), (hT.2.1 88), (hT.2.1 89), (hT.2.1 90), (hT.2.1 91), (hT.2.1 92), (hT.2.1 101), (hT.2.1 102), (hT.2.1 103), (hT.2.1 104), (hT.2.1 105), (hT.2.1 106), (hT.2.1 107), (hT.2.1 108), G681, trivial⟩) 41 ⟨by decide, by decide⟩ (show 1 ≤ (41 : Int) by omega) (show LxP y686 y688 y690 (m.1 6) y692 by first | exact hLx | (intro h9; exfalso; omega) | (intro h9; have h8 := hLx (by omega); omega))) (fun rr705 k706 => ?_)
        obtain ⟨y707, y709, y711, y713, y715, y717, g708, g710, g712, g714, g716, g718, h719, h720, h721, h722, rfl⟩ := k706
        refine ⟨_, _, rfl, ?_⟩
        refine T_nf2 (st' := []) (l' := [(7, y707), (8, y709), (9, y711), (10, y713), (11, y715), (12, y717), (13, y660), (25, (m.1 25) + 1), (28, (m.1 28)), (64, (m.1 64)), (69, (m.1 69)), (70, (m.1 70)), (71, (m.1 71)), (72, (m.1 72)), (73, (m.1 73)), (74, (m.1 74)), (75, (m.1 75)), (99, (m.1 99)), (100, (m.1 100))]) (a' := [(14, F662), (15, F664), (16, F666), (17, F668), (46, upI (m.2 46) (m.1 25) 0), (47, (m.2 47)), (48, (m.2 48)), (49, (m.2 49)), (50, upI (m.2 50) (m.1 25) 0), (65, (m.2 65)), (66, (m.2 66)), (67, (m.2 67)), (68, (m.2 68)), (76, (m.2 76)), (77, (m.2 77)), (78, (m.2 78)), (79, (m.2 79)), (80, (m.2 80)), (81, (m.2 81)), (82, (m.2 82)), (83, (m.2 83)), (84, (m.2 84)), (85, (m.2 85)), (86, (m.2 86)), (87, (m.2 87)), (88, (m.2 88)), (89, (m.2 89)), (90, (m.2 90)), (91, (m.2 91)), (92, (m.2 92)), (101, (m.2 101)), (102, (m.2 102)), (103, (m.2 103)), (104, (m.2 104)), (105, (m.2 105)), (106, (m.2 106)), (107, (m.2 107)), (108, (m.2 108)), (109, upI (m.2 109) (m.1 25) (m.1 99))]) [7, 8, 9, 10, 11, 12] [] rfl ⟨rfl, rfl, rfl, rfl, rfl, rfl, rfl, rfl, rfl, rfl, rfl, rfl, rfl, rfl, rfl, rfl, rfl, rfl, rfl, rfl, rfl, rfl, rfl, rfl, rfl, rfl, rfl, rfl, rfl, rfl, rfl, rfl, rfl, rfl, rfl, rfl, rfl, rfl, trivial⟩ ⟨rfl, rfl, rfl, rfl, rfl, rfl, rfl, rfl, rfl, rfl, rfl, rfl, rfl, rfl, rfl, rfl, rfl, rfl, rfl, rfl, rfl, rfl, rfl, rfl, rfl, rfl, rfl, rfl, rfl, rfl, rfl, rfl, rfl, rfl, rfl, rfl, rfl, rfl, rfl, rfl, rfl, rfl, rfl, rfl, rfl, rfl, rfl, rfl, rfl, rfl, rfl, rfl, rfl, rfl, rfl, rfl, rfl, rfl, rfl, rfl, rfl, rfl, rfl, rfl, rfl, rfl, rfl, rfl, rfl, rfl, rfl, rfl, rfl, rfl, rfl, rfl, rfl, rfl, trivial⟩ rfl rfl (by decide) (by decide) ?_
        replace h719 : LxP y707 y709 y711 (m.1 6) y713 := h719
        replace h720 : y713 = 0 → y692 = 0 ∧ y686 = (41 : Int) := h720
        replace h721 : y688 ≤ y709 := h721
        replace h722 : y713 = 0 → y688 + y690 ≤ y709 := h722
        have hf723 : 1 ≤ y713 := by omega
        clear h720
        clear h722
        have hLx := h719
        clear g687 g689 g691 g693 g695 g697 hf702 h698 h703 h721
        refine T_ld 143 (.ref 189) rfl (fun _ => rfl) ?_
        refine T_ld 145 (.int (i32 123)) rfl (fun _ => rfl) ?_
        refine T_call 148 232 [.ref 189, .int (i32 123)] [] rfl (fun _ => rfl) rfl (c_need w (mO m [(7, y707), (8, y709), (9, y711), (10, y713), (11, y715), (12, y717), (13, y660), (25, (m.1 25) + 1), (28, (m.1 28)), (64, (m.1 64)), (69, (m.1 69)), (70, (m.1 70)), (71, (m.1 71)), (72, (m.1 72)), (73, (m.1 73)), (74, (m.1 74)), (75, (m.1 75)), (99, (m.1 99)), (100, (m.1 100))] [(14, F662), (15, F664), (16, F666), (17, F668), (46, upI (m.2 46) (m.1 25) 0), (47, (m.2 47)), (48, (m.2 48)), (49, (m.2 49)), (50, upI (m.2 50) (m.1 25) 0), (65, (m.2 65)), (66, (m.2 66)), (67, (m.2 67)), (68, (m.2 68)), (76, (m.2 76)), (77, (m.2 77)), (78, (m.2 78)), (79, (m.2 79)), (80, (m.2 80)), (81, (m.2 81)), (82, (m.2 82)), (83, (m.2 83)), (84, (m.2 84)), (85, (m.2 85)), (86, (m.2 86)), (87, (m.2 87)), (88, (m.2 88)), (89, (m.2 89)), (90, (m.2 90)), (91, (m.2 91)), (92, (m.2 92)), (101, (m.2 101)), (102, (m.2 102)), (103, (m.2 103)), (104, (m.2 104)), (105, (m.2 105)), (106, (m.2 106)), (107, (m.2 107)), (108, (m.2 108)), (109, upI (m.2 109) (m.1 25) (m.1 99))]) c N D (by omega) (Ty_mO hT rfl rfl ⟨g708, g710, g712, g714, g716, g718, g661, g680, f28, f64, f69, f70, f71, f72, f73, f74, f75, f99, f100, trivial⟩ ⟨G663, G665, G667, G669, G682, (hT.2.1 47), (hT.2.1 48), (hT.2.1 49), G683, (hT.2.1 65), (hT.2.1 66), (hT.2.1 67), (hT.2.1 68), (hT.2.1 76), (hT.2.1 77), (hT.2.1 78), (hT.2.1 79), (hT.2.1 80), (hT.2.1 81), (hT.2.1 82), (hT.2.1 83), (hT.2.1 84), (hT.2.1 85), (hT.2.1 86), (hT.2.1 87), (hT.2.1 88), (hT.2.1 89), (hT.2.1 90), (hT.2.1 91), (hT.2.1 92), (hT.2.1 101), (hT.2.1 102), (hT.2.1 103), (hT.2.1 104), (hT.2.1 105), (hT.2.1 106), (hT.2.1 107), (hT.2.1 108), G681, trivial⟩) 123 ⟨by decide, by decide⟩ (show 1 ≤ (123 : Int) by omega) (show LxP y707 y709 y711 (m.1 6) y713 by first | exact hLx | (intro h9; exfalso; omega) | (intro h9; have h8 := hLx (by omega); omega))) (fun rr724 k725 => ?_)
        obtain ⟨y726, y728, y730, y732, y734, y736, g727, g729, g731, g733, g735, g737, h738, h739, h740, h741, rfl⟩ := k725
        refine ⟨_, _, rfl, ?_⟩
        refine T_nf2 (st' := []) (l' := [(7, y726), (8, y728), (9, y730), (10, y732), (11, y734), (12, y736), (13, y660), (25, (m.1 25) + 1), (28, (m.1 28)), (64, (m.1 64)), (69, (m.1 69)), (70, (m.1 70)), (71, (m.1 71)), (72, (m.1 72)), (73, (m.1 73)), (74, (m.1 74)), (75, (m.1 75)), (99, (m.1 99)), (100, (m.1 100))]) (a' := [(14, F662), (15, F664), (16, F666), (17, F668), (46, upI (m.2 46) (m.1 25) 0), (47, (m.2 47)), (48, (m.2 48)), (49, (m.2 49)), (50, upI (m.2 50) (m.1 25) 0), (65, (m.2 65)), (66, (m.2 66)), (67, (m.2 67)), (68, (m.2 68)), (76, (m.2 76)), (77, (m.2 77)), (78, (m.2 78)), (79, (m.2 79)), (80, (m.2 80)), (81, (m.2 81)), (82, (m.2 82)), (83, (m.2 83)), (84, (m.2 84)), (85, (m.2 85)), (86, (m.2 86)), (87, (m.2 87)), (88, (m.2 88)), (89, (m.2 89)), (90, (m.2 90)), (91, (m.2 91)), (92, (m.2 92)), (101, (m.2 101)), (102, (m.2 102)), (103, (m.2 103)), (104, (m.2 104)), (105, (m.2 105)), (106, (m.2 106)), (107, (m.2 107)), (108, (m.2 108)), (109, upI (m.2 109) (m.1 25) (m.1 99))]) [7, 8, 9, 10, 11, 12] [] rfl ⟨rfl, rfl, rfl, rfl, rfl, rfl, rfl, rfl, rfl, rfl, rfl, rfl, rfl, rfl, rfl, rfl, rfl, rfl, rfl, rfl, rfl, rfl, rfl, rfl, rfl, rfl, rfl, rfl, rfl, rfl, rfl, rfl, rfl, rfl, rfl, rfl, rfl, rfl, trivial⟩ ⟨rfl, rfl, rfl, rfl, rfl, rfl, rfl, rfl, rfl, rfl, rfl, rfl, rfl, rfl, rfl, rfl, rfl, rfl, rfl, rfl, rfl, rfl, rfl, rfl, rfl, rfl, rfl, rfl, rfl, rfl, rfl, rfl, rfl, rfl, rfl, rfl, rfl, rfl, rfl, rfl, rfl, rfl, rfl, rfl, rfl, rfl, rfl, rfl, rfl, rfl, rfl, rfl, rfl, rfl, rfl, rfl, rfl, rfl, rfl, rfl, rfl, rfl, rfl, rfl, rfl, rfl, rfl, rfl, rfl, rfl, rfl, rfl, rfl, rfl, rfl, rfl, rfl, rfl, trivial⟩ rfl rfl (by decide) (by decide) ?_
        replace h738 : LxP y726 y728 y730 (m.1 6) y732 := h738
        replace h739 : y732 = 0 → y713 = 0 ∧ y707 = (123 : Int) := h739
        replace h740 : y709 ≤ y728 := h740
        replace h741 : y732 = 0 → y709 + y711 ≤ y728 := h741
        have hf742 : 1 ≤ y732 := by omega
        clear h739
        clear h741
        have hLx := h738
        clear g708 g710 g712 g714 g716 g718 hf723 h719 h740
        refine T_ld 149 (.ref 189) rfl (fun _ => rfl) ?_
        refine T_ld 150 (.int (i32 (m.1 25))) rfl (fun _ => rfl) ?_
        refine T_pf (l' := [(7, y726), (8, y728), (9, y730), (10, y732), (11, y734), (12, y736), (13, y660), (25, (m.1 25) + 1), (28, (m.1 28)), (64, (m.1 25)), (69, (m.1 69)), (70, (m.1 70)), (71, (m.1 71)), (72, (m.1 72)), (73, (m.1 73)), (74, (m.1 74)), (75, (m.1 75)), (99, (m.1 99)), (100, (m.1 100))]) 153 (m.1 25) rfl rfl rfl rfl rfl rfl ?_
        have g743 : (-1) ≤ (m.1 25) ∧ (m.1 25) ≤ 15 := ⟨by omega, by omega⟩
        refine T_gf 157 (.int (i32 y732)) rfl rfl rfl rfl rfl rfl ?_
        refine T_if 211 160 rfl rfl rfl (r32 (by omega) (by omega)) (fun (h744 : y732 ≠ 0) => ?_) (fun (h744 : ¬ (y732 ≠ 0)) => by exfalso; omega)
        refine T_ld 212 (.ref 189) rfl (fun _ => rfl) ?_
        refine T_ld 213 (.int (i32 (-1))) rfl (fun _ => rfl) ?_
        refine T_pf (l' := [(7, y726), (8, y728), (9, y730), (10, y732), (11, y734), (12, y736), (13, y660), (25, (m.1 25) + 1), (28, (m.1 28)), (64, (-1)), (69, (m.1 69)), (70, (m.1 70)), (71, (m.1 71)), (72, (m.1 72)), (73, (m.1 73)), (74, (m.1 74)), (75, (m.1 75)), (99, (m.1 99)), (100, (m.1 100))]) 216 (-1) rfl rfl rfl rfl rfl rfl ?_
        refine T_ld 217 (.ref 189) rfl (fun _ => rfl) ?_
        refine T_ld 219 (.int (i32 125)) rfl (fun _ => rfl) ?_
        refine T_call 222 232 [.ref 189, .int (i32 125)] [] rfl (fun _ => rfl) rfl (c_need w (mO m [(7, y726), (8, y728), (9, y730), (10, y732), (11, y734), (12, y736), (13, y660), (25, (m.1 25) + 1), (28, (m.1 28)), (64, (-1)), (69, (m.1 69)), (70, (m.1 70)), (71, (m.1 71)), (72, (m.1 72)), (73, (m.1 73)), (74, (m.1 74)), (75, (m.1 75)), (99, (m.1 99)), (100, (m.1 100))] [(14, F662), (15, F664), (16, F666), (17, F668), (46, upI (m.2 46) (m.1 25) 0), (47, (m.2 47)), (48, (m.2 48)), (49, (m.2 49)), (50, upI (m.2 50) (m.1 25) 0), (65, (m.2 65)), (66, (m.2 66)), (67, (m.2 67)), (68, (m.2 68)), (76, (m.2 76)), (77, (m.2 77)), (78, (m.2 78)), (79, (m.2 79)), (80, (m.2 80)), (81, (m.2 81)), (82, (m.2 82)), (83, (m.2 83)), (84, (m.2 84)), (85, (m.2 85)), (86, (m.2 86)), (87, (m.2 87)), (88, (m.2 88)), (89, (m.2 89)), (90, (m.2 90)), (91, (m.2 91)), (92, (m.2 92)), (101, (m.2 101)), (102, (m.2 102)), (103, (m.2 103)), (104, (m.2 104)), (105, (m.2 105)), (106, (m.2 106)), (107, (m.2 107)), (108, (m.2 108)), (109, upI (m.2 109) (m.1 25) (m.1 99))]) c N D (by omega) (Ty_mO hT rfl rfl ⟨g727, g729, g731, g733, g735, g737, g661, g680, f28, ⟨(by omega : ((-1) : Int) ≤ (-1)), (by omega : ((-1) : Int) ≤ 15)⟩, f69, f70, f71, f72, f73, f74, f75, f99, f100, trivial⟩ ⟨G663, G665, G667, G669, G682, (hT.2.1 47), (hT.2.1 48), (hT.2.1 49), G683, (hT.2.1 65), (hT.2.1 66), (hT.2.1 67), (hT.2.1 68), (hT.2.1 76), (hT.2.1 77), (hT.2.1 78), (hT.2.1 79), (hT.2.1 80), (hT.2.1 81), (hT.2.1 82), (hT.2.1 83), (hT.2.1 84), (hT.2.1 85), (hT.2.1 86), (hT.2.1 87), (hT.2.1 88), (hT.2.1 89), (hT.2.1 90), (hT.2.1 91), (hT.2.1 92), (hT.2.1 101), (hT.2.1 102), (hT.2.1 103), (hT.2.1 104), (hT.2.1 105), (hT.2.1 106), (hT.2.1 107), (hT.2.1 108), G681, trivial⟩) 125 ⟨by decide, by decide⟩ (show 1 ≤ (125 : Int) by omega) (show LxP y726 y728 y730 (m.1 6) y732 by first | exact hLx | (intro h9; exfalso; omega) | (intro h9; have h8 := hLx (by omega); omega))) (fun rr745 k746 => ?_)
        obtain ⟨y747, y749, y751, y753, y755, y757, g748, g750, g752, g754, g756, g758, h759, h760, h761, h762, rfl⟩ := k746
        refine ⟨_, _, rfl, ?_⟩
        refine T_nf2 (st' := []) (l' := [(7, y747), (8, y749), (9, y751), (10, y753), (11, y755), (12, y757), (13, y660), (25, (m.1 25) + 1), (28, (m.1 28)), (64, (-1)), (69, (m.1 69)), (70, (m.1 70)), (71, (m.1 71)), (72, (m.1 72)), (73, (m.1 73)), (74, (m.1 74)), (75, (m.1 75)), (99, (m.1 99)), (100, (m.1 100))]) (a' := [(14, F662), (15, F664), (16, F666), (17, F668), (46, upI (m.2 46) (m.1 25) 0), (47, (m.2 47)), (48, (m.2 48)), (49, (m.2 49)), (50, upI (m.2 50) (m.1 25) 0), (65, (m.2 65)), (66, (m.2 66)), (67, (m.2 67)), (68, (m.2 68)), (76, (m.2 76)), (77, (m.2 77)), (78, (m.2 78)), (79, (m.2 79)), (80, (m.2 80)), (81, (m.2 81)), (82, (m.2 82)), (83, (m.2 83)), (84, (m.2 84)), (85, (m.2 85)), (86, (m.2 86)), (87, (m.2 87)), (88, (m.2 88)), (89, (m.2 89)), (90, (m.2 90)), (91, (m.2 91)), (92, (m.2 92)), (101, (m.2 101)), (102, (m.2 102)), (103, (m.2 103)), (104, (m.2 104)), (105, (m.2 105)), (106, (m.2 106)), (107, (m.2 107)), (108, (m.2 108)), (109, upI (m.2 109) (m.1 25) (m.1 99))]) [7, 8, 9, 10, 11, 12] [] rfl ⟨rfl, rfl, rfl, rfl, rfl, rfl, rfl, rfl, rfl, rfl, rfl, rfl, rfl, rfl, rfl, rfl, rfl, rfl, rfl, rfl, rfl, rfl, rfl, rfl, rfl, rfl, rfl, rfl, rfl, rfl, rfl, rfl, rfl, rfl, rfl, rfl, rfl, rfl, trivial⟩ ⟨rfl, rfl, rfl, rfl, rfl, rfl, rfl, rfl, rfl, rfl, rfl, rfl, rfl, rfl, rfl, rfl, rfl, rfl, rfl, rfl, rfl, rfl, rfl, rfl, rfl, rfl, rfl, rfl, rfl, rfl, rfl, rfl, rfl, rfl, rfl, rfl, rfl, rfl, rfl, rfl, rfl, rfl, rfl, rfl, rfl, rfl, rfl, rfl, rfl, rfl, rfl, rfl, rfl, rfl, rfl, rfl, rfl, rfl, rfl, rfl, rfl, rfl, rfl, rfl, rfl, rfl, rfl, rfl, rfl, rfl, rfl, rfl, rfl, rfl, rfl, rfl, rfl, rfl, trivial⟩ rfl rfl (by decide) (by decide) ?_
        replace h759 : LxP y747 y749 y751 (m.1 6) y753 := h759
        replace h760 : y753 = 0 → y732 = 0 ∧ y726 = (125 : Int) := h760
        replace h761 : y728 ≤ y749 := h761
        replace h762 : y753 = 0 → y728 + y730 ≤ y749 := h762
        have hf763 : 1 ≤ y753 := by omega
        clear h760
        clear h762
        have hLx := h759
        clear g727 g729 g731 g733 g735 g737 hf742 h738 h744 h761
        refine T_ret rfl (fun _ => rfl) ?_
        exact ⟨(mO m [(7, y747), (8, y749), (9, y751), (10, y753), (11, y755), (12, y757), (13, y660), (25, (m.1 25) + 1), (28, (m.1 28)), (64, (-1)), (69, (m.1 69)), (70, (m.1 70)), (71, (m.1 71)), (72, (m.1 72)), (73, (m.1 73)), (74, (m.1 74)), (75, (m.1 75)), (99, (m.1 99)), (100, (m.1 100))] [(14, F662), (15, F664), (16, F666), (17, F668), (46, upI (m.2 46) (m.1 25) 0), (47, (m.2 47)), (48, (m.2 48)), (49, (m.2 49)), (50, upI (m.2 50) (m.1 25) 0), (65, (m.2 65)), (66, (m.2 66)), (67, (m.2 67)), (68, (m.2 68)), (76, (m.2 76)), (77, (m.2 77)), (78, (m.2 78)), (79, (m.2 79)), (80, (m.2 80)), (81, (m.2 81)), (82, (m.2 82)), (83, (m.2 83)), (84, (m.2 84)), (85, (m.2 85)), (86, (m.2 86)), (87, (m.2 87)), (88, (m.2 88)), (89, (m.2 89)), (90, (m.2 90)), (91, (m.2 91)), (92, (m.2 92)), (101, (m.2 101)), (102, (m.2 102)), (103, (m.2 103)), (104, (m.2 104)), (105, (m.2 105)), (106, (m.2 106)), (107, (m.2 107)), (108, (m.2 108)), (109, upI (m.2 109) (m.1 25) (m.1 99))]), (Ty_mO hT rfl rfl ⟨g748, g750, g752, g754, g756, g758, g661, g680, f28, ⟨(by omega : ((-1) : Int) ≤ (-1)), (by omega : ((-1) : Int) ≤ 15)⟩, f69, f70, f71, f72, f73, f74, f75, f99, f100, trivial⟩ ⟨G663, G665, G667, G669, G682, (hT.2.1 47), (hT.2.1 48), (hT.2.1 49), G683, (hT.2.1 65), (hT.2.1 66), (hT.2.1 67), (hT.2.1 68), (hT.2.1 76), (hT.2.1 77), (hT.2.1 78), (hT.2.1 79), (hT.2.1 80), (hT.2.1 81), (hT.2.1 82), (hT.2.1 83), (hT.2.1 84), (hT.2.1 85), (hT.2.1 86), (hT.2.1 87), (hT.2.1 88), (hT.2.1 89), (hT.2.1 90), (hT.2.1 91), (hT.2.1 92), (hT.2.1 101), (hT.2.1 102), (hT.2.1 103), (hT.2.1 104), (hT.2.1 105), (hT.2.1 106), (hT.2.1 107), (hT.2.1 108), G681, trivial⟩), (show y753 = 0 → (m.1 10) = 0 by omega), (show LxP y747 y749 y751 (m.1 6) y753 by first | (first | exact hLx | exact (fun _ => hLx (by omega)) | (intro h9; exfalso; omega)) | (exfalso; omega)), (show ∀ k, F662 k + F664 k ≤ 4000 by first | (exact hNM) | (exfalso; omega)), (show ∀ k, (m.2 47) k + (m.2 48) k ≤ 4000 by first | (exact hPA) | (exfalso; omega)), (fun (h : y753 = 0) => absurd h (by omega)), rfl⟩
      · skip
        refine T_ret rfl (fun _ => rfl) ?_
        exact ⟨(mO m [(7, y648), (8, y650), (9, y652), (10, y654), (11, y656), (12, y658), (13, y660), (25, (m.1 25)), (28, (m.1 28)), (64, (m.1 64)), (69, (m.1 69)), (70, (m.1 70)), (71, (m.1 71)), (72, (m.1 72)), (73, (m.1 73)), (74, (m.1 74)), (75, (m.1 75)), (99, (m.1 99)), (100, (m.1 100))] [(14, F662), (15, F664), (16, F666), (17, F668), (46, (m.2 46)), (47, (m.2 47)), (48, (m.2 48)), (49, (m.2 49)), (50, (m.2 50)), (65, (m.2 65)), (66, (m.2 66)), (67, (m.2 67)), (68, (m.2 68)), (76, (m.2 76)), (77, (m.2 77)), (78, (m.2 78)), (79, (m.2 79)), (80, (m.2 80)), (81, (m.2 81)), (82, (m.2 82)), (83, (m.2 83)), (84, (m.2 84)), (85, (m.2 85)), (86, (m.2 86)), (87, (m.2 87)), (88, (m.2 88)), (89, (m.2 89)), (90, (m.2 90)), (91, (m.2 91)), (92, (m.2 92)), (101, (m.2 101)), (102, (m.2 102)), (103, (m.2 103)), (104, (m.2 104)), (105, (m.2 105)), (106, (m.2 106)), (107, (m.2 107)), (108, (m.2 108)), (109, (m.2 109))]), (Ty_mO hT rfl rfl ⟨g649, g651, g653, g655, g657, g659, g661, f25, f28, f64, f69, f70, f71, f72, f73, f74, f75, f99, f100, trivial⟩ ⟨G663, G665, G667, G669, (hT.2.1 46), (hT.2.1 47), (hT.2.1 48), (hT.2.1 49), (hT.2.1 50), (hT.2.1 65), (hT.2.1 66), (hT.2.1 67), (hT.2.1 68), (hT.2.1 76), (hT.2.1 77), (hT.2.1 78), (hT.2.1 79), (hT.2.1 80), (hT.2.1 81), (hT.2.1 82), (hT.2.1 83), (hT.2.1 84), (hT.2.1 85), (hT.2.1 86), (hT.2.1 87), (hT.2.1 88), (hT.2.1 89), (hT.2.1 90), (hT.2.1 91), (hT.2.1 92), (hT.2.1 101), (hT.2.1 102), (hT.2.1 103), (hT.2.1 104), (hT.2.1 105), (hT.2.1 106), (hT.2.1 107), (hT.2.1 108), (hT.2.1 109), trivial⟩), (show y654 = 0 → (m.1 10) = 0 by omega), (show LxP y648 y650 y652 (m.1 6) y654 by first | (first | exact hLx | exact (fun _ => hLx (by omega)) | (intro h9; exfalso; omega)) | (exfalso; omega)), (show ∀ k, F662 k + F664 k ≤ 4000 by first | (exact hNM) | (exfalso; omega)), (show ∀ k, (m.2 47) k + (m.2 48) k ≤ 4000 by first | (exact hPA) | (exfalso; omega)), (fun (h : y654 = 0) => absurd h (by omega)), rfl⟩
  · skip
    clear hC
    refine T_ld 1 (.ref 189) rfl (fun _ => rfl) ?_
    refine T_call 4 212 [.ref 189] [] rfl (fun _ => rfl) rfl (c_next w (mO m [(7, (m.1 7)), (8, (m.1 8)), (9, (m.1 9)), (10, (m.1 10)), (11, (m.1 11)), (12, (m.1 12)), (13, (m.1 13)), (25, (m.1 25)), (28, (m.1 28)), (64, (m.1 64)), (69, (m.1 69)), (70, (m.1 70)), (71, (m.1 71)), (72, (m.1 72)), (73, (m.1 73)), (74, (m.1 74)), (75, (m.1 75)), (99, (m.1 99)), (100, (m.1 100))] [(14, (m.2 14)), (15, (m.2 15)), (16, (m.2 16)), (17, (m.2 17)), (46, (m.2 46)), (47, (m.2 47)), (48, (m.2 48)), (49, (m.2 49)), (50, (m.2 50)), (65, (m.2 65)), (66, (m.2 66)), (67, (m.2 67)), (68, (m.2 68)), (76, (m.2 76)), (77, (m.2 77)), (78, (m.2 78)), (79, (m.2 79)), (80, (m.2 80)), (81, (m.2 81)), (82, (m.2 82)), (83, (m.2 83)), (84, (m.2 84)), (85, (m.2 85)), (86, (m.2 86)), (87, (m.2 87)), (88, (m.2 88)), (89, (m.2 89)), (90, (m.2 90)), (91, (m.2 91)), (92, (m.2 92)), (101, (m.2 101)), (102, (m.2 102)), (103, (m.2 103)), (104, (m.2 104)), (105, (m.2 105)), (106, (m.2 106)), (107, (m.2 107)), (108, (m.2 108)), (109, (m.2 109))]) c N D (by omega) (Ty_mO hT rfl rfl ⟨f7, f8, f9, f10, f11, f12, f13, f25, f28, f64, f69, f70, f71, f72, f73, f74, f75, f99, f100, trivial⟩ ⟨(hT.2.1 14), (hT.2.1 15), (hT.2.1 16), (hT.2.1 17), (hT.2.1 46), (hT.2.1 47), (hT.2.1 48), (hT.2.1 49), (hT.2.1 50), (hT.2.1 65), (hT.2.1 66), (hT.2.1 67), (hT.2.1 68), (hT.2.1 76), (hT.2.1 77), (hT.2.1 78), (hT.2.1 79), (hT.2.1 80), (hT.2.1 81), (hT.2.1 82), (hT.2.1 83), (hT.2.1 84), (hT.2.1 85), (hT.2.1 86), (hT.2.1 87), (hT.2.1 88), (hT.2.1 89), (hT.2.1 90), (hT.2.1 91), (hT.2.1 92), (hT.2.1 101), (hT.2.1 102), (hT.2.1 103), (hT.2.1 104), (hT.2.1 105), (hT.2.1 106), (hT.2.1 107), (hT.2.1 108), (hT.2.1 109), trivial⟩) (show (m.1 10) = 0 → (m.1 8) + (m.1 9) ≤ (m.1 6) by first | omega | (intro h9; have h8 := hLx h9; omega))) (fun rr764 k765 => ?_)
    obtain ⟨y766, y768, y770, y772, y774, y776, g767, g769, g771, g773, g775, g777, h778, h779, h780, h781, rfl⟩ := k765
    refine ⟨_, _, rfl, ?_⟩
    refine T_nf2 (st' := []) (l' := [(7, y766), (8, y768), (9, y770), (10, y772), (11, y774), (12, y776), (13, (m.1 13)), (25, (m.1 25)), (28, (m.1 28)), (64, (m.1 64)), (69, (m.1 69)), (70, (m.1 70)), (71, (m.1 71)), (72, (m.1 72)), (73, (m.1 73)), (74, (m.1 74)), (75, (m.1 75)), (99, (m.1 99)), (100, (m.1 100))]) (a' := [(14, (m.2 14)), (15, (m.2 15)), (16, (m.2 16)), (17, (m.2 17)), (46, (m.2 46)), (47, (m.2 47)), (48, (m.2 48)), (49, (m.2 49)), (50, (m.2 50)), (65, (m.2 65)), (66, (m.2 66)), (67, (m.2 67)), (68, (m.2 68)), (76, (m.2 76)), (77, (m.2 77)), (78, (m.2 78)), (79, (m.2 79)), (80, (m.2 80)), (81, (m.2 81)), (82, (m.2 82)), (83, (m.2 83)), (84, (m.2 84)), (85, (m.2 85)), (86, (m.2 86)), (87, (m.2 87)), (88, (m.2 88)), (89, (m.2 89)), (90, (m.2 90)), (91, (m.2 91)), (92, (m.2 92)), (101, (m.2 101)), (102, (m.2 102)), (103, (m.2 103)), (104, (m.2 104)), (105, (m.2 105)), (106, (m.2 106)), (107, (m.2 107)), (108, (m.2 108)), (109, (m.2 109))]) [7, 8, 9, 10, 11, 12] [] rfl ⟨rfl, rfl, rfl, rfl, rfl, rfl, rfl, rfl, rfl, rfl, rfl, rfl, rfl, rfl, rfl, rfl, rfl, rfl, rfl, rfl, rfl, rfl, rfl, rfl, rfl, rfl, rfl, rfl, rfl, rfl, rfl, rfl, rfl, rfl, rfl, rfl, rfl, rfl, trivial⟩ ⟨rfl, rfl, rfl, rfl, rfl, rfl, rfl, rfl, rfl, rfl, rfl, rfl, rfl, rfl, rfl, rfl, rfl, rfl, rfl, rfl, rfl, rfl, rfl, rfl, rfl, rfl, rfl, rfl, rfl, rfl, rfl, rfl, rfl, rfl, rfl, rfl, rfl, rfl, rfl, rfl, rfl, rfl, rfl, rfl, rfl, rfl, rfl, rfl, rfl, rfl, rfl, rfl, rfl, rfl, rfl, rfl, rfl, rfl, rfl, rfl, rfl, rfl, rfl, rfl, rfl, rfl, rfl, rfl, rfl, rfl, rfl, rfl, rfl, rfl, rfl, rfl, rfl, rfl, trivial⟩ rfl rfl (by decide) (by decide) ?_
    replace h778 : LxP y766 y768 y770 (m.1 6) y772 := h778
    replace h779 : y772 = 0 → (m.1 10) = 0 := h779
    replace h780 : (m.1 8) ≤ y768 := h780
    replace h781 : y772 = 0 → (m.1 8) + (m.1 9) ≤ y768 := h781
    have hf782 : 1 ≤ y772 := by omega
    clear h779
    clear h781
    have hLx := h778
    refine T_ld 5 (.ref 189) rfl (fun _ => rfl) ?_
    refine T_ld 7 (.int (i32 6)) rfl (fun _ => rfl) ?_
    refine T_gf 11 (.int (i32 (m.1 25))) rfl rfl rfl rfl rfl rfl ?_
    refine T_ld 13 (.int (i32 16)) rfl (fun _ => rfl) ?_
    refine T_call 16 225 [.ref 189, .int (i32 6), .int (i32 (m.1 25)), .int (i32 16)] [] rfl (fun _ => rfl) rfl (c_newName w (mO m [(7, y766), (8, y768), (9, y770), (10, y772), (11, y774), (12, y776), (13, (m.1 13)), (25, (m.1 25)), (28, (m.1 28)), (64, (m.1 64)), (69, (m.1 69)), (70, (m.1 70)), (71, (m.1 71)), (72, (m.1 72)), (73, (m.1 73)), (74, (m.1 74)), (75, (m.1 75)), (99, (m.1 99)), (100, (m.1 100))] [(14, (m.2 14)), (15, (m.2 15)), (16, (m.2 16)), (17, (m.2 17)), (46, (m.2 46)), (47, (m.2 47)), (48, (m.2 48)), (49, (m.2 49)), (50, (m.2 50)), (65, (m.2 65)), (66, (m.2 66)), (67, (m.2 67)), (68, (m.2 68)), (76, (m.2 76)), (77, (m.2 77)), (78, (m.2 78)), (79, (m.2 79)), (80, (m.2 80)), (81, (m.2 81)), (82, (m.2 82)), (83, (m.2 83)), (84, (m.2 84)), (85, (m.2 85)), (86, (m.2 86)), (87, (m.2 87)), (88, (m.2 88)), (89, (m.2 89)), (90, (m.2 90)), (91, (m.2 91)), (92, (m.2 92)), (101, (m.2 101)), (102, (m.2 102)), (103, (m.2 103)), (104, (m.2 104)), (105, (m.2 105)), (106, (m.2 106)), (107, (m.2 107)), (108, (m.2 108)), (109, (m.2 109))]) c N D (by omega) (Ty_mO hT rfl rfl ⟨g767, g769, g771, g773, g775, g777, f13, f25, f28, f64, f69, f70, f71, f72, f73, f74, f75, f99, f100, trivial⟩ ⟨(hT.2.1 14), (hT.2.1 15), (hT.2.1 16), (hT.2.1 17), (hT.2.1 46), (hT.2.1 47), (hT.2.1 48), (hT.2.1 49), (hT.2.1 50), (hT.2.1 65), (hT.2.1 66), (hT.2.1 67), (hT.2.1 68), (hT.2.1 76), (hT.2.1 77), (hT.2.1 78), (hT.2.1 79), (hT.2.1 80), (hT.2.1 81), (hT.2.1 82), (hT.2.1 83), (hT.2.1 84), (hT.2.1 85), (hT.2.1 86), (hT.2.1 87), (hT.2.1 88), (hT.2.1 89), (hT.2.1 90), (hT.2.1 91), (hT.2.1 92), (hT.2.1 101), (hT.2.1 102), (hT.2.1 103), (hT.2.1 104), (hT.2.1 105), (hT.2.1 106), (hT.2.1 107), (hT.2.1 108), (hT.2.1 109), trivial⟩) 6 (m.1 25) 16 ⟨by decide, by decide⟩ (r32 (by omega) (by omega)) ⟨by decide, by decide⟩ (show LxP y766 y768 y770 (m.1 6) y772 by first | exact hLx | (intro h9; exfalso; omega) | (intro h9; have h8 := hLx (by omega); omega)) (show ∀ k, (m.2 14) k + (m.2 15) k ≤ 4000 by first | exact p1 | exact hNM) (show y772 = 0 → (m.1 13) ≤ 119 by omega) (show 1 ≤ (6 : Int) ∧ (6 : Int) ≤ 7 by omega) (show 0 ≤ (m.1 25) ∧ ((m.1 25) ≠ (16 : Int) → (m.1 25) ≤ 15) by omega)) (fun rr783 k784 => ?_)
    obtain ⟨y785, y787, y789, y791, y793, y795, y797, F799, F801, F803, F805, nn, g786, g788, g790, g792, g794, g796, g798, G800, G802, G804, G806, g807, h808, h809, h810, h811, h812, h813, h814, rfl⟩ := k784
    refine ⟨_, _, rfl, ?_⟩
    refine T_nf2 (st' := [.int (i32 nn)]) (l' := [(7, y785), (8, y787), (9, y789), (10, y791), (11, y793), (12, y795), (13, y797), (25, (m.1 25)), (28, (m.1 28)), (64, (m.1 64)), (69, (m.1 69)), (70, (m.1 70)), (71, (m.1 71)), (72, (m.1 72)), (73, (m.1 73)), (74, (m.1 74)), (75, (m.1 75)), (99, (m.1 99)), (100, (m.1 100))]) (a' := [(14, F799), (15, F801), (16, F803), (17, F805), (46, (m.2 46)), (47, (m.2 47)), (48, (m.2 48)), (49, (m.2 49)), (50, (m.2 50)), (65, (m.2 65)), (66, (m.2 66)), (67, (m.2 67)), (68, (m.2 68)), (76, (m.2 76)), (77, (m.2 77)), (78, (m.2 78)), (79, (m.2 79)), (80, (m.2 80)), (81, (m.2 81)), (82, (m.2 82)), (83, (m.2 83)), (84, (m.2 84)), (85, (m.2 85)), (86, (m.2 86)), (87, (m.2 87)), (88, (m.2 88)), (89, (m.2 89)), (90, (m.2 90)), (91, (m.2 91)), (92, (m.2 92)), (101, (m.2 101)), (102, (m.2 102)), (103, (m.2 103)), (104, (m.2 104)), (105, (m.2 105)), (106, (m.2 106)), (107, (m.2 107)), (108, (m.2 108)), (109, (m.2 109))]) [7, 8, 9, 10, 11, 12, 13] [14, 15, 16, 17] rfl ⟨rfl, rfl, rfl, rfl, rfl, rfl, rfl, rfl, rfl, rfl, rfl, rfl, rfl, rfl, rfl, rfl, rfl, rfl, rfl, rfl, rfl, rfl, rfl, rfl, rfl, rfl, rfl, rfl, rfl, rfl, rfl, rfl, rfl, rfl, rfl, rfl, rfl, rfl, trivial⟩ ⟨rfl, rfl, rfl, rfl, rfl, rfl, rfl, rfl, rfl, rfl, rfl, rfl, rfl, rfl, rfl, rfl, rfl, rfl, rfl, rfl, rfl, rfl, rfl, rfl, rfl, rfl, rfl, rfl, rfl, rfl, rfl, rfl, rfl, rfl, rfl, rfl, rfl, rfl, rfl, rfl, rfl, rfl, rfl, rfl, rfl, rfl, rfl, rfl, rfl, rfl, rfl, rfl, rfl, rfl, rfl, rfl, rfl, rfl, rfl, rfl, rfl, rfl, rfl, rfl, rfl, rfl, rfl, rfl, rfl, rfl, rfl, rfl, rfl, rfl, rfl, rfl, rfl, rfl, trivial⟩ rfl rfl (by decide) (by decide) ?_
    obtain ⟨g807a, g807b⟩ := g807
    replace h808 : LxP y785 y787 y789 (m.1 6) y791 := h808
    replace h809 : y768 ≤ y787 := h809
    replace h810 : y791 = 0 → y772 = 0 ∧ y768 + y770 ≤ y787 := h810
    replace h811 : y791 = 0 → nn = 1 ∧ y766 = 1 := h811
    replace h812 : nn = 1 → (m.1 25) ≠ (16 : Int) := h812
    replace h813 : ∀ k, F799 k + F801 k ≤ 4000 := h813
    replace h814 : (nn = 1 ∧ y772 = 0 ∧ y797 = (m.1 13) + 1 ∧ F799 = upI (m.2 14) (m.1 13) y768 ∧ F801 = upI (m.2 15) (m.1 13) y770 ∧ F803 = upI (m.2 16) (m.1 13) (6 : Int) ∧ F805 = upI (m.2 17) (m.1 13) (m.1 25)) ∨ (nn = 0 ∧ 0 < y791 ∧ y797 = (m.1 13) ∧ F799 = (m.2 14) ∧ F801 = (m.2 15) ∧ F803 = (m.2 16) ∧ F805 = (m.2 17)) := h814
    have hf815 : 1 ≤ y791 := by omega
    clear h810
    clear h811
    have hLx := h808
    have hNM := h813
    have hN := h814
    clear g767 g769 g771 g773 g775 g777 hf782 h778 h780 h809 h814
    refine T_if 20 19 rfl rfl rfl (r32 (by omega) (by omega)) (fun (h816 : nn ≠ 0) => ?_) (fun (h816 : ¬ (nn ≠ 0)) => ?_)
    · skip
      refine T_gf 24 (.int (i32 (m.1 25))) rfl rfl rfl rfl rfl rfl ?_
      refine T_sto 25 [(1, .int (i32 (m.1 25))), (0, .ref 189)] rfl (fun _ => rfl) ?_
      refine T_ld 26 (.ref 189) rfl (fun _ => rfl) ?_
      refine T_ld 27 (.ref 189) rfl (fun _ => rfl) ?_
      refine T_gf1 30 (.int (i32 (m.1 25))) rfl rfl rfl rfl ?_
      refine T_ld 31 (.int (i32 1)) rfl (fun _ => rfl) ?_
      refine T_iadd 32 rfl rfl ?_
      refine T_pf (l' := [(7, y785), (8, y787), (9, y789), (10, y791), (11, y793), (12, y795), (13, y797), (25, (m.1 25) + 1), (28, (m.1 28)), (64, (m.1 64)), (69, (m.1 69)), (70, (m.1 70)), (71, (m.1 71)), (72, (m.1 72)), (73, (m.1 73)), (74, (m.1 74)), (75, (m.1 75)), (99, (m.1 99)), (100, (m.1 100))]) 35 ((m.1 25) + 1) rfl rfl rfl rfl rfl rfl ?_
      have g817 : 0 ≤ (m.1 25) + 1 ∧ (m.1 25) + 1 ≤ 16 := ⟨by omega, by omega⟩
      refine T_gf 39 (.ref 269) rfl rfl rfl rfl rfl rfl ?_
      refine T_ld 40 (.int (i32 (m.1 25))) rfl (fun _ => rfl) ?_
      refine T_gf 44 (.int (i32 (m.1 99))) rfl rfl rfl rfl rfl rfl ?_
      have G818 : ∀ j, 0 ≤ (upI (m.2 109) (m.1 25) (m.1 99)) j ∧ (upI (m.2 109) (m.1 25) (m.1 99)) j ≤ 192 := upI_rg (hT.2.1 109) ⟨by omega, by omega⟩
      refine T_iast (a' := [(14, F799), (15, F801), (16, F803), (17, F805), (46, (m.2 46)), (47, (m.2 47)), (48, (m.2 48)), (49, (m.2 49)), (50, (m.2 50)), (65, (m.2 65)), (66, (m.2 66)), (67, (m.2 67)), (68, (m.2 68)), (76, (m.2 76)), (77, (m.2 77)), (78, (m.2 78)), (79, (m.2 79)), (80, (m.2 80)), (81, (m.2 81)), (82, (m.2 82)), (83, (m.2 83)), (84, (m.2 84)), (85, (m.2 85)), (86, (m.2 86)), (87, (m.2 87)), (88, (m.2 88)), (89, (m.2 89)), (90, (m.2 90)), (91, (m.2 91)), (92, (m.2 92)), (101, (m.2 101)), (102, (m.2 102)), (103, (m.2 103)), (104, (m.2 104)), (105, (m.2 105)), (106, (m.2 106)), (107, (m.2 107)), (108, (m.2 108)), (109, upI (m.2 109) (m.1 25) (m.1 99))]) 45 109 (m.2 109) rfl rfl rfl (by omega) (show (m.1 25) < (16 : Int) by omega) rfl rfl ?_
      refine T_gf 49 (.ref 216) rfl rfl rfl rfl rfl rfl ?_
      refine T_ld 50 (.int (i32 (m.1 25))) rfl (fun _ => rfl) ?_
      refine T_ld 51 (.int (i32 0)) rfl (fun _ => rfl) ?_
      have G819 : ∀ j, 0 ≤ (upI (m.2 46) (m.1 25) 0) j ∧ (upI (m.2 46) (m.1 25) 0) j ≤ 4 := upI_rg (hT.2.1 46) ⟨by omega, by omega⟩
      refine T_iast (a' := [(14, F799), (15, F801), (16, F803), (17, F805), (46, upI (m.2 46) (m.1 25) 0), (47, (m.2 47)), (48, (m.2 48)), (49, (m.2 49)), (50, (m.2 50)), (65, (m.2 65)), (66, (m.2 66)), (67, (m.2 67)), (68, (m.2 68)), (76, (m.2 76)), (77, (m.2 77)), (78, (m.2 78)), (79, (m.2 79)), (80, (m.2 80)), (81, (m.2 81)), (82, (m.2 82)), (83, (m.2 83)), (84, (m.2 84)), (85, (m.2 85)), (86, (m.2 86)), (87, (m.2 87)), (88, (m.2 88)), (89, (m.2 89)), (90, (m.2 90)), (91, (m.2 91)), (92, (m.2 92)), (101, (m.2 101)), (102, (m.2 102)), (103, (m.2 103)), (104, (m.2 104)), (105, (m.2 105)), (106, (m.2 106)), (107, (m.2 107)), (108, (m.2 108)), (109, upI (m.2 109) (m.1 25) (m.1 99))]) 52 46 (m.2 46) rfl rfl rfl (by omega) (show (m.1 25) < (16 : Int) by omega) rfl rfl ?_
      refine T_gf 56 (.ref 220) rfl rfl rfl rfl rfl rfl ?_
      refine T_ld 57 (.int (i32 (m.1 25))) rfl (fun _ => rfl) ?_
      refine T_ld 58 (.int (i32 0)) rfl (fun _ => rfl) ?_
      have G820 : ∀ j, 0 ≤ (upI (m.2 50) (m.1 25) 0) j ∧ (upI (m.2 50) (m.1 25) 0) j ≤ 13 := upI_rg (hT.2.1 50) ⟨by omega, by omega⟩
      refine T_iast (a' := [(14, F799), (15, F801), (16, F803), (17, F805), (46, upI (m.2 46) (m.1 25) 0), (47, (m.2 47)), (48, (m.2 48)), (49, (m.2 49)), (50, upI (m.2 50) (m.1 25) 0), (65, (m.2 65)), (66, (m.2 66)), (67, (m.2 67)), (68, (m.2 68)), (76, (m.2 76)), (77, (m.2 77)), (78, (m.2 78)), (79, (m.2 79)), (80, (m.2 80)), (81, (m.2 81)), (82, (m.2 82)), (83, (m.2 83)), (84, (m.2 84)), (85, (m.2 85)), (86, (m.2 86)), (87, (m.2 87)), (88, (m.2 88)), (89, (m.2 89)), (90, (m.2 90)), (91, (m.2 91)), (92, (m.2 92)), (101, (m.2 101)), (102, (m.2 102)), (103, (m.2 103)), (104, (m.2 104)), (105, (m.2 105)), (106, (m.2 106)), (107, (m.2 107)), (108, (m.2 108)), (109, upI (m.2 109) (m.1 25) (m.1 99))]) 59 50 (m.2 50) rfl rfl rfl (by omega) (show (m.1 25) < (16 : Int) by omega) rfl rfl ?_
      refine T_ld 60 (.ref 189) rfl (fun _ => rfl) ?_
      refine T_ld 62 (.int (i32 40)) rfl (fun _ => rfl) ?_
      refine T_call 65 232 [.ref 189, .int (i32 40)] [] rfl (fun _ => rfl) rfl (c_need w (mO m [(7, y785), (8, y787), (9, y789), (10, y791), (11, y793), (12, y795), (13, y797), (25, (m.1 25) + 1), (28, (m.1 28)), (64, (m.1 64)), (69, (m.1 69)), (70, (m.1 70)), (71, (m.1 71)), (72, (m.1 72)), (73, (m.1 73)), (74, (m.1 74)), (75, (m.1 75)), (99, (m.1 99)), (100, (m.1 100))] [(14, F799), (15, F801), (16, F803), (17, F805), (46, upI (m.2 46) (m.1 25) 0), (47, (m.2 47)), (48, (m.2 48)), (49, (m.2 49)), (50, upI (m.2 50) (m.1 25) 0), (65, (m.2 65)), (66, (m.2 66)), (67, (m.2 67)), (68, (m.2 68)), (76, (m.2 76)), (77, (m.2 77)), (78, (m.2 78)), (79, (m.2 79)), (80, (m.2 80)), (81, (m.2 81)), (82, (m.2 82)), (83, (m.2 83)), (84, (m.2 84)), (85, (m.2 85)), (86, (m.2 86)), (87, (m.2 87)), (88, (m.2 88)), (89, (m.2 89)), (90, (m.2 90)), (91, (m.2 91)), (92, (m.2 92)), (101, (m.2 101)), (102, (m.2 102)), (103, (m.2 103)), (104, (m.2 104)), (105, (m.2 105)), (106, (m.2 106)), (107, (m.2 107)), (108, (m.2 108)), (109, upI (m.2 109) (m.1 25) (m.1 99))]) c N D (by omega) (Ty_mO hT rfl rfl ⟨g786, g788, g790, g792, g794, g796, g798, g817, f28, f64, f69, f70, f71, f72, f73, f74, f75, f99, f100, trivial⟩ ⟨G800, G802, G804, G806, G819, (hT.2.1 47), (hT.2.1 48), (hT.2.1 49), G820, (hT.2.1 65), (hT.2.1 66), (hT.2.1 67), (hT.2.1 68), (hT.2.1 76), (hT.2.1 77), (hT.2.1 78), (hT.2.1 79), (hT.2.1 80), (hT.2.1 81), (hT.2.1 82), (hT.2.1 83), (hT.2.1 84), (hT.2.1 85), (hT.2.1 86), (hT.2.1 87), (hT.2.1 88), (hT.2.1 89), (hT.2.1 90), (hT.2.1 91), (hT.2.1 92), (hT.2.1 101), (hT.2.1 102), (hT.2.1 103), (hT.2.1 104), (hT.2.1 105), (hT.2.1 106), (hT.2.1 107), (hT.2.1 108), G818, trivial⟩) 40 ⟨by decide, by decide⟩ (show 1 ≤ (40 : Int) by omega) (show LxP y785 y787 y789 (m.1 6) y791 by first | exact hLx | (intro h9; exfalso; omega) | (intro h9; have h8 := hLx (by omega); omega))) (fun rr821 k822 => ?_)
      obtain ⟨y823, y825, y827, y829, y831, y833, g824, g826, g828, g830, g832, g834, h835, h836, h837, h838, rfl⟩ := k822
      refine ⟨_, _, rfl, ?_⟩
      refine T_nf2 (st' := []) (l' := [(7, y823), (8, y825), (9, y827), (10, y829), (11, y831), (12, y833), (13, y797), (25, (m.1 25) + 1), (28, (m.1 28)), (64, (m.1 64)), (69, (m.1 69)), (70, (m.1 70)), (71, (m.1 71)), (72, (m.1 72)), (73, (m.1 73)), (74, (m.1 74)), (75, (m.1 75)), (99, (m.1 99)), (100, (m.1 100))]) (a' := [(14, F799), (15, F801), (16, F803), (17, F805), (46, upI (m.2 46) (m.1 25) 0), (47, (m.2 47)), (48, (m.2 48)), (49, (m.2 49)), (50, upI (m.2 50) (m.1 25) 0), (65, (m.2 65)), (66, (m.2 66)), (67, (m.2 67)), (68, (m.2 68)), (76, (m.2 76)), (77, (m.2 77)), (78, (m.2 78)), (79, (m.2 79)), (80, (m.2 80)), (81, (m.2 81)), (82, (m.2 82)), (83, (m.2 83)), (84, (m.2 84)), (85, (m.2 85)), (86, (m.2 86)), (87, (m.2 87)), (88, (m.2 88)), (89, (m.2 89)), (90, (m.2 90)), (91, (m.2 91)), (92, (m.2 92)), (101, (m.2 101)), (102, (m.2 102)), (103, (m.2 103)), (104, (m.2 104)), (105, (m.2 105)), (106, (m.2 106)), (107, (m.2 107)), (108, (m.2 108)), (109, upI (m.2 109) (m.1 25) (m.1 99))]) [7, 8, 9, 10, 11, 12] [] rfl ⟨rfl, rfl, rfl, rfl, rfl, rfl, rfl, rfl, rfl, rfl, rfl, rfl, rfl, rfl, rfl, rfl, rfl, rfl, rfl, rfl, rfl, rfl, rfl, rfl, rfl, rfl, rfl, rfl, rfl, rfl, rfl, rfl, rfl, rfl, rfl, rfl, rfl, rfl, trivial⟩ ⟨rfl, rfl, rfl, rfl, rfl, rfl, rfl, rfl, rfl, rfl, rfl, rfl, rfl, rfl, rfl, rfl, rfl, rfl, rfl, rfl, rfl, rfl, rfl, rfl, rfl, rfl, rfl, rfl, rfl, rfl, rfl, rfl, rfl, rfl, rfl, rfl, rfl, rfl, rfl, rfl, rfl, rfl, rfl, rfl, rfl, rfl, rfl, rfl, rfl, rfl, rfl, rfl, rfl, rfl, rfl, rfl, rfl, rfl, rfl, rfl, rfl, rfl, rfl, rfl, rfl, rfl, rfl, rfl, rfl, rfl, rfl, rfl, rfl, rfl, rfl, rfl, rfl, rfl, trivial⟩ rfl rfl (by decide) (by decide) ?_
      replace h835 : LxP y823 y825 y827 (m.1 6) y829 := h835
      replace h836 : y829 = 0 → y791 = 0 ∧ y785 = (40 : Int) := h836
      replace h837 : y787 ≤ y825 := h837
      replace h838 : y829 = 0 → y787 + y789 ≤ y825 := h838
      have hf839 : 1 ≤ y829 := by omega
      clear h836
      clear h838
      have hLx := h835
      clear g786 g788 g790 g792 g794 g796 g807a g807b hf815 h808 h812 h816 h837
      refine T_gf 69 (.int (i32 y829)) rfl rfl rfl rfl rfl rfl ?_
      refine T_if 85 72 rfl rfl rfl (r32 (by omega) (by omega)) (fun (h840 : y829 ≠ 0) => ?_) (fun (h840 : ¬ (y829 ≠ 0)) => by exfalso; omega)
      refine T_ld 86 (.int (i32 0)) rfl (fun _ => rfl) ?_
      refine T_sto 87 [(2, .int (i32 0)), (1, .int (i32 (m.1 25))), (0, .ref 189)] rfl (fun _ => rfl) ?_
      refine T_ld 88 (.int (i32 0)) rfl (fun _ => rfl) ?_
      refine T_if 136 91 rfl rfl rfl ⟨by decide, by decide⟩ (fun _ => ?_) (fun h841 => absurd (show (0 : Int) = 0 by decide) h841)
      refine T_ld 137 (.ref 189) rfl (fun _ => rfl) ?_
      refine T_ld 139 (.int (i32 41)) rfl (fun _ => rfl) ?_
      refine T_call 142 232 [.ref 189, .int (i32 41)] [] rfl (fun _ => rfl) rfl (c_need w (mO m [(7, y823), (8, y825), (9, y827), (10, y829), (11, y831), (12, y833), (13, y797), (25, (m.1 25) + 1), (28, (m.1 28)), (64, (m.1 64)), (69, (m.1 69)), (70, (m.1 70)), (71, (m.1 71)), (72, (m.1 72)), (73, (m.1 73)), (74, (m.1 74)), (75, (m.1 75)), (99, (m.1 99)), (100, (m.1 100))] [(14, F799), (15, F801), (16, F803), (17, F805), (46, upI (m.2 46) (m.1 25) 0), (47, (m.2 47)), (48, (m.2 48)), (49, (m.2 49)), (50, upI (m.2 50) (m.1 25) 0), (65, (m.2 65)), (66, (m.2 66)), (67, (m.2 67)), (68, (m.2 68)), (76, (m.2 76)), (77, (m.2 77)), (78, (m.2 78)), (79, (m.2 79)), (80, (m.2 80)), (81, (m.2 81)), (82, (m.2 82)), (83, (m.2 83)), (84, (m.2 84)), (85, (m.2 85)), (86, (m.2 86)), (87, (m.2 87)), (88, (m.2 88)), (89, (m.2 89)), (90, (m.2 90)), (91, (m.2 91)), (92, (m.2 92)), (101, (m.2 101)), (102, (m.2 102)), (103, (m.2 103)), (104, (m.2 104)), (105, (m.2 105)), (106, (m.2 106)), (107, (m.2 107)), (108, (m.2 108)), (109, upI (m.2 109) (m.1 25) (m.1 99))]) c N D (by omega) (Ty_mO hT rfl rfl ⟨g824, g826, g828, g830, g832, g834, g798, g817, f28, f64, f69, f70, f71, f72, f73, f74, f75, f99, f100, trivial⟩ ⟨G800, G802, G804, G806, G819, (hT.2.1 47), (hT.2.1 48), (hT.2.1 49), G820, (hT.2.1 65), (hT.2.1 66), (hT.2.1 67), (hT.2.1 68), (hT.2.1 76), (hT.2.1 77), (hT.2.1 78), (hT.2.1 79), (hT.2.1 80), (hT.2.1 81), (hT.2.1 82), (hT.2.1 83), (hT.2.1 84), (hT.2.1 85), (hT.2.1 86), (hT.2.1 87), (hT.2.1 88), (hT.2.1 89), (hT.2.1 90), (hT.2.1 91), (hT.2.1 92), (hT.2.1 101), (hT.2.1 102), (hT.2.1 103), (hT.2.1 104), (hT.2.1 105), (hT.2.1 106), (hT.2.1 107), (hT.2.1 108), G818, trivial⟩) 41 ⟨by decide, by decide⟩ (show 1 ≤ (41 : Int) by omega) (show LxP y823 y825 y827 (m.1 6) y829 by first | exact hLx | (intro h9; exfalso; omega) | (intro h9; have h8 := hLx (by omega); omega))) (fun rr842 k843 => ?_)
      obtain ⟨y844, y846, y848, y850, y852, y854, g845, g847, g849, g851, g853, g855, h856, h857, h858, h859, rfl⟩ := k843
      refine ⟨_, _, rfl, ?_⟩
      refine T_nf2 (st' := []) (l' := [(7, y844), (8, y846), (9, y848), (10, y850), (11, y852), (12, y854), (13, y797), (25, (m.1 25) + 1), (28, (m.1 28)), (64, (m.1 64)), (69, (m.1 69)), (70, (m.1 70)), (71, (m.1 71)), (72, (m.1 72)), (73, (m.1 73)), (74, (m.1 74)), (75, (m.1 75)), (99, (m.1 99)), (100, (m.1 100))]) (a' := [(14, F799), (15, F801), (16, F803), (17, F805), (46, upI (m.2 46) (m.1 25) 0), (47, (m.2 47)), (48, (m.2 48)), (49, (m.2 49)), (50, upI (m.2 50) (m.1 25) 0), (65, (m.2 65)), (66, (m.2 66)), (67, (m.2 67)), (68, (m.2 68)), (76, (m.2 76)), (77, (m.2 77)), (78, (m.2 78)), (79, (m.2 79)), (80, (m.2 80)), (81, (m.2 81)), (82, (m.2 82)), (83, (m.2 83)), (84, (m.2 84)), (85, (m.2 85)), (86, (m.2 86)), (87, (m.2 87)), (88, (m.2 88)), (89, (m.2 89)), (90, (m.2 90)), (91, (m.2 91)), (92, (m.2 92)), (101, (m.2 101)), (102, (m.2 102)), (103, (m.2 103)), (104, (m.2 104)), (105, (m.2 105)), (106, (m.2 106)), (107, (m.2 107)), (108, (m.2 108)), (109, upI (m.2 109) (m.1 25) (m.1 99))]) [7, 8, 9, 10, 11, 12] [] rfl ⟨rfl, rfl, rfl, rfl, rfl, rfl, rfl, rfl, rfl, rfl, rfl, rfl, rfl, rfl, rfl, rfl, rfl, rfl, rfl, rfl, rfl, rfl, rfl, rfl, rfl, rfl, rfl, rfl, rfl, rfl, rfl, rfl, rfl, rfl, rfl, rfl, rfl, rfl, trivial⟩ ⟨rfl, rfl, rfl, rfl, rfl, rfl, rfl, rfl, rfl, rfl, rfl, rfl, rfl, rfl, rfl, rfl, rfl, rfl, rfl, rfl, rfl, rfl, rfl, rfl, rfl, rfl, rfl, rfl, rfl, rfl, rfl, rfl, rfl, rfl, rfl, rfl, rfl, rfl, rfl, rfl, rfl, rfl, rfl, rfl, rfl, rfl, rfl, rfl, rfl, rfl, rfl, rfl, rfl, rfl, rfl, rfl, rfl, rfl, rfl, rfl, rfl, rfl, rfl, rfl, rfl, rfl, rfl, rfl, rfl, rfl, rfl, rfl, rfl, rfl, rfl, rfl, rfl, rfl, trivial⟩ rfl rfl (by decide) (by decide) ?_
      replace h856 : LxP y844 y846 y848 (m.1 6) y850 := h856
      replace h857 : y850 = 0 → y829 = 0 ∧ y823 = (41 : Int) := h857
      replace h858 : y825 ≤ y846 := h858
      replace h859 : y850 = 0 → y825 + y827 ≤ y846 := h859
      have hf860 : 1 ≤ y850 := by omega
      clear h857
      clear h859
      have hLx := h856
      clear g824 g826 g828 g830 g832 g834 hf839 h835 h840 h858
      refine T_ld 143 (.ref 189) rfl (fun _ => rfl) ?_
      refine T_ld 145 (.int (i32 123)) rfl (fun _ => rfl) ?_
      refine T_call 148 232 [.ref 189, .int (i32 123)] [] rfl (fun _ => rfl) rfl (c_need w (mO m [(7, y844), (8, y846), (9, y848), (10, y850), (11, y852), (12, y854), (13, y797), (25, (m.1 25) + 1), (28, (m.1 28)), (64, (m.1 64)), (69, (m.1 69)), (70, (m.1 70)), (71, (m.1 71)), (72, (m.1 72)), (73, (m.1 73)), (74, (m.1 74)), (75, (m.1 75)), (99, (m.1 99)), (100, (m.1 100))] [(14, F799), (15, F801), (16, F803), (17, F805), (46, upI (m.2 46) (m.1 25) 0), (47, (m.2 47)), (48, (m.2 48)), (49, (m.2 49)), (50, upI (m.2 50) (m.1 25) 0), (65, (m.2 65)), (66, (m.2 66)), (67, (m.2 67)), (68, (m.2 68)), (76, (m.2 76)), (77, (m.2 77)), (78, (m.2 78)), (79, (m.2 79)), (80, (m.2 80)), (81, (m.2 81)), (82, (m.2 82)), (83, (m.2 83)), (84, (m.2 84)), (85, (m.2 85)), (86, (m.2 86)), (87, (m.2 87)), (88, (m.2 88)), (89, (m.2 89)), (90, (m.2 90)), (91, (m.2 91)), (92, (m.2 92)), (101, (m.2 101)), (102, (m.2 102)), (103, (m.2 103)), (104, (m.2 104)), (105, (m.2 105)), (106, (m.2 106)), (107, (m.2 107)), (108, (m.2 108)), (109, upI (m.2 109) (m.1 25) (m.1 99))]) c N D (by omega) (Ty_mO hT rfl rfl ⟨g845, g847, g849, g851, g853, g855, g798, g817, f28, f64, f69, f70, f71, f72, f73, f74, f75, f99, f100, trivial⟩ ⟨G800, G802, G804, G806, G819, (hT.2.1 47), (hT.2.1 48), (hT.2.1 49), G820, (hT.2.1 65), (hT.2.1 66), (hT.2.1 67), (hT.2.1 68), (hT.2.1 76), (hT.2.1 77), (hT.2.1 78), (hT.2.1 79), (hT.2.1 80), (hT.2.1 81), (hT.2.1 82), (hT.2.1 83), (hT.2.1 84), (hT.2.1 85), (hT.2.1 86), (hT.2.1 87), (hT.2.1 88), (hT.2.1 89), (hT.2.1 90), (hT.2.1 91), (hT.2.1 92), (hT.2.1 101), (hT.2.1 102), (hT.2.1 103), (hT.2.1 104), (hT.2.1 105), (hT.2.1 106), (hT.2.1 107), (hT.2.1 108), G818, trivial⟩) 123 ⟨by decide, by decide⟩ (show 1 ≤ (123 : Int) by omega) (show LxP y844 y846 y848 (m.1 6) y850 by first | exact hLx | (intro h9; exfalso; omega) | (intro h9; have h8 := hLx (by omega); omega))) (fun rr861 k862 => ?_)
      obtain ⟨y863, y865, y867, y869, y871, y873, g864, g866, g868, g870, g872, g874, h875, h876, h877, h878, rfl⟩ := k862
      refine ⟨_, _, rfl, ?_⟩
      refine T_nf2 (st' := []) (l' := [(7, y863), (8, y865), (9, y867), (10, y869), (11, y871), (12, y873), (13, y797), (25, (m.1 25) + 1), (28, (m.1 28)), (64, (m.1 64)), (69, (m.1 69)), (70, (m.1 70)), (71, (m.1 71)), (72, (m.1 72)), (73, (m.1 73)), (74, (m.1 74)), (75, (m.1 75)), (99, (m.1 99)), (100, (m.1 100))]) (a' := [(14, F799), (15, F801), (16, F803), (17, F805), (46, upI (m.2 46) (m.1 25) 0), (47, (m.2 47)), (48, (m.2 48)), (49, (m.2 49)), (50, upI (m.2 50) (m.1 25) 0), (65, (m.2 65)), (66, (m.2 66)), (67, (m.2 67)), (68, (m.2 68)), (76, (m.2 76)), (77, (m.2 77)), (78, (m.2 78)), (79, (m.2 79)), (80, (m.2 80)), (81, (m.2 81)), (82, (m.2 82)), (83, (m.2 83)), (84, (m.2 84)), (85, (m.2 85)), (86, (m.2 86)), (87, (m.2 87)), (88, (m.2 88)), (89, (m.2 89)), (90, (m.2 90)), (91, (m.2 91)), (92, (m.2 92)), (101, (m.2 101)), (102, (m.2 102)), (103, (m.2 103)), (104, (m.2 104)), (105, (m.2 105)), (106, (m.2 106)), (107, (m.2 107)), (108, (m.2 108)), (109, upI (m.2 109) (m.1 25) (m.1 99))]) [7, 8, 9, 10, 11, 12] [] rfl ⟨rfl, rfl, rfl, rfl, rfl, rfl, rfl, rfl, rfl, rfl, rfl, rfl, rfl, rfl, rfl, rfl, rfl, rfl, rfl, rfl, rfl, rfl, rfl, rfl, rfl, rfl, rfl, rfl, rfl, rfl, rfl, rfl, rfl, rfl, rfl, rfl, rfl, rfl, trivial⟩ ⟨rfl, rfl, rfl, rfl, rfl, rfl, rfl, rfl, rfl, rfl, rfl, rfl, rfl, rfl, rfl, rfl, rfl, rfl, rfl, rfl, rfl, rfl, rfl, rfl, rfl, rfl, rfl, rfl, rfl, rfl, rfl, rfl, rfl, rfl, rfl, rfl, rfl, rfl, rfl, rfl, rfl, rfl, rfl, rfl, rfl, rfl, rfl, rfl, rfl, rfl, rfl, rfl, rfl, rfl, rfl, rfl, rfl, rfl, rfl, rfl, rfl, rfl, rfl, rfl, rfl, rfl, rfl, rfl, rfl, rfl, rfl, rfl, rfl, rfl, rfl, rfl, rfl, rfl, trivial⟩ rfl rfl (by decide) (by decide) ?_
      replace h875 : LxP y863 y865 y867 (m.1 6) y869 := h875
      replace h876 : y869 = 0 → y850 = 0 ∧ y844 = (123 : Int) := h876
      replace h877 : y846 ≤ y865 := h877
      replace h878 : y869 = 0 → y846 + y848 ≤ y865 := h878
      have hf879 : 1 ≤ y869 := by omega
      clear h876
      clear h878
      have hLx := h875
      clear g845 g847 g849 g851 g853 g855 hf860 h856 h877
      refine T_ld 149 (.ref 189) rfl (fun _ => rfl) ?_
      refine T_ld 150 (.int (i32 (m.1 25))) rfl (fun _ => rfl) ?_
      refine T_pf (l' := [(7, y863), (8, y865), (9, y867), (10, y869), (11, y871), (12, y873), (13, y797), (25, (m.1 25) + 1), (28, (m.1 28)), (64, (m.1 25)), (69, (m.1 69)), (70, (m.1 70)), (71, (m.1 71)), (72, (m.1 72)), (73, (m.1 73)), (74, (m.1 74)), (75, (m.1 75)), (99, (m.1 99)), (100, (m.1 100))]) 153 (m.1 25) rfl rfl rfl rfl rfl rfl ?_
      have g880 : (-1) ≤ (m.1 25) ∧ (m.1 25) ≤ 15 := ⟨by omega, by omega⟩
      refine T_gf 157 (.int (i32 y869)) rfl rfl rfl rfl rfl rfl ?_
      refine T_if 211 160 rfl rfl rfl (r32 (by omega) (by omega)) (fun (h881 : y869 ≠ 0) => ?_) (fun (h881 : ¬ (y869 ≠ 0)) => by exfalso; omega)
      refine T_ld 212 (.ref 189) rfl (fun _ => rfl) ?_
      refine T_ld 213 (.int (i32 (-1))) rfl (fun _ => rfl) ?_
      refine T_pf (l' := [(7, y863), (8, y865), (9, y867), (10, y869), (11, y871), (12, y873), (13, y797), (25, (m.1 25) + 1), (28, (m.1 28)), (64, (-1)), (69, (m.1 69)), (70, (m.1 70)), (71, (m.1 71)), (72, (m.1 72)), (73, (m.1 73)), (74, (m.1 74)), (75, (m.1 75)), (99, (m.1 99)), (100, (m.1 100))]) 216 (-1) rfl rfl rfl rfl rfl rfl ?_
      refine T_ld 217 (.ref 189) rfl (fun _ => rfl) ?_
      refine T_ld 219 (.int (i32 125)) rfl (fun _ => rfl) ?_
      refine T_call 222 232 [.ref 189, .int (i32 125)] [] rfl (fun _ => rfl) rfl (c_need w (mO m [(7, y863), (8, y865), (9, y867), (10, y869), (11, y871), (12, y873), (13, y797), (25, (m.1 25) + 1), (28, (m.1 28)), (64, (-1)), (69, (m.1 69)), (70, (m.1 70)), (71, (m.1 71)), (72, (m.1 72)), (73, (m.1 73)), (74, (m.1 74)), (75, (m.1 75)), (99, (m.1 99)), (100, (m.1 100))] [(14, F799), (15, F801), (16, F803), (17, F805), (46, upI (m.2 46) (m.1 25) 0), (47, (m.2 47)), (48, (m.2 48)), (49, (m.2 49)), (50, upI (m.2 50) (m.1 25) 0), (65, (m.2 65)), (66, (m.2 66)), (67, (m.2 67)), (68, (m.2 68)), (76, (m.2 76)), (77, (m.2 77)), (78, (m.2 78)), (79, (m.2 79)), (80, (m.2 80)), (81, (m.2 81)), (82, (m.2 82)), (83, (m.2 83)), (84, (m.2 84)), (85, (m.2 85)), (86, (m.2 86)), (87, (m.2 87)), (88, (m.2 88)), (89, (m.2 89)), (90, (m.2 90)), (91, (m.2 91)), (92, (m.2 92)), (101, (m.2 101)), (102, (m.2 102)), (103, (m.2 103)), (104, (m.2 104)), (105, (m.2 105)), (106, (m.2 106)), (107, (m.2 107)), (108, (m.2 108)), (109, upI (m.2 109) (m.1 25) (m.1 99))]) c N D (by omega) (Ty_mO hT rfl rfl ⟨g864, g866, g868, g870, g872, g874, g798, g817, f28, ⟨(by omega : ((-1) : Int) ≤ (-1)), (by omega : ((-1) : Int) ≤ 15)⟩, f69, f70, f71, f72, f73, f74, f75, f99, f100, trivial⟩ ⟨G800, G802, G804, G806, G819, (hT.2.1 47), (hT.2.1 48), (hT.2.1 49), G820, (hT.2.1 65), (hT.2.1 66), (hT.2.1 67), (hT.2.1 68), (hT.2.1 76), (hT.2.1 77), (hT.2.1 78), (hT.2.1 79), (hT.2.1 80), (hT.2.1 81), (hT.2.1 82), (hT.2.1 83), (hT.2.1 84), (hT.2.1 85), (hT.2.1 86), (hT.2.1 87), (hT.2.1 88), (hT.2.1 89), (hT.2.1 90), (hT.2.1 91), (hT.2.1 92), (hT.2.1 101), (hT.2.1 102), (hT.2.1 103), (hT.2.1 104), (hT.2.1 105), (hT.2.1 106), (hT.2.1 107), (hT.2.1 108), G818, trivial⟩) 125 ⟨by decide, by decide⟩ (show 1 ≤ (125 : Int) by omega) (show LxP y863 y865 y867 (m.1 6) y869 by first | exact hLx | (intro h9; exfalso; omega) | (intro h9; have h8 := hLx (by omega); omega))) (fun rr882 k883 => ?_)
      obtain ⟨y884, y886, y888, y890, y892, y894, g885, g887, g889, g891, g893, g895, h896, h897, h898, h899, rfl⟩ := k883
      refine ⟨_, _, rfl, ?_⟩
      refine T_nf2 (st' := []) (l' := [(7, y884), (8, y886), (9, y888), (10, y890), (11, y892), (12, y894), (13, y797), (25, (m.1 25) + 1), (28, (m.1 28)), (64, (-1)), (69, (m.1 69)), (70, (m.1 70)), (71, (m.1 71)), (72, (m.1 72)), (73, (m.1 73)), (74, (m.1 74)), (75, (m.1 75)), (99, (m.1 99)), (100, (m.1 100))]) (a' := [(14, F799), (15, F801), (16, F803), (17, F805), (46, upI (m.2 46) (m.1 25) 0), (47, (m.2 47)), (48, (m.2 48)), (49, (m.2 49)), (50, upI (m.2 50) (m.1 25) 0), (65, (m.2 65)), (66, (m.2 66)), (67, (m.2 67)), (68, (m.2 68)), (76, (m.2 76)), (77, (m.2 77)), (78, (m.2 78)), (79, (m.2 79)), (80, (m.2 80)), (81, (m.2 81)), (82, (m.2 82)), (83, (m.2 83)), (84, (m.2 84)), (85, (m.2 85)), (86, (m.2 86)), (87, (m.2 87)), (88, (m.2 88)), (89, (m.2 89)), (90, (m.2 90)), (91, (m.2 91)), (92, (m.2 92)), (101, (m.2 101)), (102, (m.2 102)), (103, (m.2 103)), (104, (m.2 104)), (105, (m.2 105)), (106, (m.2 106)), (107, (m.2 107)), (108, (m.2 108)), (109, upI (m.2 109) (m.1 25) (m.1 99))]) [7, 8, 9, 10, 11, 12] [] rfl ⟨rfl, rfl, rfl, rfl, rfl, rfl, rfl, rfl, rfl, rfl, rfl, rfl, rfl, rfl, rfl, rfl, rfl, rfl, rfl, rfl, rfl, rfl, rfl, rfl, rfl, rfl, rfl, rfl, rfl, rfl, rfl, rfl, rfl, rfl, rfl, rfl, rfl, rfl, trivial⟩ ⟨rfl, rfl, rfl, rfl, rfl, rfl, rfl, rfl, rfl, rfl, rfl, rfl, rfl, rfl, rfl, rfl, rfl, rfl, rfl, rfl, rfl, rfl, rfl, rfl, rfl, rfl, rfl, rfl, rfl, rfl, rfl, rfl, rfl, rfl, rfl, rfl, rfl, rfl, rfl, rfl, rfl, rfl, rfl, rfl, rfl, rfl, rfl, rfl, rfl, rfl, rfl, rfl, rfl, rfl, rfl, rfl, rfl, rfl, rfl, rfl, rfl, rfl, rfl, rfl, rfl, rfl, rfl, rfl, rfl, rfl, rfl, rfl, rfl, rfl, rfl, rfl, rfl, rfl, trivial⟩ rfl rfl (by decide) (by decide) ?_
      replace h896 : LxP y884 y886 y888 (m.1 6) y890 := h896
      replace h897 : y890 = 0 → y869 = 0 ∧ y863 = (125 : Int) := h897
      replace h898 : y865 ≤ y886 := h898
      replace h899 : y890 = 0 → y865 + y867 ≤ y886 := h899
      have hf900 : 1 ≤ y890 := by omega
      clear h897
      clear h899
      have hLx := h896
      clear g864 g866 g868 g870 g872 g874 hf879 h875 h881 h898
      refine T_ret rfl (fun _ => rfl) ?_
      exact ⟨(mO m [(7, y884), (8, y886), (9, y888), (10, y890), (11, y892), (12, y894), (13, y797), (25, (m.1 25) + 1), (28, (m.1 28)), (64, (-1)), (69, (m.1 69)), (70, (m.1 70)), (71, (m.1 71)), (72, (m.1 72)), (73, (m.1 73)), (74, (m.1 74)), (75, (m.1 75)), (99, (m.1 99)), (100, (m.1 100))] [(14, F799), (15, F801), (16, F803), (17, F805), (46, upI (m.2 46) (m.1 25) 0), (47, (m.2 47)), (48, (m.2 48)), (49, (m.2 49)), (50, upI (m.2 50) (m.1 25) 0), (65, (m.2 65)), (66, (m.2 66)), (67, (m.2 67)), (68, (m.2 68)), (76, (m.2 76)), (77, (m.2 77)), (78, (m.2 78)), (79, (m.2 79)), (80, (m.2 80)), (81, (m.2 81)), (82, (m.2 82)), (83, (m.2 83)), (84, (m.2 84)), (85, (m.2 85)), (86, (m.2 86)), (87, (m.2 87)), (88, (m.2 88)), (89, (m.2 89)), (90, (m.2 90)), (91, (m.2 91)), (92, (m.2 92)), (101, (m.2 101)), (102, (m.2 102)), (103, (m.2 103)), (104, (m.2 104)), (105, (m.2 105)), (106, (m.2 106)), (107, (m.2 107)), (108, (m.2 108)), (109, upI (m.2 109) (m.1 25) (m.1 99))]), (Ty_mO hT rfl rfl ⟨g885, g887, g889, g891, g893, g895, g798, g817, f28, ⟨(by omega : ((-1) : Int) ≤ (-1)), (by omega : ((-1) : Int) ≤ 15)⟩, f69, f70, f71, f72, f73, f74, f75, f99, f100, trivial⟩ ⟨G800, G802, G804, G806, G819, (hT.2.1 47), (hT.2.1 48), (hT.2.1 49), G820, (hT.2.1 65), (hT.2.1 66), (hT.2.1 67), (hT.2.1 68), (hT.2.1 76), (hT.2.1 77), (hT.2.1 78), (hT.2.1 79), (hT.2.1 80), (hT.2.1 81), (hT.2.1 82), (hT.2.1 83), (hT.2.1 84), (hT.2.1 85), (hT.2.1 86), (hT.2.1 87), (hT.2.1 88), (hT.2.1 89), (hT.2.1 90), (hT.2.1 91), (hT.2.1 92), (hT.2.1 101), (hT.2.1 102), (hT.2.1 103), (hT.2.1 104), (hT.2.1 105), (hT.2.1 106), (hT.2.1 107), (hT.2.1 108), G818, trivial⟩), (show y890 = 0 → (m.1 10) = 0 by omega), (show LxP y884 y886 y888 (m.1 6) y890 by first | (first | exact hLx | exact (fun _ => hLx (by omega)) | (intro h9; exfalso; omega)) | (exfalso; omega)), (show ∀ k, F799 k + F801 k ≤ 4000 by first | (exact hNM) | (exfalso; omega)), (show ∀ k, (m.2 47) k + (m.2 48) k ≤ 4000 by first | (exact hPA) | (exfalso; omega)), (fun (h : y890 = 0) => absurd h (by omega)), rfl⟩
    · skip
      refine T_ret rfl (fun _ => rfl) ?_
      exact ⟨(mO m [(7, y785), (8, y787), (9, y789), (10, y791), (11, y793), (12, y795), (13, y797), (25, (m.1 25)), (28, (m.1 28)), (64, (m.1 64)), (69, (m.1 69)), (70, (m.1 70)), (71, (m.1 71)), (72, (m.1 72)), (73, (m.1 73)), (74, (m.1 74)), (75, (m.1 75)), (99, (m.1 99)), (100, (m.1 100))] [(14, F799), (15, F801), (16, F803), (17, F805), (46, (m.2 46)), (47, (m.2 47)), (48, (m.2 48)), (49, (m.2 49)), (50, (m.2 50)), (65, (m.2 65)), (66, (m.2 66)), (67, (m.2 67)), (68, (m.2 68)), (76, (m.2 76)), (77, (m.2 77)), (78, (m.2 78)), (79, (m.2 79)), (80, (m.2 80)), (81, (m.2 81)), (82, (m.2 82)), (83, (m.2 83)), (84, (m.2 84)), (85, (m.2 85)), (86, (m.2 86)), (87, (m.2 87)), (88, (m.2 88)), (89, (m.2 89)), (90, (m.2 90)), (91, (m.2 91)), (92, (m.2 92)), (101, (m.2 101)), (102, (m.2 102)), (103, (m.2 103)), (104, (m.2 104)), (105, (m.2 105)), (106, (m.2 106)), (107, (m.2 107)), (108, (m.2 108)), (109, (m.2 109))]), (Ty_mO hT rfl rfl ⟨g786, g788, g790, g792, g794, g796, g798, f25, f28, f64, f69, f70, f71, f72, f73, f74, f75, f99, f100, trivial⟩ ⟨G800, G802, G804, G806, (hT.2.1 46), (hT.2.1 47), (hT.2.1 48), (hT.2.1 49), (hT.2.1 50), (hT.2.1 65), (hT.2.1 66), (hT.2.1 67), (hT.2.1 68), (hT.2.1 76), (hT.2.1 77), (hT.2.1 78), (hT.2.1 79), (hT.2.1 80), (hT.2.1 81), (hT.2.1 82), (hT.2.1 83), (hT.2.1 84), (hT.2.1 85), (hT.2.1 86), (hT.2.1 87), (hT.2.1 88), (hT.2.1 89), (hT.2.1 90), (hT.2.1 91), (hT.2.1 92), (hT.2.1 101), (hT.2.1 102), (hT.2.1 103), (hT.2.1 104), (hT.2.1 105), (hT.2.1 106), (hT.2.1 107), (hT.2.1 108), (hT.2.1 109), trivial⟩), (show y791 = 0 → (m.1 10) = 0 by omega), (show LxP y785 y787 y789 (m.1 6) y791 by first | (first | exact hLx | exact (fun _ => hLx (by omega)) | (intro h9; exfalso; omega)) | (exfalso; omega)), (show ∀ k, F799 k + F801 k ≤ 4000 by first | (exact hNM) | (exfalso; omega)), (show ∀ k, (m.2 47) k + (m.2 48) k ≤ 4000 by first | (exact hPA) | (exfalso; omega)), (fun (h : y791 = 0) => absurd h (by omega)), rfl⟩
