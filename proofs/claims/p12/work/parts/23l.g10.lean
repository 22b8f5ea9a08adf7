def Q_takeParameter (m : mR) (c : Nat → Option am_C) (N : Nat) (a : Int) : ag_Re af_T → Prop := fun R => ∃ (M : mR), Ty M ∧ ((M.1 10) = 0 → (m.1 10) = 0) ∧ (LxP (M.1 7) (M.1 8) (M.1 9) (m.1 6) (M.1 10)) ∧ (∀ k, (M.2 47) k + (M.2 48) k ≤ 4000) ∧ (M.1 10 = 0 → ((m.1 8) + 1 ≤ (M.1 8))) ∧ R = (.inl (none), (mhp (mO m [(7, (M.1 7)), (8, (M.1 8)), (9, (M.1 9)), (10, (M.1 10)), (11, (M.1 11)), (12, (M.1 12))] [(46, (M.2 46)), (47, (M.2 47)), (48, (M.2 48)), (49, (M.2 49))]) c, N), 0, 0)
set_option maxHeartbeats 8000000 in
theorem c_takeParameter (w : wX) (m : mR) (c : Nat → Option am_C) (N D : Nat) (hD : 7 ≤ D) (hT : Ty m) (a : Int) (qa : R32 a) (hLx0 : LxP (m.1 7) (m.1 8) (m.1 9) (m.1 6) (m.1 10)) (hPA0 : ∀ k, (m.2 47) k + (m.2 48) k ≤ 4000) (p2 : 0 ≤ a ∧ a ≤ 15) (hC : m.1 10 = 0 → True) : TC w D 268 [.ref 189, .int (i32 a)] (mhp m c, N) (Q_takeParameter m c N a) := by
  obtain ⟨D, rfl⟩ : ∃ k, D = k + 1 := ⟨D - 1, by omega⟩
  obtain ⟨qaa, qab⟩ := id qa
  have hLx := hLx0
  have hPA := hPA0
  have f7 : 0 ≤ m.1 7 ∧ m.1 7 ≤ 330 := hT.1 7
  have f8 : 0 ≤ m.1 8 ∧ m.1 8 ≤ 4000 := hT.1 8
  have f9 : 0 ≤ m.1 9 ∧ m.1 9 ≤ 4000 := hT.1 9
  have f10 : 0 ≤ m.1 10 ∧ m.1 10 ≤ 8 := hT.1 10
  have f11 : (-1) ≤ m.1 11 ∧ m.1 11 ≤ 4000 := hT.1 11
  have f12 : (-9223372036854775808) ≤ m.1 12 ∧ m.1 12 ≤ 9223372036854775807 := hT.1 12
  have f6 : 0 ≤ m.1 6 ∧ m.1 6 ≤ 4000 := hT.1 6
  refine Tc_of rfl ?_
  show TT w D pm_268 (0, [(0, .ref 189), (1, .int (i32 a))], [], (mhp m c, N), 0, 0) (Q_takeParameter m c N a)
  rw [show (mhp m c, N) = (mhp (mO m [(7, (m.1 7)), (8, (m.1 8)), (9, (m.1 9)), (10, (m.1 10)), (11, (m.1 11)), (12, (m.1 12))] [(46, (m.2 46)), (47, (m.2 47)), (48, (m.2 48)), (49, (m.2 49))]) c, N) from congrArg (fun M => (mhp M c, N)) (mO_pad m [7, 8, 9, 10, 11, 12] [46, 47, 48, 49])]
  by_cases hf0 : m.1 10 = 0
  · skip
    have h7 := hLx (by omega)
    have J153_15 : ∀ (v12 : Int) (s13 : Int) (m14 : mR), (R32 v12) → (R32 s13) → (Ty m14) → (0 ≤ v12) → (1 ≤ s13) → (s13 ≤ 64) → (1 ≤ (m14.1 10)) → ((m14.1 10) ≤ 8) → (∀ k, (m14.2 47) k + (m14.2 48) k ≤ 4000) → ((m.2 46) a ≤ 3) → TT w D pm_268 (153, [(0, .ref 189), (1, .int (i32 a)), (2, .int (i32 ((4 * a) + ((m.2 46) a)))), (3, .int (i32 v12))], [.int (i32 s13), .int (i32 ((4 * a) + ((m.2 46) a))), .ref 219], (mhp (mO m [(7, (m14.1 7)), (8, (m14.1 8)), (9, (m14.1 9)), (10, (m14.1 10)), (11, (m14.1 11)), (12, (m14.1 12))] [(46, (m.2 46)), (47, (m14.2 47)), (48, (m14.2 48)), (49, (m.2 49))]) c, N), 0, 0) (Q_takeParameter m c N a) := by
      intro v12 s13 m14 q16 q17 q18 ic19 ic20 ic21 ic22 ic23 ic24 ic25
      obtain ⟨q16a, q16b⟩ := id q16
      obtain ⟨q17a, q17b⟩ := id q17
      have q18_7 : 0 ≤ m14.1 7 ∧ m14.1 7 ≤ 330 := q18.1 7
      have q18_8 : 0 ≤ m14.1 8 ∧ m14.1 8 ≤ 4000 := q18.1 8
      have q18_9 : 0 ≤ m14.1 9 ∧ m14.1 9 ≤ 4000 := q18.1 9
      have q18_10 : 0 ≤ m14.1 10 ∧ m14.1 10 ≤ 8 := q18.1 10
      have q18_11 : (-1) ≤ m14.1 11 ∧ m14.1 11 ≤ 4000 := q18.1 11
      have q18_12 : (-9223372036854775808) ≤ m14.1 12 ∧ m14.1 12 ≤ 9223372036854775807 := q18.1 12
      have hPA := ic24
      have G27 : ∀ j, 0 ≤ (upI (m.2 49) ((4 * a) + ((m.2 46) a)) s13) j ∧ (upI (m.2 49) ((4 * a) + ((m.2 46) a)) s13) j ≤ 64 := upI_rg (hT.2.1 49) ⟨by omega, by omega⟩
      refine T_iast (a' := [(46, (m.2 46)), (47, (m14.2 47)), (48, (m14.2 48)), (49, upI (m.2 49) ((4 * a) + ((m.2 46) a)) s13)]) 154 49 (m.2 49) rfl rfl rfl (by omega) (show ((4 * a) + ((m.2 46) a)) < (64 : Int) by omega) rfl rfl ?_
      refine T_gf 158 (.ref 216) rfl rfl rfl rfl rfl rfl ?_
      refine T_ld 159 (.int (i32 a)) rfl (fun _ => rfl) ?_
      refine T_dup2 160 rfl (fun _ => rfl) ?_
      refine T_iald 161 46 (m.2 46) rfl rfl rfl (by omega) (show a < (16 : Int) by omega) rfl ?_
      have e28 : 0 ≤ (m.2 46) a ∧ (m.2 46) a ≤ 4 := (hT.2.1 46) a
      refine T_ld 162 (.int (i32 1)) rfl (fun _ => rfl) ?_
      refine T_iadd 163 rfl rfl ?_
      have G29 : ∀ j, 0 ≤ (upI (m.2 46) a (((m.2 46) a) + 1)) j ∧ (upI (m.2 46) a (((m.2 46) a) + 1)) j ≤ 4 := upI_rg (hT.2.1 46) ⟨by omega, by omega⟩
      refine T_iast (a' := [(46, upI (m.2 46) a (((m.2 46) a) + 1)), (47, (m14.2 47)), (48, (m14.2 48)), (49, upI (m.2 49) ((4 * a) + ((m.2 46) a)) s13)]) 164 46 (m.2 46) rfl rfl rfl (by omega) (show a < (16 : Int) by omega) rfl rfl ?_
      refine T_ret rfl (fun _ => rfl) ?_
      exact ⟨(mO m [(7, (m14.1 7)), (8, (m14.1 8)), (9, (m14.1 9)), (10, (m14.1 10)), (11, (m14.1 11)), (12, (m14.1 12))] [(46, upI (m.2 46) a (((m.2 46) a) + 1)), (47, (m14.2 47)), (48, (m14.2 48)), (49, upI (m.2 49) ((4 * a) + ((m.2 46) a)) s13)]), (Ty_mO hT rfl rfl ⟨(q18.1 7), (q18.1 8), (q18.1 9), (q18.1 10), (q18.1 11), (q18.1 12), trivial⟩ ⟨G29, (q18.2.1 47), (q18.2.1 48), G27, trivial⟩), (show (m14.1 10) = 0 → (m.1 10) = 0 by omega), (show LxP (m14.1 7) (m14.1 8) (m14.1 9) (m.1 6) (m14.1 10) by first | (first | exact hLx | exact (fun _ => hLx (by omega)) | (intro h9; exfalso; omega)) | (exfalso; omega)), (show ∀ k, (m14.2 47) k + (m14.2 48) k ≤ 4000 by first | (first | exact hPA | (intro k; have := hPA0 k; have h7 := hLx0 hf0; unfold upI; split <;> omega)) | (exfalso; omega)), (fun (h : (m14.1 10) = 0) => absurd h (by omega)), rfl⟩
    have J141_32 : ∀ (v30 : Int) (m31 : mR), (R32 v30) → (Ty m31) → (0 ≤ v30) → (1 ≤ (m31.1 10)) → ((m31.1 10) ≤ 8) → (∀ k, (m31.2 47) k + (m31.2 48) k ≤ 4000) → ((m.2 46) a ≤ 3) → TT w D pm_268 (141, [(0, .ref 189), (1, .int (i32 a)), (2, .int (i32 ((4 * a) + ((m.2 46) a)))), (3, .int (i32 v30))], [], (mhp (mO m [(7, (m31.1 7)), (8, (m31.1 8)), (9, (m31.1 9)), (10, (m31.1 10)), (11, (m31.1 11)), (12, (m31.1 12))] [(46, (m.2 46)), (47, (m31.2 47)), (48, (m31.2 48)), (49, (m.2 49))]) c, N), 0, 0) (Q_takeParameter m c N a) := by
      intro v30 m31 q33 q34 ic35 ic36 ic37 ic38 ic39
      obtain ⟨q33a, q33b⟩ := id q33
      have q34_7 : 0 ≤ m31.1 7 ∧ m31.1 7 ≤ 330 := q34.1 7
      have q34_8 : 0 ≤ m31.1 8 ∧ m31.1 8 ≤ 4000 := q34.1 8
      have q34_9 : 0 ≤ m31.1 9 ∧ m31.1 9 ≤ 4000 := q34.1 9
      have q34_10 : 0 ≤ m31.1 10 ∧ m31.1 10 ≤ 8 := q34.1 10
      have q34_11 : (-1) ≤ m31.1 11 ∧ m31.1 11 ≤ 4000 := q34.1 11
      have q34_12 : (-9223372036854775808) ≤ m31.1 12 ∧ m31.1 12 ≤ 9223372036854775807 := q34.1 12
      have hPA := ic38
      refine T_gf 145 (.ref 219) rfl rfl rfl rfl rfl rfl ?_
      refine T_ld 146 (.int (i32 ((4 * a) + ((m.2 46) a)))) rfl (fun _ => rfl) ?_
      refine T_ld 147 (.ref 189) rfl (fun _ => rfl) ?_
      refine T_ld 148 (.int (i32 1)) rfl (fun _ => rfl) ?_
      refine T_ld 150 (.int (i32 64)) rfl (fun _ => rfl) ?_
      refine T_call 153 234 [.ref 189, .int (i32 1), .int (i32 64)] [.int (i32 ((4 * a) + ((m.2 46) a))), .ref 219] rfl (fun _ => rfl) rfl (c_number w (mO m [(7, (m31.1 7)), (8, (m31.1 8)), (9, (m31.1 9)), (10, (m31.1 10)), (11, (m31.1 11)), (12, (m31.1 12))] [(46, (m.2 46)), (47, (m31.2 47)), (48, (m31.2 48)), (49, (m.2 49))]) c N D (by omega) (Ty_mO hT rfl rfl ⟨(q34.1 7), (q34.1 8), (q34.1 9), (q34.1 10), (q34.1 11), (q34.1 12), trivial⟩ ⟨(hT.2.1 46), (q34.2.1 47), (q34.2.1 48), (hT.2.1 49), trivial⟩) 1 64 ⟨by decide, by decide⟩ ⟨by decide, by decide⟩ (show LxP (m31.1 7) (m31.1 8) (m31.1 9) (m.1 6) (m31.1 10) by first | exact hLx | (intro h9; exfalso; omega) | (intro h9; have h8 := hLx (by omega); omega)) (show (1 : Int) ≤ (64 : Int) by omega)) (fun rr41 k42 => ?_)
      obtain ⟨y43, y45, y47, y49, y51, y53, nu, g44, g46, g48, g50, g52, g54, g55, h56, h57, h58, h59, h60, h61, rfl⟩ := k42
      refine ⟨_, _, rfl, ?_⟩
      refine T_nf2 (st' := [.int (i32 nu), .int (i32 ((4 * a) + ((m.2 46) a))), .ref 219]) (l' := [(7, y43), (8, y45), (9, y47), (10, y49), (11, y51), (12, y53)]) (a' := [(46, (m.2 46)), (47, (m31.2 47)), (48, (m31.2 48)), (49, (m.2 49))]) [7, 8, 9, 10, 11, 12] [] rfl ⟨rfl, rfl, rfl, rfl, rfl, rfl, rfl, rfl, rfl, rfl, rfl, rfl, trivial⟩ ⟨rfl, rfl, rfl, rfl, rfl, rfl, rfl, rfl, trivial⟩ rfl rfl (by decide) (by decide) ?_
      obtain ⟨g55a, g55b⟩ := g55
      replace h56 : LxP y43 y45 y47 (m.1 6) y49 := h56
      replace h57 : (m31.1 8) ≤ y45 := h57
      replace h58 : y49 = 0 → (m31.1 10) = 0 ∧ (m31.1 8) + (m31.1 9) ≤ y45 := h58
      replace h59 : y49 = 0 → (m31.1 7) = 2 := h59
      replace h60 : (1 : Int) ≤ nu ∧ nu ≤ (64 : Int) := h60
      replace h61 : y49 = 0 → nu = (m31.1 12) := h61
      have hf62 : 1 ≤ y49 := by omega
      clear h58
      clear h59
      clear h61
      have hLx := h56
      clear q34_7 q34_8 q34_9 q34_10 q34_11 q34_12 ic36 ic37 h57
      exact J153_15 v30 nu (mO m [(7, y43), (8, y45), (9, y47), (10, y49), (11, y51), (12, y53)] [(46, (m.2 46)), (47, (m31.2 47)), (48, (m31.2 48)), (49, (m.2 49))]) (r32 (by omega) (by omega)) (r32 (by omega) (by omega)) (Ty_mO hT rfl rfl ⟨g44, g46, g48, g50, g52, g54, trivial⟩ ⟨(hT.2.1 46), (q34.2.1 47), (q34.2.1 48), (hT.2.1 49), trivial⟩) (show 0 ≤ v30 by omega) (show 1 ≤ nu by omega) (show nu ≤ 64 by omega) (show 1 ≤ y49 by omega) (show y49 ≤ 8 by omega) (show ∀ k, (m31.2 47) k + (m31.2 48) k ≤ 4000 by first | exact hPA | (intro k; have := hPA0 k; have h7 := hLx0 hf0; unfold upI; split <;> omega)) (show (m.2 46) a ≤ 3 by omega)
    have J135_65 : ∀ (v63 : Int) (m64 : mR), (R32 v63) → (Ty m64) → (0 ≤ v63) → (1 ≤ (m64.1 10)) → ((m64.1 10) ≤ 8) → (∀ k, (m64.2 47) k + (m64.2 48) k ≤ 4000) → ((m.2 46) a ≤ 3) → ((-2147483648) ≤ ((4 * a) + ((m.2 46) a)) ∧ ((4 * a) + ((m.2 46) a)) ≤ 2147483647) → TT w D pm_268 (135, [(0, .ref 189), (1, .int (i32 a)), (2, .int (i32 ((4 * a) + ((m.2 46) a)))), (3, .int (i32 v63))], [], (mhp (mO m [(7, (m64.1 7)), (8, (m64.1 8)), (9, (m64.1 9)), (10, (m64.1 10)), (11, (m64.1 11)), (12, (m64.1 12))] [(46, (m.2 46)), (47, (m64.2 47)), (48, (m64.2 48)), (49, (m.2 49))]) c, N), 0, 0) (Q_takeParameter m c N a) := by
      intro v63 m64 q66 q67 ic68 ic69 ic70 ic71 ic72 ic73
      obtain ⟨q66a, q66b⟩ := id q66
      have q67_7 : 0 ≤ m64.1 7 ∧ m64.1 7 ≤ 330 := q67.1 7
      have q67_8 : 0 ≤ m64.1 8 ∧ m64.1 8 ≤ 4000 := q67.1 8
      have q67_9 : 0 ≤ m64.1 9 ∧ m64.1 9 ≤ 4000 := q67.1 9
      have q67_10 : 0 ≤ m64.1 10 ∧ m64.1 10 ≤ 8 := q67.1 10
      have q67_11 : (-1) ≤ m64.1 11 ∧ m64.1 11 ≤ 4000 := q67.1 11
      have q67_12 : (-9223372036854775808) ≤ m64.1 12 ∧ m64.1 12 ≤ 9223372036854775807 := q67.1 12
      have hPA := ic71
      refine T_ld 136 (.ref 189) rfl (fun _ => rfl) ?_
      refine T_ld 138 (.int (i32 58)) rfl (fun _ => rfl) ?_
      refine T_call 141 232 [.ref 189, .int (i32 58)] [] rfl (fun _ => rfl) rfl (c_need w (mO m [(7, (m64.1 7)), (8, (m64.1 8)), (9, (m64.1 9)), (10, (m64.1 10)), (11, (m64.1 11)), (12, (m64.1 12))] [(46, (m.2 46)), (47, (m64.2 47)), (48, (m64.2 48)), (49, (m.2 49))]) c N D (by omega) (Ty_mO hT rfl rfl ⟨(q67.1 7), (q67.1 8), (q67.1 9), (q67.1 10), (q67.1 11), (q67.1 12), trivial⟩ ⟨(hT.2.1 46), (q67.2.1 47), (q67.2.1 48), (hT.2.1 49), trivial⟩) 58 ⟨by decide, by decide⟩ (show 1 ≤ (58 : Int) by omega) (show LxP (m64.1 7) (m64.1 8) (m64.1 9) (m.1 6) (m64.1 10) by first | exact hLx | (intro h9; exfalso; omega) | (intro h9; have h8 := hLx (by omega); omega))) (fun rr75 k76 => ?_)
      obtain ⟨y77, y79, y81, y83, y85, y87, g78, g80, g82, g84, g86, g88, h89, h90, h91, h92, rfl⟩ := k76
      refine ⟨_, _, rfl, ?_⟩
      refine T_nf2 (st' := []) (l' := [(7, y77), (8, y79), (9, y81), (10, y83), (11, y85), (12, y87)]) (a' := [(46, (m.2 46)), (47, (m64.2 47)), (48, (m64.2 48)), (49, (m.2 49))]) [7, 8, 9, 10, 11, 12] [] rfl ⟨rfl, rfl, rfl, rfl, rfl, rfl, rfl, rfl, rfl, rfl, rfl, rfl, trivial⟩ ⟨rfl, rfl, rfl, rfl, rfl, rfl, rfl, rfl, trivial⟩ rfl rfl (by decide) (by decide) ?_
      replace h89 : LxP y77 y79 y81 (m.1 6) y83 := h89
      replace h90 : y83 = 0 → (m64.1 10) = 0 ∧ (m64.1 7) = (58 : Int) := h90
      replace h91 : (m64.1 8) ≤ y79 := h91
      replace h92 : y83 = 0 → (m64.1 8) + (m64.1 9) ≤ y79 := h92
      have hf93 : 1 ≤ y83 := by omega
      clear h90
      clear h92
      have hLx := h89
      clear q67_7 q67_8 q67_9 q67_10 q67_11 q67_12 ic69 ic70 h91
      exact J141_32 v63 (mO m [(7, y77), (8, y79), (9, y81), (10, y83), (11, y85), (12, y87)] [(46, (m.2 46)), (47, (m64.2 47)), (48, (m64.2 48)), (49, (m.2 49))]) (r32 (by omega) (by omega)) (Ty_mO hT rfl rfl ⟨g78, g80, g82, g84, g86, g88, trivial⟩ ⟨(hT.2.1 46), (q67.2.1 47), (q67.2.1 48), (hT.2.1 49), trivial⟩) (show 0 ≤ v63 by omega) (show 1 ≤ y83 by omega) (show y83 ≤ 8 by omega) (show ∀ k, (m64.2 47) k + (m64.2 48) k ≤ 4000 by first | exact hPA | (intro k; have := hPA0 k; have h7 := hLx0 hf0; unfold upI; split <;> omega)) (show (m.2 46) a ≤ 3 by omega)
    have J97_96 : ∀ (v94 : Int) (m95 : mR), (R32 v94) → (Ty m95) → (0 ≤ v94) → (v94 ≤ 2147483646) → (1 ≤ (m95.1 10)) → ((m95.1 10) ≤ 8) → (∀ k, (m.2 47) k + (m.2 48) k ≤ 4000) → (1 ≤ ((4 * a) + ((m.2 46) a)) ∧ ((4 * a) + ((m.2 46) a)) ≤ 2147483647) → TT w D pm_268 (97, [(0, .ref 189), (1, .int (i32 a)), (2, .int (i32 ((4 * a) + ((m.2 46) a)))), (3, .int (i32 v94))], [], (mhp (mO m [(7, (m.1 7)), (8, (m.1 8)), (9, (m.1 9)), (10, (m95.1 10)), (11, (m95.1 11)), (12, (m.1 12))] [(46, (m.2 46)), (47, (m.2 47)), (48, (m.2 48)), (49, (m.2 49))]) c, N), 0, 0) (Q_takeParameter m c N a) := by
      intro v94 m95 q97 q98 ic99 ic100 ic101 ic102 ic103 ic104
      obtain ⟨q97a, q97b⟩ := id q97
      have q98_10 : 0 ≤ m95.1 10 ∧ m95.1 10 ≤ 8 := q98.1 10
      have q98_11 : (-1) ≤ m95.1 11 ∧ m95.1 11 ≤ 4000 := q98.1 11
      have hPA := ic103
      refine T_iinc 100 [(3, .int (i32 (v94 + 1))), (0, .ref 189), (1, .int (i32 a)), (2, .int (i32 ((4 * a) + ((m.2 46) a))))] rfl rfl (by decide) rfl rfl ?_
      refine T_goto 57 rfl (fun _ => rfl) ?_
      have L57_108 : ∀ (n : Nat) (v106 : Int) (m107 : mR), (R32 v106) → (Ty m107) → (1 ≤ v106) → (v106 ≤ 2147483647) → (v106 ≤ (4 * a) + ((m.2 46) a)) → ((m107.1 10) = 0 → True) → ((4 * a) + ((m.2 46) a)) - v106 < (n : Int) → TT w D pm_268 (57, [(0, .ref 189), (1, .int (i32 a)), (2, .int (i32 ((4 * a) + ((m.2 46) a)))), (3, .int (i32 v106))], [], (mhp (mO m [(7, (m.1 7)), (8, (m.1 8)), (9, (m.1 9)), (10, (m107.1 10)), (11, (m107.1 11)), (12, (m.1 12))] [(46, (m.2 46)), (47, (m.2 47)), (48, (m.2 48)), (49, (m.2 49))]) c, N), 0, 0) (Q_takeParameter m c N a) := by
        intro n
        induction n with
        | zero =>
          intro v106 m107 q109 q110 ic111 ic112 ic113 c114 hmu
          obtain ⟨q109a, q109b⟩ := id q109
          have q110_10 : 0 ≤ m107.1 10 ∧ m107.1 10 ≤ 8 := q110.1 10
          have q110_11 : (-1) ≤ m107.1 11 ∧ m107.1 11 ≤ 4000 := q110.1 11
          exfalso
          omega
        | succ n ih =>
          intro v106 m107 q109 q110 ic111 ic112 ic113 c114 hmu
          obtain ⟨q109a, q109b⟩ := id q109
          have q110_10 : 0 ≤ m107.1 10 ∧ m107.1 10 ≤ 8 := q110.1 10
          have q110_11 : (-1) ≤ m107.1 11 ∧ m107.1 11 ≤ 4000 := q110.1 11
          have ih115 := ih
          by_cases hf116 : (m107.1 10) = 0
          · skip
            refine T_ld 58 (.int (i32 v106)) rfl (fun _ => rfl) ?_
            refine T_ld 59 (.int (i32 ((4 * a) + ((m.2 46) a)))) rfl (fun _ => rfl) ?_
            refine T_icmp 103 62 rfl rfl rfl (r32 (by omega) (by omega)) (r32 (by omega) (by omega)) (fun (h117 : (4 * a) + ((m.2 46) a) ≤ v106) => ?_) (fun (h117 : ¬ ((4 * a) + ((m.2 46) a) ≤ v106)) => ?_)
            · skip
              refine T_gf 107 (.int (i32 (m107.1 10))) rfl rfl rfl rfl rfl rfl ?_
              refine T_if 111 110 rfl rfl rfl (r32 (by omega) (by omega)) (fun (h118 : (m107.1 10) ≤ 0) => ?_) (fun (h118 : ¬ ((m107.1 10) ≤ 0)) => by exfalso; omega)
              refine T_gf 115 (.ref 217) rfl rfl rfl rfl rfl rfl ?_
              refine T_ld 116 (.int (i32 ((4 * a) + ((m.2 46) a)))) rfl (fun _ => rfl) ?_
              refine T_gf 120 (.int (i32 (m.1 8))) rfl rfl rfl rfl rfl rfl ?_
              have G119 : ∀ j, 0 ≤ (upI (m.2 47) ((4 * a) + ((m.2 46) a)) (m.1 8)) j ∧ (upI (m.2 47) ((4 * a) + ((m.2 46) a)) (m.1 8)) j ≤ 4000 := upI_rg (hT.2.1 47) ⟨by omega, by omega⟩
              refine T_iast (a' := [(46, (m.2 46)), (47, upI (m.2 47) ((4 * a) + ((m.2 46) a)) (m.1 8)), (48, (m.2 48)), (49, (m.2 49))]) 121 47 (m.2 47) rfl rfl rfl (by omega) (show ((4 * a) + ((m.2 46) a)) < (64 : Int) by omega) rfl rfl ?_
              refine T_gf 125 (.ref 218) rfl rfl rfl rfl rfl rfl ?_
              refine T_ld 126 (.int (i32 ((4 * a) + ((m.2 46) a)))) rfl (fun _ => rfl) ?_
              refine T_gf 130 (.int (i32 (m.1 9))) rfl rfl rfl rfl rfl rfl ?_
              have G120 : ∀ j, 0 ≤ (upI (m.2 48) ((4 * a) + ((m.2 46) a)) (m.1 9)) j ∧ (upI (m.2 48) ((4 * a) + ((m.2 46) a)) (m.1 9)) j ≤ 4000 := upI_rg (hT.2.1 48) ⟨by omega, by omega⟩
              refine T_iast (a' := [(46, (m.2 46)), (47, upI (m.2 47) ((4 * a) + ((m.2 46) a)) (m.1 8)), (48, upI (m.2 48) ((4 * a) + ((m.2 46) a)) (m.1 9)), (49, (m.2 49))]) 131 48 (m.2 48) rfl rfl rfl (by omega) (show ((4 * a) + ((m.2 46) a)) < (64 : Int) by omega) rfl rfl ?_
              refine T_ld 132 (.ref 189) rfl (fun _ => rfl) ?_
              refine T_call 135 212 [.ref 189] [] rfl (fun _ => rfl) rfl (c_next w (mO m [(7, (m.1 7)), (8, (m.1 8)), (9, (m.1 9)), (10, (m107.1 10)), (11, (m107.1 11)), (12, (m.1 12))] [(46, (m.2 46)), (47, upI (m.2 47) ((4 * a) + ((m.2 46) a)) (m.1 8)), (48, upI (m.2 48) ((4 * a) + ((m.2 46) a)) (m.1 9)), (49, (m.2 49))]) c N D (by omega) (Ty_mO hT rfl rfl ⟨f7, f8, f9, (q110.1 10), (q110.1 11), f12, trivial⟩ ⟨(hT.2.1 46), G119, G120, (hT.2.1 49), trivial⟩) (show (m107.1 10) = 0 → (m.1 8) + (m.1 9) ≤ (m.1 6) by first | omega | (intro h9; have h8 := hLx h9; omega))) (fun rr121 k122 => ?_)
              obtain ⟨y123, y125, y127, y129, y131, y133, g124, g126, g128, g130, g132, g134, h135, h136, h137, h138, rfl⟩ := k122
              refine ⟨_, _, rfl, ?_⟩
              refine T_nf2 (st' := []) (l' := [(7, y123), (8, y125), (9, y127), (10, y129), (11, y131), (12, y133)]) (a' := [(46, (m.2 46)), (47, upI (m.2 47) ((4 * a) + ((m.2 46) a)) (m.1 8)), (48, upI (m.2 48) ((4 * a) + ((m.2 46) a)) (m.1 9)), (49, (m.2 49))]) [7, 8, 9, 10, 11, 12] [] rfl ⟨rfl, rfl, rfl, rfl, rfl, rfl, rfl, rfl, rfl, rfl, rfl, rfl, trivial⟩ ⟨rfl, rfl, rfl, rfl, rfl, rfl, rfl, rfl, trivial⟩ rfl rfl (by decide) (by decide) ?_
              by_cases hf139 : y129 = 0
              · skip
                subst hf139
                replace h135 : LxP y123 y125 y127 (m.1 6) (0 : Int) := h135
                have hLx := h135
                replace h136 : (m107.1 10) = 0 := h136 rfl
                replace h137 : (m.1 8) ≤ y125 := h137
                replace h138 : (m.1 8) + (m.1 9) ≤ y125 := h138 rfl
                have u140 : (m.1 8) + 1 ≤ y125 := by omega
                clear q97a q97b q97 q98_10 q98_11 ic99 ic100 ic101 ic102 q110_10 q110_11 h118 g130 h136
                refine T_ld 136 (.ref 189) rfl (fun _ => rfl) ?_
                refine T_ld 138 (.int (i32 58)) rfl (fun _ => rfl) ?_
                refine T_call 141 232 [.ref 189, .int (i32 58)] [] rfl (fun _ => rfl) rfl (c_need w (mO m [(7, y123), (8, y125), (9, y127), (10, 0), (11, y131), (12, y133)] [(46, (m.2 46)), (47, upI (m.2 47) ((4 * a) + ((m.2 46) a)) (m.1 8)), (48, upI (m.2 48) ((4 * a) + ((m.2 46) a)) (m.1 9)), (49, (m.2 49))]) c N D (by omega) (Ty_mO hT rfl rfl ⟨g124, g126, g128, ⟨(by omega : (0 : Int) ≤ 0), (by omega : (0 : Int) ≤ 8)⟩, g132, g134, trivial⟩ ⟨(hT.2.1 46), G119, G120, (hT.2.1 49), trivial⟩) 58 ⟨by decide, by decide⟩ (show 1 ≤ (58 : Int) by omega) (show LxP y123 y125 y127 (m.1 6) (0 : Int) by first | exact hLx | (intro h9; exfalso; omega) | (intro h9; have h8 := hLx (by omega); omega))) (fun rr141 k142 => ?_)
                obtain ⟨y143, y145, y147, y149, y151, y153, g144, g146, g148, g150, g152, g154, h155, h156, h157, h158, rfl⟩ := k142
                refine ⟨_, _, rfl, ?_⟩
                refine T_nf2 (st' := []) (l' := [(7, y143), (8, y145), (9, y147), (10, y149), (11, y151), (12, y153)]) (a' := [(46, (m.2 46)), (47, upI (m.2 47) ((4 * a) + ((m.2 46) a)) (m.1 8)), (48, upI (m.2 48) ((4 * a) + ((m.2 46) a)) (m.1 9)), (49, (m.2 49))]) [7, 8, 9, 10, 11, 12] [] rfl ⟨rfl, rfl, rfl, rfl, rfl, rfl, rfl, rfl, rfl, rfl, rfl, rfl, trivial⟩ ⟨rfl, rfl, rfl, rfl, rfl, rfl, rfl, rfl, trivial⟩ rfl rfl (by decide) (by decide) ?_
                by_cases hf159 : y149 = 0
                · skip
                  subst hf159
                  replace h155 : LxP y143 y145 y147 (m.1 6) (0 : Int) := h155
                  have hLx := h155
                  replace h156 : (0 : Int) = 0 ∧ y123 = (58 : Int) := h156 rfl
                  replace h157 : y125 ≤ y145 := h157
                  replace h158 : y125 + y127 ≤ y145 := h158 rfl
                  have u160 : (m.1 8) + 1 ≤ y145 := by omega
                  clear g124 g126 g128 g132 g134 h135 h137 h138 u140 g150 h156 h157 h158
                  refine T_gf 145 (.ref 219) rfl rfl rfl rfl rfl rfl ?_
                  refine T_ld 146 (.int (i32 ((4 * a) + ((m.2 46) a)))) rfl (fun _ => rfl) ?_
                  refine T_ld 147 (.ref 189) rfl (fun _ => rfl) ?_
                  refine T_ld 148 (.int (i32 1)) rfl (fun _ => rfl) ?_
                  refine T_ld 150 (.int (i32 64)) rfl (fun _ => rfl) ?_
                  refine T_call 153 234 [.ref 189, .int (i32 1), .int (i32 64)] [.int (i32 ((4 * a) + ((m.2 46) a))), .ref 219] rfl (fun _ => rfl) rfl (c_number w (mO m [(7, y143), (8, y145), (9, y147), (10, 0), (11, y151), (12, y153)] [(46, (m.2 46)), (47, upI (m.2 47) ((4 * a) + ((m.2 46) a)) (m.1 8)), (48, upI (m.2 48) ((4 * a) + ((m.2 46) a)) (m.1 9)), (49, (m.2 49))]) c N D (by omega) (Ty_mO hT rfl rfl ⟨g144, g146, g148, ⟨(by omega : (0 : Int) ≤ 0), (by omega : (0 : Int) ≤ 8)⟩, g152, g154, trivial⟩ ⟨(hT.2.1 46), G119, G120, (hT.2.1 49), trivial⟩) 1 64 ⟨by decide, by decide⟩ ⟨by decide, by decide⟩ (show LxP y143 y145 y147 (m.1 6) (0 : Int) by first | exact hLx | (intro h9; exfalso; omega) | (intro h9; have h8 := hLx (by omega); omega)) (show (1 : Int) ≤ (64 : Int) by omega)) (fun rr161 k162 => ?_)
                  obtain ⟨y163, y165, y167, y169, y171, y173, nu, g164, g166, g168, g170, g172, g174, g175, h176, h177, h178, h179, h180, h181, rfl⟩ := k162
                  refine ⟨_, _, rfl, ?_⟩
                  refine T_nf2 (st' := [.int (i32 nu), .int (i32 ((4 * a) + ((m.2 46) a))), .ref 219]) (l' := [(7, y163), (8, y165), (9, y167), (10, y169), (11, y171), (12, y173)]) (a' := [(46, (m.2 46)), (47, upI (m.2 47) ((4 * a) + ((m.2 46) a)) (m.1 8)), (48, upI (m.2 48) ((4 * a) + ((m.2 46) a)) (m.1 9)), (49, (m.2 49))]) [7, 8, 9, 10, 11, 12] [] rfl ⟨rfl, rfl, rfl, rfl, rfl, rfl, rfl, rfl, rfl, rfl, rfl, rfl, trivial⟩ ⟨rfl, rfl, rfl, rfl, rfl, rfl, rfl, rfl, trivial⟩ rfl rfl (by decide) (by decide) ?_
                  obtain ⟨g175a, g175b⟩ := g175
                  by_cases hf182 : y169 = 0
                  · skip
                    subst hf182
                    replace h176 : LxP y163 y165 y167 (m.1 6) (0 : Int) := h176
                    have hLx := h176
                    replace h177 : y145 ≤ y165 := h177
                    replace h178 : (0 : Int) = 0 ∧ y145 + y147 ≤ y165 := h178 rfl
                    replace h179 : y143 = 2 := h179 rfl
                    replace h180 : (1 : Int) ≤ nu ∧ nu ≤ (64 : Int) := h180
                    replace h181 : nu = y153 := h181 rfl
                    have u183 : (m.1 8) + 1 ≤ y165 := by omega
                    clear g144 g146 g148 g152 g154 h155 u160 g170 h177 h178 h179 h181
                    have G184 : ∀ j, 0 ≤ (upI (m.2 49) ((4 * a) + ((m.2 46) a)) nu) j ∧ (upI (m.2 49) ((4 * a) + ((m.2 46) a)) nu) j ≤ 64 := upI_rg (hT.2.1 49) ⟨by omega, by omega⟩
                    refine T_iast (a' := [(46, (m.2 46)), (47, upI (m.2 47) ((4 * a) + ((m.2 46) a)) (m.1 8)), (48, upI (m.2 48) ((4 * a) + ((m.2 46) a)) (m.1 9)), (49, upI (m.2 49) ((4 * a) + ((m.2 46) a)) nu)]) 154 49 (m.2 49) rfl rfl rfl (by omega) (show ((4 * a) + ((m.2 46) a)) < (64 : Int) by omega) rfl rfl ?_
                    refine T_gf 158 (.ref 216) rfl rfl rfl rfl rfl rfl ?_
                    refine T_ld 159 (.int (i32 a)) rfl (fun _ => rfl) ?_
                    refine T_dup2 160 rfl (fun _ => rfl) ?_
                    refine T_iald 161 46 (m.2 46) rfl rfl rfl (by omega) (show a < (16 : Int) by omega) rfl ?_
                    have e185 : 0 ≤ (m.2 46) a ∧ (m.2 46) a ≤ 4 := (hT.2.1 46) a
                    refine T_ld 162 (.int (i32 1)) rfl (fun _ => rfl) ?_
                    refine T_iadd 163 rfl rfl ?_
                    have G186 : ∀ j, 0 ≤ (upI (m.2 46) a (((m.2 46) a) + 1)) j ∧ (upI (m.2 46) a (((m.2 46) a) + 1)) j ≤ 4 := upI_rg (hT.2.1 46) ⟨by omega, by omega⟩
                    refine T_iast (a' := [(46, upI (m.2 46) a (((m.2 46) a) + 1)), (47, upI (m.2 47) ((4 * a) + ((m.2 46) a)) (m.1 8)), (48, upI (m.2 48) ((4 * a) + ((m.2 46) a)) (m.1 9)), (49, upI (m.2 49) ((4 * a) + ((m.2 46) a)) nu)]) 164 46 (m.2 46) rfl rfl rfl (by omega) (show a < (16 : Int) by omega) rfl rfl ?_
                    refine T_ret rfl (fun _ => rfl) ?_
                    exact ⟨(mO m [(7, y163), (8, y165), (9, y167), (10, 0), (11, y171), (12, y173)] [(46, upI (m.2 46) a (((m.2 46) a) + 1)), (47, upI (m.2 47) ((4 * a) + ((m.2 46) a)) (m.1 8)), (48, upI (m.2 48) ((4 * a) + ((m.2 46) a)) (m.1 9)), (49, upI (m.2 49) ((4 * a) + ((m.2 46) a)) nu)]), (Ty_mO hT rfl rfl ⟨g164, g166, g168, ⟨(by omega : (0 : Int) ≤ 0), (by omega : (0 : Int) ≤ 8)⟩, g172, g174, trivial⟩ ⟨G186, G119, G120, G184, trivial⟩), (show (0 : Int) = 0 → (m.1 10) = 0 by omega), (show LxP y163 y165 y167 (m.1 6) (0 : Int) by first | (first | exact hLx | exact (fun _ => hLx (by omega)) | (intro h9; exfalso; omega)) | (exfalso; omega)), (show ∀ k, (upI (m.2 47) ((4 * a) + ((m.2 46) a)) (m.1 8)) k + (upI (m.2 48) ((4 * a) + ((m.2 46) a)) (m.1 9)) k ≤ 4000 by first | (first | exact hPA | (intro k; have := hPA0 k; have h7 := hLx0 hf0; unfold upI; split <;> omega)) | (exfalso; omega)), (fun _ => (show (m.1 8) + 1 ≤ y165 by omega)), rfl⟩
                  · skip
                    replace h176 : LxP y163 y165 y167 (m.1 6) y169 := h176
                    have hLx := h176
                    replace h177 : y145 ≤ y165 := h177
                    clear h178
                    clear h179
                    replace h180 : (1 : Int) ≤ nu ∧ nu ≤ (64 : Int) := h180
                    clear h181
                    have hf187 : 1 ≤ y169 := by omega
                    clear g144 g146 g148 g152 g154 h155 u160 h177
                    exact J153_15 v106 nu (mO m [(7, y163), (8, y165), (9, y167), (10, y169), (11, y171), (12, y173)] [(46, (m.2 46)), (47, upI (m.2 47) ((4 * a) + ((m.2 46) a)) (m.1 8)), (48, upI (m.2 48) ((4 * a) + ((m.2 46) a)) (m.1 9)), (49, (m.2 49))]) (r32 (by omega) (by omega)) (r32 (by omega) (by omega)) (Ty_mO hT rfl rfl ⟨g164, g166, g168, g170, g172, g174, trivial⟩ ⟨(hT.2.1 46), G119, G120, (hT.2.1 49), trivial⟩) (show 0 ≤ v106 by omega) (show 1 ≤ nu by omega) (show nu ≤ 64 by omega) (show 1 ≤ y169 by omega) (show y169 ≤ 8 by omega) (show ∀ k, (upI (m.2 47) ((4 * a) + ((m.2 46) a)) (m.1 8)) k + (upI (m.2 48) ((4 * a) + ((m.2 46) a)) (m.1 9)) k ≤ 4000 by first | exact hPA | (intro k; have := hPA0 k; have h7 := hLx0 hf0; unfold upI; split <;> omega)) (show (m.2 46) a ≤ 3 by omega)
                · skip
                  replace h155 : LxP y143 y145 y147 (m.1 6) y149 := h155
                  have hLx := h155
                  clear h156
                  replace h157 : y125 ≤ y145 := h157
                  clear h158
                  have hf188 : 1 ≤ y149 := by omega
                  clear g124 g126 g128 g132 g134 h135 h137 h138 u140 h157
                  exact J141_32 v106 (mO m [(7, y143), (8, y145), (9, y147), (10, y149), (11, y151), (12, y153)] [(46, (m.2 46)), (47, upI (m.2 47) ((4 * a) + ((m.2 46) a)) (m.1 8)), (48, upI (m.2 48) ((4 * a) + ((m.2 46) a)) (m.1 9)), (49, (m.2 49))]) (r32 (by omega) (by omega)) (Ty_mO hT rfl rfl ⟨g144, g146, g148, g150, g152, g154, trivial⟩ ⟨(hT.2.1 46), G119, G120, (hT.2.1 49), trivial⟩) (show 0 ≤ v106 by omega) (show 1 ≤ y149 by omega) (show y149 ≤ 8 by omega) (show ∀ k, (upI (m.2 47) ((4 * a) + ((m.2 46) a)) (m.1 8)) k + (upI (m.2 48) ((4 * a) + ((m.2 46) a)) (m.1 9)) k ≤ 4000 by first | exact hPA | (intro k; have := hPA0 k; have h7 := hLx0 hf0; unfold upI; split <;> omega)) (show (m.2 46) a ≤ 3 by omega)
              · skip
                replace h135 : LxP y123 y125 y127 (m.1 6) y129 := h135
                have hLx := h135
                clear h136
                replace h137 : (m.1 8) ≤ y125 := h137
                clear h138
                have hf189 : 1 ≤ y129 := by omega
                clear q97a q97b q97 q98_10 q98_11 ic99 ic100 ic101 ic102 q110_10 q110_11 h118
                exact J135_65 v106 (mO m [(7, y123), (8, y125), (9, y127), (10, y129), (11, y131), (12, y133)] [(46, (m.2 46)), (47, upI (m.2 47) ((4 * a) + ((m.2 46) a)) (m.1 8)), (48, upI (m.2 48) ((4 * a) + ((m.2 46) a)) (m.1 9)), (49, (m.2 49))]) (r32 (by omega) (by omega)) (Ty_mO hT rfl rfl ⟨g124, g126, g128, g130, g132, g134, trivial⟩ ⟨(hT.2.1 46), G119, G120, (hT.2.1 49), trivial⟩) (show 0 ≤ v106 by omega) (show 1 ≤ y129 by omega) (show y129 ≤ 8 by omega) (show ∀ k, (upI (m.2 47) ((4 * a) + ((m.2 46) a)) (m.1 8)) k + (upI (m.2 48) ((4 * a) + ((m.2 46) a)) (m.1 9)) k ≤ 4000 by first | exact hPA | (intro k; have := hPA0 k; have h7 := hLx0 hf0; unfold upI; split <;> omega)) (show (m.2 46) a ≤ 3 by omega) (show (-2147483648) ≤ ((4 * a) + ((m.2 46) a)) ∧ ((4 * a) + ((m.2 46) a)) ≤ 2147483647 by omega)
            · skip
              refine T_gf 66 (.int (i32 (m107.1 10))) rfl rfl rfl rfl rfl rfl ?_
              refine T_if 103 69 rfl rfl rfl (r32 (by omega) (by omega)) (fun (h190 : (m107.1 10) ≠ 0) => by exfalso; omega) (fun (h190 : ¬ ((m107.1 10) ≠ 0)) => ?_)
              have hp3 := hPA v106
              refine T_ld 70 (.ref 189) rfl (fun _ => rfl) ?_
              refine T_gf 74 (.ref 217) rfl rfl rfl rfl rfl rfl ?_
              refine T_ld 75 (.int (i32 v106)) rfl (fun _ => rfl) ?_
              refine T_iald 76 47 (m.2 47) rfl rfl rfl (by omega) (show v106 < (64 : Int) by omega) rfl ?_
              have e191 : 0 ≤ (m.2 47) v106 ∧ (m.2 47) v106 ≤ 4000 := (hT.2.1 47) v106
              refine T_gf 80 (.ref 218) rfl rfl rfl rfl rfl rfl ?_
              refine T_ld 81 (.int (i32 v106)) rfl (fun _ => rfl) ?_
              refine T_iald 82 48 (m.2 48) rfl rfl rfl (by omega) (show v106 < (64 : Int) by omega) rfl ?_
              have e192 : 0 ≤ (m.2 48) v106 ∧ (m.2 48) v106 ≤ 4000 := (hT.2.1 48) v106
              refine T_call 85 230 [.ref 189, .int (i32 ((m.2 47) v106)), .int (i32 ((m.2 48) v106))] [] rfl (fun _ => rfl) rfl (c_isHere w (mO m [(7, (m.1 7)), (8, (m.1 8)), (9, (m.1 9)), (10, (m107.1 10)), (11, (m107.1 11)), (12, (m.1 12))] [(46, (m.2 46)), (47, (m.2 47)), (48, (m.2 48)), (49, (m.2 49))]) c N D (by omega) (Ty_mO hT rfl rfl ⟨f7, f8, f9, (q110.1 10), (q110.1 11), f12, trivial⟩ ⟨(hT.2.1 46), (hT.2.1 47), (hT.2.1 48), (hT.2.1 49), trivial⟩) ((m.2 47) v106) ((m.2 48) v106) (r32 (by omega) (by omega)) (r32 (by omega) (by omega)) (show 0 ≤ ((m.2 47) v106) by omega) (show 0 ≤ ((m.2 48) v106) by omega) (show ((m.2 47) v106) + ((m.2 48) v106) ≤ 4000 by omega) (show 1 ≤ (m.1 9) ∧ (m.1 8) + (m.1 9) ≤ (m.1 6) by first | omega | (have h8 := hLx (by omega); omega))) (fun rr193 k194 => ?_)
              obtain ⟨x195, g196, h197, rfl⟩ := k194
              refine ⟨_, _, rfl, ?_⟩
              refine T_nf2 (st' := [.int (i32 x195)]) (l' := [(7, (m.1 7)), (8, (m.1 8)), (9, (m.1 9)), (10, (m107.1 10)), (11, (m107.1 11)), (12, (m.1 12))]) (a' := [(46, (m.2 46)), (47, (m.2 47)), (48, (m.2 48)), (49, (m.2 49))]) [] [] rfl ⟨rfl, rfl, rfl, rfl, rfl, rfl, rfl, rfl, rfl, rfl, rfl, rfl, trivial⟩ ⟨rfl, rfl, rfl, rfl, rfl, rfl, rfl, rfl, trivial⟩ rfl rfl (by decide) (by decide) ?_
              obtain ⟨g196a, g196b⟩ := g196
              replace h197 : (x195 = 1 ∧ sameN (m.2 4) (m.1 8) (m.1 9) ((m.2 47) v106) ((m.2 48) v106)) ∨ (x195 = 0 ∧ ¬ sameN (m.2 4) (m.1 8) (m.1 9) ((m.2 47) v106) ((m.2 48) v106)) := h197
              have hh := h197
              have u198 : (m.1 8) ≤ (m.1 8) := by omega
              clear q97a q97b q97 q98_10 q98_11 ic99 ic100 ic101 ic102
              refine T_if 97 88 rfl rfl rfl (r32 (by omega) (by omega)) (fun (h199 : x195 = 0) => ?_) (fun (h199 : ¬ (x195 = 0)) => ?_)
              · skip
                refine T_iinc 100 [(3, .int (i32 (v106 + 1))), (0, .ref 189), (1, .int (i32 a)), (2, .int (i32 ((4 * a) + ((m.2 46) a))))] rfl rfl (by decide) rfl rfl ?_
                refine T_goto 57 rfl (fun _ => rfl) ?_
                refine Tm_lv (a := [(0, .ref 189), (1, .int (i32 a)), (2, .int (i32 ((4 * a) + ((m.2 46) a)))), (3, .int (i32 (v106 + 1)))]) rfl rfl ⟨rfl, rfl, rfl, rfl, trivial⟩ ?_
                exact ih115 (v106 + 1) (mO m [(7, (m.1 7)), (8, (m.1 8)), (9, (m.1 9)), (10, (m107.1 10)), (11, (m107.1 11)), (12, (m.1 12))] [(46, (m.2 46)), (47, (m.2 47)), (48, (m.2 48)), (49, (m.2 49))]) (r32 (by omega) (by omega)) (Ty_mO hT rfl rfl ⟨f7, f8, f9, (q110.1 10), (q110.1 11), f12, trivial⟩ ⟨(hT.2.1 46), (hT.2.1 47), (hT.2.1 48), (hT.2.1 49), trivial⟩) (show 1 ≤ (v106 + 1) by omega) (show (v106 + 1) ≤ 2147483647 by omega) (show (v106 + 1) ≤ (4 * a) + ((m.2 46) a) by omega) (fun _ => trivial) (show ((4 * a) + ((m.2 46) a)) - (v106 + 1) < (n : Int) by omega)
              · skip
                refine T_ld 89 (.ref 189) rfl (fun _ => rfl) ?_
                refine T_ld 90 (.int (i32 3)) rfl (fun _ => rfl) ?_
                refine T_gf 94 (.int (i32 (m.1 8))) rfl rfl rfl rfl rfl rfl ?_
                refine T_call 97 222 [.ref 189, .int (i32 3), .int (i32 (m.1 8))] [] rfl (fun _ => rfl) rfl (c_wrong w (mO m [(7, (m.1 7)), (8, (m.1 8)), (9, (m.1 9)), (10, (m107.1 10)), (11, (m107.1 11)), (12, (m.1 12))] [(46, (m.2 46)), (47, (m.2 47)), (48, (m.2 48)), (49, (m.2 49))]) c N D (by omega) (Ty_mO hT rfl rfl ⟨f7, f8, f9, (q110.1 10), (q110.1 11), f12, trivial⟩ ⟨(hT.2.1 46), (hT.2.1 47), (hT.2.1 48), (hT.2.1 49), trivial⟩) 3 (m.1 8) ⟨by decide, by decide⟩ (r32 (by omega) (by omega)) (show 1 ≤ (3 : Int) ∧ (3 : Int) ≤ 8 by omega) (show 0 ≤ (m.1 8) ∧ (m.1 8) ≤ 4000 by omega)) (fun rr200 k201 => ?_)
                obtain ⟨y202, y204, g203, g205, h206, rfl⟩ := k201
                refine ⟨_, _, rfl, ?_⟩
                refine T_nf2 (st' := []) (l' := [(7, (m.1 7)), (8, (m.1 8)), (9, (m.1 9)), (10, y202), (11, y204), (12, (m.1 12))]) (a' := [(46, (m.2 46)), (47, (m.2 47)), (48, (m.2 48)), (49, (m.2 49))]) [10, 11] [] rfl ⟨rfl, rfl, rfl, rfl, rfl, rfl, rfl, rfl, rfl, rfl, rfl, rfl, rfl, rfl, rfl, trivial⟩ ⟨rfl, rfl, rfl, rfl, rfl, rfl, rfl, rfl, trivial⟩ rfl rfl (by decide) (by decide) ?_
                replace h206 : (0 < (m107.1 10) → y202 = (m107.1 10) ∧ y204 = (m107.1 11)) ∧ ((m107.1 10) ≤ 0 → y202 = (3 : Int) ∧ y204 = (m.1 8)) := h206
                have hf207 : 1 ≤ y202 := by omega
                clear q110_10 q110_11 h190 g196a g196b h197 h199 h206
                refine T_iinc 100 [(3, .int (i32 (v106 + 1))), (0, .ref 189), (1, .int (i32 a)), (2, .int (i32 ((4 * a) + ((m.2 46) a))))] rfl rfl (by decide) rfl rfl ?_
                refine T_goto 57 rfl (fun _ => rfl) ?_
                refine Tm_lv (a := [(0, .ref 189), (1, .int (i32 a)), (2, .int (i32 ((4 * a) + ((m.2 46) a)))), (3, .int (i32 (v106 + 1)))]) rfl rfl ⟨rfl, rfl, rfl, rfl, trivial⟩ ?_
                exact ih115 (v106 + 1) (mO m [(7, (m.1 7)), (8, (m.1 8)), (9, (m.1 9)), (10, y202), (11, y204), (12, (m.1 12))] [(46, (m.2 46)), (47, (m.2 47)), (48, (m.2 48)), (49, (m.2 49))]) (r32 (by omega) (by omega)) (Ty_mO hT rfl rfl ⟨f7, f8, f9, g203, g205, f12, trivial⟩ ⟨(hT.2.1 46), (hT.2.1 47), (hT.2.1 48), (hT.2.1 49), trivial⟩) (show 1 ≤ (v106 + 1) by omega) (show (v106 + 1) ≤ 2147483647 by omega) (show (v106 + 1) ≤ (4 * a) + ((m.2 46) a) by omega) (fun (h : y202 = 0) => absurd h (by omega)) (show ((4 * a) + ((m.2 46) a)) - (v106 + 1) < (n : Int) by omega)
          · skip
            clear c114
            have hf208 : 1 ≤ (m107.1 10) := by omega
            refine T_ld 58 (.int (i32 v106)) rfl (fun _ => rfl) ?_
            refine T_ld 59 (.int (i32 ((4 * a) + ((m.2 46) a)))) rfl (fun _ => rfl) ?_
            refine T_icmp 103 62 rfl rfl rfl (r32 (by omega) (by omega)) (r32 (by omega) (by omega)) (fun (h209 : (4 * a) + ((m.2 46) a) ≤ v106) => ?_) (fun (h209 : ¬ ((4 * a) + ((m.2 46) a) ≤ v106)) => ?_)
            · skip
              refine T_gf 107 (.int (i32 (m107.1 10))) rfl rfl rfl rfl rfl rfl ?_
              refine T_if 111 110 rfl rfl rfl (r32 (by omega) (by omega)) (fun (h210 : (m107.1 10) ≤ 0) => by exfalso; omega) (fun (h210 : ¬ ((m107.1 10) ≤ 0)) => ?_)
              refine T_ret rfl (fun _ => rfl) ?_
              exact ⟨(mO m [(7, (m.1 7)), (8, (m.1 8)), (9, (m.1 9)), (10, (m107.1 10)), (11, (m107.1 11)), (12, (m.1 12))] [(46, (m.2 46)), (47, (m.2 47)), (48, (m.2 48)), (49, (m.2 49))]), (Ty_mO hT rfl rfl ⟨f7, f8, f9, (q110.1 10), (q110.1 11), f12, trivial⟩ ⟨(hT.2.1 46), (hT.2.1 47), (hT.2.1 48), (hT.2.1 49), trivial⟩), (show (m107.1 10) = 0 → (m.1 10) = 0 by omega), (show LxP (m.1 7) (m.1 8) (m.1 9) (m.1 6) (m107.1 10) by first | (first | exact hLx | exact (fun _ => hLx (by omega)) | (intro h9; exfalso; omega)) | (exfalso; omega)), (show ∀ k, (m.2 47) k + (m.2 48) k ≤ 4000 by first | (first | exact hPA | (intro k; have := hPA0 k; have h7 := hLx0 hf0; unfold upI; split <;> omega)) | (exfalso; omega)), (fun (h : (m107.1 10) = 0) => absurd h (by omega)), rfl⟩
            · skip
              refine T_gf 66 (.int (i32 (m107.1 10))) rfl rfl rfl rfl rfl rfl ?_
              refine T_if 103 69 rfl rfl rfl (r32 (by omega) (by omega)) (fun (h211 : (m107.1 10) ≠ 0) => ?_) (fun (h211 : ¬ ((m107.1 10) ≠ 0)) => by exfalso; omega)
              refine T_gf 107 (.int (i32 (m107.1 10))) rfl rfl rfl rfl rfl rfl ?_
              refine T_if 111 110 rfl rfl rfl (r32 (by omega) (by omega)) (fun (h212 : (m107.1 10) ≤ 0) => by exfalso; omega) (fun (h212 : ¬ ((m107.1 10) ≤ 0)) => ?_)
              refine T_ret rfl (fun _ => rfl) ?_
              exact ⟨(mO m [(7, (m.1 7)), (8, (m.1 8)), (9, (m.1 9)), (10, (m107.1 10)), (11, (m107.1 11)), (12, (m.1 12))] [(46, (m.2 46)), (47, (m.2 47)), (48, (m.2 48)), (49, (m.2 49))]), (Ty_mO hT rfl rfl ⟨f7, f8, f9, (q110.1 10), (q110.1 11), f12, trivial⟩ ⟨(hT.2.1 46), (hT.2.1 47), (hT.2.1 48), (hT.2.1 49), trivial⟩), (show (m107.1 10) = 0 → (m.1 10) = 0 by omega), (show LxP (m.1 7) (m.1 8) (m.1 9) (m.1 6) (m107.1 10) by first | (first | exact hLx | exact (fun _ => hLx (by omega)) | (intro h9; exfalso; omega)) | (exfalso; omega)), (show ∀ k, (m.2 47) k + (m.2 48) k ≤ 4000 by first | (first | exact hPA | (intro k; have := hPA0 k; have h7 := hLx0 hf0; unfold upI; split <;> omega)) | (exfalso; omega)), (fun (h : (m107.1 10) = 0) => absurd h (by omega)), rfl⟩
      refine Tm_lv (a := [(0, .ref 189), (1, .int (i32 a)), (2, .int (i32 ((4 * a) + ((m.2 46) a)))), (3, .int (i32 (v94 + 1)))]) rfl rfl ⟨rfl, rfl, rfl, rfl, trivial⟩ ?_
      exact L57_108 ((((4 * a) + ((m.2 46) a)) - (v94 + 1) : Int) + 1).toNat (v94 + 1) (mO m [(7, (m.1 7)), (8, (m.1 8)), (9, (m.1 9)), (10, (m95.1 10)), (11, (m95.1 11)), (12, (m.1 12))] [(46, (m.2 46)), (47, (m.2 47)), (48, (m.2 48)), (49, (m.2 49))]) (r32 (by omega) (by omega)) (Ty_mO hT rfl rfl ⟨f7, f8, f9, (q98.1 10), (q98.1 11), f12, trivial⟩ ⟨(hT.2.1 46), (hT.2.1 47), (hT.2.1 48), (hT.2.1 49), trivial⟩) (show 1 ≤ (v94 + 1) by omega) (show (v94 + 1) ≤ 2147483647 by omega) (show (v94 + 1) ≤ (4 * a) + ((m.2 46) a) by omega) (fun (h : (m95.1 10) = 0) => absurd h (by omega)) (show ((4 * a) + ((m.2 46) a)) - (v94 + 1) < ((((((4 * a) + ((m.2 46) a)) - (v94 + 1) : Int) + 1).toNat : Nat) : Int) by omega)
    refine T_gf 4 (.int (i32 (m.1 10))) rfl rfl rfl rfl rfl rfl ?_
    refine T_if 8 7 rfl rfl rfl (r32 (by omega) (by omega)) (fun (h213 : (m.1 10) ≤ 0) => ?_) (fun (h213 : ¬ ((m.1 10) ≤ 0)) => by exfalso; omega)
    refine T_ld 9 (.int (i32 4)) rfl (fun _ => rfl) ?_
    refine T_ld 10 (.int (i32 a)) rfl (fun _ => rfl) ?_
    refine T_imul 11 rfl rfl ?_
    refine T_gf 15 (.ref 216) rfl rfl rfl rfl rfl rfl ?_
    refine T_ld 16 (.int (i32 a)) rfl (fun _ => rfl) ?_
    refine T_iald 17 46 (m.2 46) rfl rfl rfl (by omega) (show a < (16 : Int) by omega) rfl ?_
    have e214 : 0 ≤ (m.2 46) a ∧ (m.2 46) a ≤ 4 := (hT.2.1 46) a
    refine T_iadd 18 rfl rfl ?_
    refine T_sto 19 [(2, .int (i32 ((4 * a) + ((m.2 46) a)))), (0, .ref 189), (1, .int (i32 a))] rfl (fun _ => rfl) ?_
    refine T_gf 23 (.int (i32 (m.1 7))) rfl rfl rfl rfl rfl rfl ?_
    refine T_ld 24 (.int (i32 1)) rfl (fun _ => rfl) ?_
    refine T_icmp 34 27 rfl rfl rfl (r32 (by omega) (by omega)) ⟨by decide, by decide⟩ (fun (h215 : (m.1 7) = 1) => ?_) (fun (h215 : ¬ ((m.1 7) = 1)) => ?_)
    · skip
      refine T_gf 38 (.ref 216) rfl rfl rfl rfl rfl rfl ?_
      refine T_ld 39 (.int (i32 a)) rfl (fun _ => rfl) ?_
      refine T_iald 40 46 (m.2 46) rfl rfl rfl (by omega) (show a < (16 : Int) by omega) rfl ?_
      have e216 : 0 ≤ (m.2 46) a ∧ (m.2 46) a ≤ 4 := (hT.2.1 46) a
      refine T_ld 41 (.int (i32 4)) rfl (fun _ => rfl) ?_
      refine T_icmp 53 44 rfl rfl rfl (r32 (by omega) (by omega)) ⟨by decide, by decide⟩ (fun (h217 : (m.2 46) a ≠ 4) => ?_) (fun (h217 : ¬ ((m.2 46) a ≠ 4)) => ?_)
      · skip
        refine T_ld 54 (.int (i32 4)) rfl (fun _ => rfl) ?_
        refine T_ld 55 (.int (i32 a)) rfl (fun _ => rfl) ?_
        refine T_imul 56 rfl rfl ?_
        refine T_sto 57 [(3, .int (i32 (4 * a))), (2, .int (i32 ((4 * a) + ((m.2 46) a)))), (0, .ref 189), (1, .int (i32 a))] rfl (fun _ => rfl) ?_
        have L57_220 : ∀ (n : Nat) (v218 : Int) (m219 : mR), (R32 v218) → (Ty m219) → (0 ≤ v218) → (v218 ≤ (4 * a) + ((m.2 46) a)) → ((m219.1 10) = 0 → True) → ((4 * a) + ((m.2 46) a)) - v218 < (n : Int) → TT w D pm_268 (57, [(0, .ref 189), (1, .int (i32 a)), (2, .int (i32 ((4 * a) + ((m.2 46) a)))), (3, .int (i32 v218))], [], (mhp (mO m [(7, (m.1 7)), (8, (m.1 8)), (9, (m.1 9)), (10, (m219.1 10)), (11, (m219.1 11)), (12, (m.1 12))] [(46, (m.2 46)), (47, (m.2 47)), (48, (m.2 48)), (49, (m.2 49))]) c, N), 0, 0) (Q_takeParameter m c N a) := by
          intro n
          induction n with
          | zero =>
            intro v218 m219 q221 q222 ic223 ic224 c225 hmu
            obtain ⟨q221a, q221b⟩ := id q221
            have q222_10 : 0 ≤ m219.1 10 ∧ m219.1 10 ≤ 8 := q222.1 10
            have q222_11 : (-1) ≤ m219.1 11 ∧ m219.1 11 ≤ 4000 := q222.1 11
            exfalso
            omega
          | succ n ih =>
            intro v218 m219 q221 q222 ic223 ic224 c225 hmu
            obtain ⟨q221a, q221b⟩ := id q221
            have q222_10 : 0 ≤ m219.1 10 ∧ m219.1 10 ≤ 8 := q222.1 10
            have q222_11 : (-1) ≤ m219.1 11 ∧ m219.1 11 ≤ 4000 := q222.1 11
            have ih226 := ih
            by_cases hf227 : (m219.1 10) = 0
            · skip
              refine T_ld 58 (.int (i32 v218)) rfl (fun _ => rfl) ?_
              refine T_ld 59 (.int (i32 ((4 * a) + ((m.2 46) a)))) rfl (fun _ => rfl) ?_
              refine T_icmp 103 62 rfl rfl rfl (r32 (by omega) (by omega)) (r32 (by omega) (by omega)) (fun (h228 : (4 * a) + ((m.2 46) a) ≤ v218) => ?_) (fun (h228 : ¬ ((4 * a) + ((m.2 46) a) ≤ v218)) => ?_)
              · skip
                refine T_gf 107 (.int (i32 (m219.1 10))) rfl rfl rfl rfl rfl rfl ?_
                refine T_if 111 110 rfl rfl rfl (r32 (by omega) (by omega)) (fun (h229 : (m219.1 10) ≤ 0) => ?_) (fun (h229 : ¬ ((m219.1 10) ≤ 0)) => by exfalso; omega)
                refine T_gf 115 (.ref 217) rfl rfl rfl rfl rfl rfl ?_
                refine T_ld 116 (.int (i32 ((4 * a) + ((m.2 46) a)))) rfl (fun _ => rfl) ?_
                refine T_gf 120 (.int (i32 (m.1 8))) rfl rfl rfl rfl rfl rfl ?_
                have G230 : ∀ j, 0 ≤ (upI (m.2 47) ((4 * a) + ((m.2 46) a)) (m.1 8)) j ∧ (upI (m.2 47) ((4 * a) + ((m.2 46) a)) (m.1 8)) j ≤ 4000 := upI_rg (hT.2.1 47) ⟨by omega, by omega⟩
                refine T_iast (a' := [(46, (m.2 46)), (47, upI (m.2 47) ((4 * a) + ((m.2 46) a)) (m.1 8)), (48, (m.2 48)), (49, (m.2 49))]) 121 47 (m.2 47) rfl rfl rfl (by omega) (show ((4 * a) + ((m.2 46) a)) < (64 : Int) by omega) rfl rfl ?_
                refine T_gf 125 (.ref 218) rfl rfl rfl rfl rfl rfl ?_
                refine T_ld 126 (.int (i32 ((4 * a) + ((m.2 46) a)))) rfl (fun _ => rfl) ?_
                refine T_gf 130 (.int (i32 (m.1 9))) rfl rfl rfl rfl rfl rfl ?_
                have G231 : ∀ j, 0 ≤ (upI (m.2 48) ((4 * a) + ((m.2 46) a)) (m.1 9)) j ∧ (upI (m.2 48) ((4 * a) + ((m.2 46) a)) (m.1 9)) j ≤ 4000 := upI_rg (hT.2.1 48) ⟨by omega, by omega⟩
                refine T_iast (a' := [(46, (m.2 46)), (47, upI (m.2 47) ((4 * a) + ((m.2 46) a)) (m.1 8)), (48, upI (m.2 48) ((4 * a) + ((m.2 46) a)) (m.1 9)), (49, (m.2 49))]) 131 48 (m.2 48) rfl rfl rfl (by omega) (show ((4 * a) + ((m.2 46) a)) < (64 : Int) by omega) rfl rfl ?_
                refine T_ld 132 (.ref 189) rfl (fun _ => rfl) ?_
                refine T_call 135 212 [.ref 189] [] rfl (fun _ => rfl) rfl (c_next w (mO m [(7, (m.1 7)), (8, (m.1 8)), (9, (m.1 9)), (10, (m219.1 10)), (11, (m219.1 11)), (12, (m.1 12))] [(46, (m.2 46)), (47, upI (m.2 47) ((4 * a) + ((m.2 46) a)) (m.1 8)), (48, upI (m.2 48) ((4 * a) + ((m.2 46) a)) (m.1 9)), (49, (m.2 49))]) c N D (by omega) (Ty_mO hT rfl rfl ⟨f7, f8, f9, (q222.1 10), (q222.1 11), f12, trivial⟩ ⟨(hT.2.1 46), G230, G231, (hT.2.1 49), trivial⟩) (show (m219.1 10) = 0 → (m.1 8) + (m.1 9) ≤ (m.1 6) by first | omega | (intro h9; have h8 := hLx h9; omega))) (fun rr232 k233 => ?_)
                obtain ⟨y234, y236, y238, y240, y242, y244, g235, g237, g239, g241, g243, g245, h246, h247, h248, h249, rfl⟩ := k233
                refine ⟨_, _, rfl, ?_⟩
                refine T_nf2 (st' := []) (l' := [(7, y234), (8, y236), (9, y238), (10, y240), (11, y242), (12, y244)]) (a' := [(46, (m.2 46)), (47, upI (m.2 47) ((4 * a) + ((m.2 46) a)) (m.1 8)), (48, upI (m.2 48) ((4 * a) + ((m.2 46) a)) (m.1 9)), (49, (m.2 49))]) [7, 8, 9, 10, 11, 12] [] rfl ⟨rfl, rfl, rfl, rfl, rfl, rfl, rfl, rfl, rfl, rfl, rfl, rfl, trivial⟩ ⟨rfl, rfl, rfl, rfl, rfl, rfl, rfl, rfl, trivial⟩ rfl rfl (by decide) (by decide) ?_
                by_cases hf250 : y240 = 0
                · skip
                  subst hf250
                  replace h246 : LxP y234 y236 y238 (m.1 6) (0 : Int) := h246
                  have hLx := h246
                  replace h247 : (m219.1 10) = 0 := h247 rfl
                  replace h248 : (m.1 8) ≤ y236 := h248
                  replace h249 : (m.1 8) + (m.1 9) ≤ y236 := h249 rfl
                  have u251 : (m.1 8) + 1 ≤ y236 := by omega
                  clear q222_10 q222_11 h229 g241 h247
                  refine T_ld 136 (.ref 189) rfl (fun _ => rfl) ?_
                  refine T_ld 138 (.int (i32 58)) rfl (fun _ => rfl) ?_
                  refine T_call 141 232 [.ref 189, .int (i32 58)] [] rfl (fun _ => rfl) rfl (c_need w (mO m [(7, y234), (8, y236), (9, y238), (10, 0), (11, y242), (12, y244)] [(46, (m.2 46)), (47, upI (m.2 47) ((4 * a) + ((m.2 46) a)) (m.1 8)), (48, upI (m.2 48) ((4 * a) + ((m.2 46) a)) (m.1 9)), (49, (m.2 49))]) c N D (by omega) (Ty_mO hT rfl rfl ⟨g235, g237, g239, ⟨(by omega : (0 : Int) ≤ 0), (by omega : (0 : Int) ≤ 8)⟩, g243, g245, trivial⟩ ⟨(hT.2.1 46), G230, G231, (hT.2.1 49), trivial⟩) 58 ⟨by decide, by decide⟩ (show 1 ≤ (58 : Int) by omega) (show LxP y234 y236 y238 (m.1 6) (0 : Int) by first | exact hLx | (intro h9; exfalso; omega) | (intro h9; have h8 := hLx (by omega); omega))) (fun rr252 k253 => ?_)
                  obtain ⟨y254, y256, y258, y260, y262, y264, g255, g257, g259, g261, g263, g265, h266, h267, h268, h269, rfl⟩ := k253
                  refine ⟨_, _, rfl, ?_⟩
                  refine T_nf2 (st' := []) (l' := [(7, y254), (8, y256), (9, y258), (10, y260), (11, y262), (12, y264)]) (a' := [(46, (m.2 46)), (47, upI (m.2 47) ((4 * a) + ((m.2 46) a)) (m.1 8)), (48, upI (m.2 48) ((4 * a) + ((m.2 46) a)) (m.1 9)), (49, (m.2 49))]) [7, 8, 9, 10, 11, 12] [] rfl ⟨rfl, rfl, rfl, rfl, rfl, rfl, rfl, rfl, rfl, rfl, rfl, rfl, trivial⟩ ⟨rfl, rfl, rfl, rfl, rfl, rfl, rfl, rfl, trivial⟩ rfl rfl (by decide) (by decide) ?_
                  by_cases hf270 : y260 = 0
                  · skip
                    subst hf270
                    replace h266 : LxP y254 y256 y258 (m.1 6) (0 : Int) := h266
                    have hLx := h266
                    replace h267 : (0 : Int) = 0 ∧ y234 = (58 : Int) := h267 rfl
                    replace h268 : y236 ≤ y256 := h268
                    replace h269 : y236 + y238 ≤ y256 := h269 rfl
                    have u271 : (m.1 8) + 1 ≤ y256 := by omega
                    clear g235 g237 g239 g243 g245 h246 h248 h249 u251 g261 h267 h268 h269
                    refine T_gf 145 (.ref 219) rfl rfl rfl rfl rfl rfl ?_
                    refine T_ld 146 (.int (i32 ((4 * a) + ((m.2 46) a)))) rfl (fun _ => rfl) ?_
                    refine T_ld 147 (.ref 189) rfl (fun _ => rfl) ?_
                    refine T_ld 148 (.int (i32 1)) rfl (fun _ => rfl) ?_
                    refine T_ld 150 (.int (i32 64)) rfl (fun _ => rfl) ?_
                    refine T_call 153 234 [.ref 189, .int (i32 1), .int (i32 64)] [.int (i32 ((4 * a) + ((m.2 46) a))), .ref 219] rfl (fun _ => rfl) rfl (c_number w (mO m [(7, y254), (8, y256), (9, y258), (10, 0), (11, y262), (12, y264)] [(46, (m.2 46)), (47, upI (m.2 47) ((4 * a) + ((m.2 46) a)) (m.1 8)), (48, upI (m.2 48) ((4 * a) + ((m.2 46) a)) (m.1 9)), (49, (m.2 49))]) c N D (by omega) (Ty_mO hT rfl rfl ⟨g255, g257, g259, ⟨(by omega : (0 : Int) ≤ 0), (by omega : (0 : Int) ≤ 8)⟩, g263, g265, trivial⟩ ⟨(hT.2.1 46), G230, G231, (hT.2.1 49), trivial⟩) 1 64 ⟨by decide, by decide⟩ ⟨by decide, by decide⟩ (show LxP y254 y256 y258 (m.1 6) (0 : Int) by first | exact hLx | (intro h9; exfalso; omega) | (intro h9; have h8 := hLx (by omega); omega)) (show (1 : Int) ≤ (64 : Int) by omega)) (fun rr272 k273 => ?_)
                    obtain ⟨y274, y276, y278, y280, y282, y284, nu, g275, g277, g279, g281, g283, g285, g286, h287, h288, h289, h290, h291, h292, rfl⟩ := k273
                    refine ⟨_, _, rfl, ?_⟩
                    refine T_nf2 (st' := [.int (i32 nu), .int (i32 ((4 * a) + ((m.2 46) a))), .ref 219]) (l' := [(7, y274), (8, y276), (9, y278), (10, y280), (11, y282), (12, y284)]) (a' := [(46, (m.2 46)), (47, upI (m.2 47) ((4 * a) + ((m.2 46) a)) (m.1 8)), (48, upI (m.2 48) ((4 * a) + ((m.2 46) a)) (m.1 9)), (49, (m.2 49))]) [7, 8, 9, 10, 11, 12] [] rfl ⟨rfl, rfl, rfl, rfl, rfl, rfl, rfl, rfl, rfl, rfl, rfl, rfl, trivial⟩ ⟨rfl, rfl, rfl, rfl, rfl, rfl, rfl, rfl, trivial⟩ rfl rfl (by decide) (by decide) ?_
                    obtain ⟨g286a, g286b⟩ := g286
                    by_cases hf293 : y280 = 0
                    · skip
                      subst hf293
                      replace h287 : LxP y274 y276 y278 (m.1 6) (0 : Int) := h287
                      have hLx := h287
                      replace h288 : y256 ≤ y276 := h288
                      replace h289 : (0 : Int) = 0 ∧ y256 + y258 ≤ y276 := h289 rfl
                      replace h290 : y254 = 2 := h290 rfl
                      replace h291 : (1 : Int) ≤ nu ∧ nu ≤ (64 : Int) := h291
                      replace h292 : nu = y264 := h292 rfl
                      have u294 : (m.1 8) + 1 ≤ y276 := by omega
                      clear g255 g257 g259 g263 g265 h266 u271 g281 h288 h289 h290 h292
                      have G295 : ∀ j, 0 ≤ (upI (m.2 49) ((4 * a) + ((m.2 46) a)) nu) j ∧ (upI (m.2 49) ((4 * a) + ((m.2 46) a)) nu) j ≤ 64 := upI_rg (hT.2.1 49) ⟨by omega, by omega⟩
                      refine T_iast (a' := [(46, (m.2 46)), (47, upI (m.2 47) ((4 * a) + ((m.2 46) a)) (m.1 8)), (48, upI (m.2 48) ((4 * a) + ((m.2 46) a)) (m.1 9)), (49, upI (m.2 49) ((4 * a) + ((m.2 46) a)) nu)]) 154 49 (m.2 49) rfl rfl rfl (by omega) (show ((4 * a) + ((m.2 46) a)) < (64 : Int) by omega) rfl rfl ?_
                      refine T_gf 158 (.ref 216) rfl rfl rfl rfl rfl rfl ?_
                      refine T_ld 159 (.int (i32 a)) rfl (fun _ => rfl) ?_
                      refine T_dup2 160 rfl (fun _ => rfl) ?_
                      refine T_iald 161 46 (m.2 46) rfl rfl rfl (by omega) (show a < (16 : Int) by omega) rfl ?_
                      have e296 : 0 ≤ (m.2 46) a ∧ (m.2 46) a ≤ 4 := (hT.2.1 46) a
                      refine T_ld 162 (.int (i32 1)) rfl (fun _ => rfl) ?_
                      refine T_iadd 163 rfl rfl ?_
                      have G297 : ∀ j, 0 ≤ (upI (m.2 46) a (((m.2 46) a) + 1)) j ∧ (upI (m.2 46) a (((m.2 46) a) + 1)) j ≤ 4 := upI_rg (hT.2.1 46) ⟨by omega, by omega⟩
                      refine T_iast (a' := [(46, upI (m.2 46) a (((m.2 46) a) + 1)), (47, upI (m.2 47) ((4 * a) + ((m.2 46) a)) (m.1 8)), (48, upI (m.2 48) ((4 * a) + ((m.2 46) a)) (m.1 9)), (49, upI (m.2 49) ((4 * a) + ((m.2 46) a)) nu)]) 164 46 (m.2 46) rfl rfl rfl (by omega) (show a < (16 : Int) by omega) rfl rfl ?_
                      refine T_ret rfl (fun _ => rfl) ?_
                      exact ⟨(mO m [(7, y274), (8, y276), (9, y278), (10, 0), (11, y282), (12, y284)] [(46, upI (m.2 46) a (((m.2 46) a) + 1)), (47, upI (m.2 47) ((4 * a) + ((m.2 46) a)) (m.1 8)), (48, upI (m.2 48) ((4 * a) + ((m.2 46) a)) (m.1 9)), (49, upI (m.2 49) ((4 * a) + ((m.2 46) a)) nu)]), (Ty_mO hT rfl rfl ⟨g275, g277, g279, ⟨(by omega : (0 : Int) ≤ 0), (by omega : (0 : Int) ≤ 8)⟩, g283, g285, trivial⟩ ⟨G297, G230, G231, G295, trivial⟩), (show (0 : Int) = 0 → (m.1 10) = 0 by omega), (show LxP y274 y276 y278 (m.1 6) (0 : Int) by first | (first | exact hLx | exact (fun _ => hLx (by omega)) | (intro h9; exfalso; omega)) | (exfalso; omega)), (show ∀ k, (upI (m.2 47) ((4 * a) + ((m.2 46) a)) (m.1 8)) k + (upI (m.2 48) ((4 * a) + ((m.2 46) a)) (m.1 9)) k ≤ 4000 by first | (first | exact hPA | (intro k; have := hPA0 k; have h7 := hLx0 hf0; unfold upI; split <;> omega)) | (exfalso; omega)), (fun _ => (show (m.1 8) + 1 ≤ y276 by omega)), rfl⟩
                    · skip
                      replace h287 : LxP y274 y276 y278 (m.1 6) y280 := h287
                      have hLx := h287
                      replace h288 : y256 ≤ y276 := h288
                      clear h289
                      clear h290
                      replace h291 : (1 : Int) ≤ nu ∧ nu ≤ (64 : Int) := h291
                      clear h292
                      have hf298 : 1 ≤ y280 := by omega
                      clear g255 g257 g259 g263 g265 h266 u271 h288
                      exact J153_15 v218 nu (mO m [(7, y274), (8, y276), (9, y278), (10, y280), (11, y282), (12, y284)] [(46, (m.2 46)), (47, upI (m.2 47) ((4 * a) + ((m.2 46) a)) (m.1 8)), (48, upI (m.2 48) ((4 * a) + ((m.2 46) a)) (m.1 9)), (49, (m.2 49))]) (r32 (by omega) (by omega)) (r32 (by omega) (by omega)) (Ty_mO hT rfl rfl ⟨g275, g277, g279, g281, g283, g285, trivial⟩ ⟨(hT.2.1 46), G230, G231, (hT.2.1 49), trivial⟩) (show 0 ≤ v218 by omega) (show 1 ≤ nu by omega) (show nu ≤ 64 by omega) (show 1 ≤ y280 by omega) (show y280 ≤ 8 by omega) (show ∀ k, (upI (m.2 47) ((4 * a) + ((m.2 46) a)) (m.1 8)) k + (upI (m.2 48) ((4 * a) + ((m.2 46) a)) (m.1 9)) k ≤ 4000 by first | exact hPA | (intro k; have := hPA0 k; have h7 := hLx0 hf0; unfold upI; split <;> omega)) (show (m.2 46) a ≤ 3 by omega)
                  · skip
                    replace h266 : LxP y254 y256 y258 (m.1 6) y260 := h266
                    have hLx := h266
                    clear h267
                    replace h268 : y236 ≤ y256 := h268
                    clear h269
                    have hf299 : 1 ≤ y260 := by omega
                    clear g235 g237 g239 g243 g245 h246 h248 h249 u251 h268
                    exact J141_32 v218 (mO m [(7, y254), (8, y256), (9, y258), (10, y260), (11, y262), (12, y264)] [(46, (m.2 46)), (47, upI (m.2 47) ((4 * a) + ((m.2 46) a)) (m.1 8)), (48, upI (m.2 48) ((4 * a) + ((m.2 46) a)) (m.1 9)), (49, (m.2 49))]) (r32 (by omega) (by omega)) (Ty_mO hT rfl rfl ⟨g255, g257, g259, g261, g263, g265, trivial⟩ ⟨(hT.2.1 46), G230, G231, (hT.2.1 49), trivial⟩) (show 0 ≤ v218 by omega) (show 1 ≤ y260 by omega) (show y260 ≤ 8 by omega) (show ∀ k, (upI (m.2 47) ((4 * a) + ((m.2 46) a)) (m.1 8)) k + (upI (m.2 48) ((4 * a) + ((m.2 46) a)) (m.1 9)) k ≤ 4000 by first | exact hPA | (intro k; have := hPA0 k; have h7 := hLx0 hf0; unfold upI; split <;> omega)) (show (m.2 46) a ≤ 3 by omega)
                · skip
                  replace h246 : LxP y234 y236 y238 (m.1 6) y240 := h246
                  have hLx := h246
                  clear h247
                  replace h248 : (m.1 8) ≤ y236 := h248
                  clear h249
                  have hf300 : 1 ≤ y240 := by omega
                  clear q222_10 q222_11 h229
                  exact J135_65 v218 (mO m [(7, y234), (8, y236), (9, y238), (10, y240), (11, y242), (12, y244)] [(46, (m.2 46)), (47, upI (m.2 47) ((4 * a) + ((m.2 46) a)) (m.1 8)), (48, upI (m.2 48) ((4 * a) + ((m.2 46) a)) (m.1 9)), (49, (m.2 49))]) (r32 (by omega) (by omega)) (Ty_mO hT rfl rfl ⟨g235, g237, g239, g241, g243, g245, trivial⟩ ⟨(hT.2.1 46), G230, G231, (hT.2.1 49), trivial⟩) (show 0 ≤ v218 by omega) (show 1 ≤ y240 by omega) (show y240 ≤ 8 by omega) (show ∀ k, (upI (m.2 47) ((4 * a) + ((m.2 46) a)) (m.1 8)) k + (upI (m.2 48) ((4 * a) + ((m.2 46) a)) (m.1 9)) k ≤ 4000 by first | exact hPA | (intro k; have := hPA0 k; have h7 := hLx0 hf0; unfold upI; split <;> omega)) (show (m.2 46) a ≤ 3 by omega) (show (-2147483648) ≤ ((4 * a) + ((m.2 46) a)) ∧ ((4 * a) + ((m.2 46) a)) ≤ 2147483647 by omega)
              · skip
                refine T_gf 66 (.int (i32 (m219.1 10))) rfl rfl rfl rfl rfl rfl ?_
                refine T_if 103 69 rfl rfl rfl (r32 (by omega) (by omega)) (fun (h301 : (m219.1 10) ≠ 0) => by exfalso; omega) (fun (h301 : ¬ ((m219.1 10) ≠ 0)) => ?_)
                have hp3 := hPA v218
                refine T_ld 70 (.ref 189) rfl (fun _ => rfl) ?_
                refine T_gf 74 (.ref 217) rfl rfl rfl rfl rfl rfl ?_
                refine T_ld 75 (.int (i32 v218)) rfl (fun _ => rfl) ?_
                refine T_iald 76 47 (m.2 47) rfl rfl rfl (by omega) (show v218 < (64 : Int) by omega) rfl ?_
                have e302 : 0 ≤ (m.2 47) v218 ∧ (m.2 47) v218 ≤ 4000 := (hT.2.1 47) v218
                refine T_gf 80 (.ref 218) rfl rfl rfl rfl rfl rfl ?_
                refine T_ld 81 (.int (i32 v218)) rfl (fun _ => rfl) ?_
                refine T_iald 82 48 (m.2 48) rfl rfl rfl (by omega) (show v218 < (64 : Int) by omega) rfl ?_
                have e303 : 0 ≤ (m.2 48) v218 ∧ (m.2 48) v218 ≤ 4000 := (hT.2.1 48) v218
                refine T_call 85 230 [.ref 189, .int (i32 ((m.2 47) v218)), .int (i32 ((m.2 48) v218))] [] rfl (fun _ => rfl) rfl (c_isHere w (mO m [(7, (m.1 7)), (8, (m.1 8)), (9, (m.1 9)), (10, (m219.1 10)), (11, (m219.1 11)), (12, (m.1 12))] [(46, (m.2 46)), (47, (m.2 47)), (48, (m.2 48)), (49, (m.2 49))]) c N D (by omega) (Ty_mO hT rfl rfl ⟨f7, f8, f9, (q222.1 10), (q222.1 11), f12, trivial⟩ ⟨(hT.2.1 46), (hT.2.1 47), (hT.2.1 48), (hT.2.1 49), trivial⟩) ((m.2 47) v218) ((m.2 48) v218) (r32 (by omega) (by omega)) (r32 (by omega) (by omega)) (show 0 ≤ ((m.2 47) v218) by omega) (show 0 ≤ ((m.2 48) v218) by omega) (show ((m.2 47) v218) + ((m.2 48) v218) ≤ 4000 by omega) (show 1 ≤ (m.1 9) ∧ (m.1 8) + (m.1 9) ≤ (m.1 6) by first | omega | (have h8 := hLx (by omega); omega))) (fun rr304 k305 => ?_)
                obtain ⟨x306, g307, h308, rfl⟩ := k305
                refine ⟨_, _, rfl, ?_⟩
                refine T_nf2 (st' := [.int (i32 x306)]) (l' := [(7, (m.1 7)), (8, (m.1 8)), (9, (m.1 9)), (10, (m219.1 10)), (11, (m219.1 11)), (12, (m.1 12))]) (a' := [(46, (m.2 46)), (47, (m.2 47)), (48, (m.2 48)), (49, (m.2 49))]) [] [] rfl ⟨rfl, rfl, rfl, rfl, rfl, rfl, rfl, rfl, rfl, rfl, rfl, rfl, trivial⟩ ⟨rfl, rfl, rfl, rfl, rfl, rfl, rfl, rfl, trivial⟩ rfl rfl (by decide) (by decide) ?_
                obtain ⟨g307a, g307b⟩ := g307
                replace h308 : (x306 = 1 ∧ sameN (m.2 4) (m.1 8) (m.1 9) ((m.2 47) v218) ((m.2 48) v218)) ∨ (x306 = 0 ∧ ¬ sameN (m.2 4) (m.1 8) (m.1 9) ((m.2 47) v218) ((m.2 48) v218)) := h308
                have hh := h308
                have u309 : (m.1 8) ≤ (m.1 8) := by omega
                refine T_if 97 88 rfl rfl rfl (r32 (by omega) (by omega)) (fun (h310 : x306 = 0) => ?_) (fun (h310 : ¬ (x306 = 0)) => ?_)
                · skip
                  refine T_iinc 100 [(3, .int (i32 (v218 + 1))), (0, .ref 189), (1, .int (i32 a)), (2, .int (i32 ((4 * a) + ((m.2 46) a))))] rfl rfl (by decide) rfl rfl ?_
                  refine T_goto 57 rfl (fun _ => rfl) ?_
                  refine Tm_lv (a := [(0, .ref 189), (1, .int (i32 a)), (2, .int (i32 ((4 * a) + ((m.2 46) a)))), (3, .int (i32 (v218 + 1)))]) rfl rfl ⟨rfl, rfl, rfl, rfl, trivial⟩ ?_
                  exact ih226 (v218 + 1) (mO m [(7, (m.1 7)), (8, (m.1 8)), (9, (m.1 9)), (10, (m219.1 10)), (11, (m219.1 11)), (12, (m.1 12))] [(46, (m.2 46)), (47, (m.2 47)), (48, (m.2 48)), (49, (m.2 49))]) (r32 (by omega) (by omega)) (Ty_mO hT rfl rfl ⟨f7, f8, f9, (q222.1 10), (q222.1 11), f12, trivial⟩ ⟨(hT.2.1 46), (hT.2.1 47), (hT.2.1 48), (hT.2.1 49), trivial⟩) (show 0 ≤ (v218 + 1) by omega) (show (v218 + 1) ≤ (4 * a) + ((m.2 46) a) by omega) (fun _ => trivial) (show ((4 * a) + ((m.2 46) a)) - (v218 + 1) < (n : Int) by omega)
                · skip
                  refine T_ld 89 (.ref 189) rfl (fun _ => rfl) ?_
                  refine T_ld 90 (.int (i32 3)) rfl (fun _ => rfl) ?_
                  refine T_gf 94 (.int (i32 (m.1 8))) rfl rfl rfl rfl rfl rfl ?_
                  refine T_call 97 222 [.ref 189, .int (i32 3), .int (i32 (m.1 8))] [] rfl (fun _ => rfl) rfl (c_wrong w (mO m [(7, (m.1 7)), (8, (m.1 8)), (9, (m.1 9)), (10, (m219.1 10)), (11, (m219.1 11)), (12, (m.1 12))] [(46, (m.2 46)), (47, (m.2 47)), (48, (m.2 48)), (49, (m.2 49))]) c N D (by omega) (Ty_mO hT rfl rfl ⟨f7, f8, f9, (q222.1 10), (q222.1 11), f12, trivial⟩ ⟨(hT.2.1 46), (hT.2.1 47), (hT.2.1 48), (hT.2.1 49), trivial⟩) 3 (m.1 8) ⟨by decide, by decide⟩ (r32 (by omega) (by omega)) (show 1 ≤ (3 : Int) ∧ (3 : Int) ≤ 8 by omega) (show 0 ≤ (m.1 8) ∧ (m.1 8) ≤ 4000 by omega)) (fun rr311 k312 => ?_)
                  obtain ⟨y313, y315, g314, g316, h317, rfl⟩ := k312
                  refine ⟨_, _, rfl, ?_⟩
                  refine T_nf2 (st' := []) (l' := [(7, (m.1 7)), (8, (m.1 8)), (9, (m.1 9)), (10, y313), (11, y315), (12, (m.1 12))]) (a' := [(46, (m.2 46)), (47, (m.2 47)), (48, (m.2 48)), (49, (m.2 49))]) [10, 11] [] rfl ⟨rfl, rfl, rfl, rfl, rfl, rfl, rfl, rfl, rfl, rfl, rfl, rfl, rfl, rfl, rfl, trivial⟩ ⟨rfl, rfl, rfl, rfl, rfl, rfl, rfl, rfl, trivial⟩ rfl rfl (by decide) (by decide) ?_
                  replace h317 : (0 < (m219.1 10) → y313 = (m219.1 10) ∧ y315 = (m219.1 11)) ∧ ((m219.1 10) ≤ 0 → y313 = (3 : Int) ∧ y315 = (m.1 8)) := h317
                  have hf318 : 1 ≤ y313 := by omega
                  clear q222_10 q222_11 h301 g307a g307b h308 h310 h317
                  exact J97_96 v218 (mO m [(7, (m.1 7)), (8, (m.1 8)), (9, (m.1 9)), (10, y313), (11, y315), (12, (m.1 12))] [(46, (m.2 46)), (47, (m.2 47)), (48, (m.2 48)), (49, (m.2 49))]) (r32 (by omega) (by omega)) (Ty_mO hT rfl rfl ⟨f7, f8, f9, g314, g316, f12, trivial⟩ ⟨(hT.2.1 46), (hT.2.1 47), (hT.2.1 48), (hT.2.1 49), trivial⟩) (show 0 ≤ v218 by omega) (show v218 ≤ 2147483646 by omega) (show 1 ≤ y313 by omega) (show y313 ≤ 8 by omega) (show ∀ k, (m.2 47) k + (m.2 48) k ≤ 4000 by first | exact hPA | (intro k; have := hPA0 k; have h7 := hLx0 hf0; unfold upI; split <;> omega)) (show 1 ≤ ((4 * a) + ((m.2 46) a)) ∧ ((4 * a) + ((m.2 46) a)) ≤ 2147483647 by omega)
            · skip
              clear c225
              have hf319 : 1 ≤ (m219.1 10) := by omega
              refine T_ld 58 (.int (i32 v218)) rfl (fun _ => rfl) ?_
              refine T_ld 59 (.int (i32 ((4 * a) + ((m.2 46) a)))) rfl (fun _ => rfl) ?_
              refine T_icmp 103 62 rfl rfl rfl (r32 (by omega) (by omega)) (r32 (by omega) (by omega)) (fun (h320 : (4 * a) + ((m.2 46) a) ≤ v218) => ?_) (fun (h320 : ¬ ((4 * a) + ((m.2 46) a) ≤ v218)) => ?_)
              · skip
                refine T_gf 107 (.int (i32 (m219.1 10))) rfl rfl rfl rfl rfl rfl ?_
                refine T_if 111 110 rfl rfl rfl (r32 (by omega) (by omega)) (fun (h321 : (m219.1 10) ≤ 0) => by exfalso; omega) (fun (h321 : ¬ ((m219.1 10) ≤ 0)) => ?_)
                refine T_ret rfl (fun _ => rfl) ?_
                exact ⟨(mO m [(7, (m.1 7)), (8, (m.1 8)), (9, (m.1 9)), (10, (m219.1 10)), (11, (m219.1 11)), (12, (m.1 12))] [(46, (m.2 46)), (47, (m.2 47)), (48, (m.2 48)), (49, (m.2 49))]), (Ty_mO hT rfl rfl ⟨f7, f8, f9, (q222.1 10), (q222.1 11), f12, trivial⟩ ⟨(hT.2.1 46), (hT.2.1 47), (hT.2.1 48), (hT.2.1 49), trivial⟩), (show (m219.1 10) = 0 → (m.1 10) = 0 by omega), (show LxP (m.1 7) (m.1 8) (m.1 9) (m.1 6) (m219.1 10) by first | (first | exact hLx | exact (fun _ => hLx (by omega)) | (intro h9; exfalso; omega)) | (exfalso; omega)), (show ∀ k, (m.2 47) k + (m.2 48) k ≤ 4000 by first | (first | exact hPA | (intro k; have := hPA0 k; have h7 := hLx0 hf0; unfold upI; split <;> omega)) | (exfalso; omega)), (fun (h : (m219.1 10) = 0) => absurd h (by omega)), rfl⟩
              · skip
                refine T_gf 66 (.int (i32 (m219.1 10))) rfl rfl rfl rfl rfl rfl ?_
                refine T_if 103 69 rfl rfl rfl (r32 (by omega) (by omega)) (fun (h322 : (m219.1 10) ≠ 0) => ?_) (fun (h322 : ¬ ((m219.1 10) ≠ 0)) => by exfalso; omega)
                refine T_gf 107 (.int (i32 (m219.1 10))) rfl rfl rfl rfl rfl rfl ?_
                refine T_if 111 110 rfl rfl rfl (r32 (by omega) (by omega)) (fun (h323 : (m219.1 10) ≤ 0) => by exfalso; omega) (fun (h323 : ¬ ((m219.1 10) ≤ 0)) => ?_)
                refine T_ret rfl (fun _ => rfl) ?_
                exact ⟨(mO m [(7, (m.1 7)), (8, (m.1 8)), (9, (m.1 9)), (10, (m219.1 10)), (11, (m219.1 11)), (12, (m.1 12))] [(46, (m.2 46)), (47, (m.2 47)), (48, (m.2 48)), (49, (m.2 49))]), (Ty_mO hT rfl rfl ⟨f7, f8, f9, (q222.1 10), (q222.1 11), f12, trivial⟩ ⟨(hT.2.1 46), (hT.2.1 47), (hT.2.1 48), (hT.2.1 49), trivial⟩), (show (m219.1 10) = 0 → (m.1 10) = 0 by omega), (show LxP (m.1 7) (m.1 8) (m.1 9) (m.1 6) (m219.1 10) by first | (first | exact hLx | exact (fun _ => hLx (by omega)) | (intro h9; exfalso; omega)) | (exfalso; omega)), (show ∀ k, (m.2 47) k + (m.2 48) k ≤ 4000 by first | (first | exact hPA | (intro k; have := hPA0 k; have h7 := hLx0 hf0; unfold upI; split <;> omega)) | (exfalso; omega)), (fun (h : (m219.1 10) = 0) => absurd h (by omega)), rfl⟩
        refine Tm_lv (a := [(0, .ref 189), (1, .int (i32 a)), (2, .int (i32 ((4 * a) + ((m.2 46) a)))), (3, .int (i32 (4 * a)))]) rfl rfl ⟨rfl, rfl, rfl, rfl, trivial⟩ ?_
        exact L57_220 ((((4 * a) + ((m.2 46) a)) - (4 * a) : Int) + 1).toNat (4 * a) (mO m [(7, (m.1 7)), (8, (m.1 8)), (9, (m.1 9)), (10, (m.1 10)), (11, (m.1 11)), (12, (m.1 12))] [(46, (m.2 46)), (47, (m.2 47)), (48, (m.2 48)), (49, (m.2 49))]) (r32 (by omega) (by omega)) (Ty_mO hT rfl rfl ⟨f7, f8, f9, f10, f11, f12, trivial⟩ ⟨(hT.2.1 46), (hT.2.1 47), (hT.2.1 48), (hT.2.1 49), trivial⟩) (show 0 ≤ (4 * a) by omega) (show (4 * a) ≤ (4 * a) + ((m.2 46) a) by omega) (fun _ => trivial) (show ((4 * a) + ((m.2 46) a)) - (4 * a) < ((((((4 * a) + ((m.2 46) a)) - (4 * a) : Int) + 1).toNat : Nat) : Int) by omega)
      · skip
        refine T_ld 45 (.ref 189) rfl (fun _ => rfl) ?_
        refine T_ld 46 (.int (i32 4)) rfl (fun _ => rfl) ?_
        refine T_gf 50 (.int (i32 (m.1 8))) rfl rfl rfl rfl rfl rfl ?_
        refine T_call 53 222 [.ref 189, .int (i32 4), .int (i32 (m.1 8))] [] rfl (fun _ => rfl) rfl (c_wrong w (mO m [(7, (m.1 7)), (8, (m.1 8)), (9, (m.1 9)), (10, (m.1 10)), (11, (m.1 11)), (12, (m.1 12))] [(46, (m.2 46)), (47, (m.2 47)), (48, (m.2 48)), (49, (m.2 49))]) c N D (by omega) (Ty_mO hT rfl rfl ⟨f7, f8, f9, f10, f11, f12, trivial⟩ ⟨(hT.2.1 46), (hT.2.1 47), (hT.2.1 48), (hT.2.1 49), trivial⟩) 4 (m.1 8) ⟨by decide, by decide⟩ (r32 (by omega) (by omega)) (show 1 ≤ (4 : Int) ∧ (4 : Int) ≤ 8 by omega) (show 0 ≤ (m.1 8) ∧ (m.1 8) ≤ 4000 by omega)) (fun rr324 k325 => ?_)
        obtain ⟨y326, y328, g327, g329, h330, rfl⟩ := k325
        refine ⟨_, _, rfl, ?_⟩
        refine T_nf2 (st' := []) (l' := [(7, (m.1 7)), (8, (m.1 8)), (9, (m.1 9)), (10, y326), (11, y328), (12, (m.1 12))]) (a' := [(46, (m.2 46)), (47, (m.2 47)), (48, (m.2 48)), (49, (m.2 49))]) [10, 11] [] rfl ⟨rfl, rfl, rfl, rfl, rfl, rfl, rfl, rfl, rfl, rfl, rfl, rfl, rfl, rfl, rfl, trivial⟩ ⟨rfl, rfl, rfl, rfl, rfl, rfl, rfl, rfl, trivial⟩ rfl rfl (by decide) (by decide) ?_
        replace h330 : (0 < (m.1 10) → y326 = (m.1 10) ∧ y328 = (m.1 11)) ∧ ((m.1 10) ≤ 0 → y326 = (4 : Int) ∧ y328 = (m.1 8)) := h330
        have hf331 : 1 ≤ y326 := by omega
        refine T_ld 54 (.int (i32 4)) rfl (fun _ => rfl) ?_
        refine T_ld 55 (.int (i32 a)) rfl (fun _ => rfl) ?_
        refine T_imul 56 rfl rfl ?_
        refine T_sto 57 [(3, .int (i32 (4 * a))), (2, .int (i32 ((4 * a) + ((m.2 46) a)))), (0, .ref 189), (1, .int (i32 a))] rfl (fun _ => rfl) ?_
        have L57_334 : ∀ (n : Nat) (v332 : Int) (m333 : mR), (R32 v332) → (Ty m333) → (0 ≤ v332) → (v332 ≤ (4 * a) + ((m.2 46) a)) → ((m333.1 10) = 0 → True) → ((4 * a) + ((m.2 46) a)) - v332 < (n : Int) → TT w D pm_268 (57, [(0, .ref 189), (1, .int (i32 a)), (2, .int (i32 ((4 * a) + ((m.2 46) a)))), (3, .int (i32 v332))], [], (mhp (mO m [(7, (m.1 7)), (8, (m.1 8)), (9, (m.1 9)), (10, (m333.1 10)), (11, (m333.1 11)), (12, (m.1 12))] [(46, (m.2 46)), (47, (m.2 47)), (48, (m.2 48)), (49, (m.2 49))]) c, N), 0, 0) (Q_takeParameter m c N a) := by
          intro n
          induction n with
          | zero =>
            intro v332 m333 q335 q336 ic337 ic338 c339 hmu
            obtain ⟨q335a, q335b⟩ := id q335
            have q336_10 : 0 ≤ m333.1 10 ∧ m333.1 10 ≤ 8 := q336.1 10
            have q336_11 : (-1) ≤ m333.1 11 ∧ m333.1 11 ≤ 4000 := q336.1 11
            exfalso
            omega
          | succ n ih =>
            intro v332 m333 q335 q336 ic337 ic338 c339 hmu
            obtain ⟨q335a, q335b⟩ := id q335
            have q336_10 : 0 ≤ m333.1 10 ∧ m333.1 10 ≤ 8 := q336.1 10
            have q336_11 : (-1) ≤ m333.1 11 ∧ m333.1 11 ≤ 4000 := q336.1 11
            have ih340 := ih
            by_cases hf341 : (m333.1 10) = 0
            · skip
              refine T_ld 58 (.int (i32 v332)) rfl (fun _ => rfl) ?_
              refine T_ld 59 (.int (i32 ((4 * a) + ((m.2 46) a)))) rfl (fun _ => rfl) ?_
              refine T_icmp 103 62 rfl rfl rfl (r32 (by omega) (by omega)) (r32 (by omega) (by omega)) (fun (h342 : (4 * a) + ((m.2 46) a) ≤ v332) => ?_) (fun (h342 : ¬ ((4 * a) + ((m.2 46) a) ≤ v332)) => ?_)
              · skip
                refine T_gf 107 (.int (i32 (m333.1 10))) rfl rfl rfl rfl rfl rfl ?_
                refine T_if 111 110 rfl rfl rfl (r32 (by omega) (by omega)) (fun (h343 : (m333.1 10) ≤ 0) => ?_) (fun (h343 : ¬ ((m333.1 10) ≤ 0)) => by exfalso; omega)
                refine T_gf 115 (.ref 217) rfl rfl rfl rfl rfl rfl ?_
                refine T_ld 116 (.int (i32 ((4 * a) + ((m.2 46) a)))) rfl (fun _ => rfl) ?_
                refine T_gf 120 (.int (i32 (m.1 8))) rfl rfl rfl rfl rfl rfl ?_
                have G344 : ∀ j, 0 ≤ (upI (m.2 47) ((4 * a) + ((m.2 46) a)) (m.1 8)) j ∧ (upI (m.2 47) ((4 * a) + ((m.2 46) a)) (m.1 8)) j ≤ 4000 := upI_rg (hT.2.1 47) ⟨by omega, by omega⟩
                refine T_iast (a' := [(46, (m.2 46)), (47, upI (m.2 47) ((4 * a) + ((m.2 46) a)) (m.1 8)), (48, (m.2 48)), (49, (m.2 49))]) 121 47 (m.2 47) rfl rfl rfl (by omega) (show ((4 * a) + ((m.2 46) a)) < (64 : Int) by omega) rfl rfl ?_
                refine T_gf 125 (.ref 218) rfl rfl rfl rfl rfl rfl ?_
                refine T_ld 126 (.int (i32 ((4 * a) + ((m.2 46) a)))) rfl (fun _ => rfl) ?_
                refine T_gf 130 (.int (i32 (m.1 9))) rfl rfl rfl rfl rfl rfl ?_
                have G345 : ∀ j, 0 ≤ (upI (m.2 48) ((4 * a) + ((m.2 46) a)) (m.1 9)) j ∧ (upI (m.2 48) ((4 * a) + ((m.2 46) a)) (m.1 9)) j ≤ 4000 := upI_rg (hT.2.1 48) ⟨by omega, by omega⟩
                refine T_iast (a' := [(46, (m.2 46)), (47, upI (m.2 47) ((4 * a) + ((m.2 46) a)) (m.1 8)), (48, upI (m.2 48) ((4 * a) + ((m.2 46) a)) (m.1 9)), (49, (m.2 49))]) 131 48 (m.2 48) rfl rfl rfl (by omega) (show ((4 * a) + ((m.2 46) a)) < (64 : Int) by omega) rfl rfl ?_
                refine T_ld 132 (.ref 189) rfl (fun _ => rfl) ?_
                refine T_call 135 212 [.ref 189] [] rfl (fun _ => rfl) rfl (c_next w (mO m [(7, (m.1 7)), (8, (m.1 8)), (9, (m.1 9)), (10, (m333.1 10)), (11, (m333.1 11)), (12, (m.1 12))] [(46, (m.2 46)), (47, upI (m.2 47) ((4 * a) + ((m.2 46) a)) (m.1 8)), (48, upI (m.2 48) ((4 * a) + ((m.2 46) a)) (m.1 9)), (49, (m.2 49))]) c N D (by omega) (Ty_mO hT rfl rfl ⟨f7, f8, f9, (q336.1 10), (q336.1 11), f12, trivial⟩ ⟨(hT.2.1 46), G344, G345, (hT.2.1 49), trivial⟩) (show (m333.1 10) = 0 → (m.1 8) + (m.1 9) ≤ (m.1 6) by first | omega | (intro h9; have h8 := hLx h9; omega))) (fun rr346 k347 => ?_)
                obtain ⟨y348, y350, y352, y354, y356, y358, g349, g351, g353, g355, g357, g359, h360, h361, h362, h363, rfl⟩ := k347
                refine ⟨_, _, rfl, ?_⟩
                refine T_nf2 (st' := []) (l' := [(7, y348), (8, y350), (9, y352), (10, y354), (11, y356), (12, y358)]) (a' := [(46, (m.2 46)), (47, upI (m.2 47) ((4 * a) + ((m.2 46) a)) (m.1 8)), (48, upI (m.2 48) ((4 * a) + ((m.2 46) a)) (m.1 9)), (49, (m.2 49))]) [7, 8, 9, 10, 11, 12] [] rfl ⟨rfl, rfl, rfl, rfl, rfl, rfl, rfl, rfl, rfl, rfl, rfl, rfl, trivial⟩ ⟨rfl, rfl, rfl, rfl, rfl, rfl, rfl, rfl, trivial⟩ rfl rfl (by decide) (by decide) ?_
                by_cases hf364 : y354 = 0
                · skip
                  subst hf364
                  replace h360 : LxP y348 y350 y352 (m.1 6) (0 : Int) := h360
                  have hLx := h360
                  replace h361 : (m333.1 10) = 0 := h361 rfl
                  replace h362 : (m.1 8) ≤ y350 := h362
                  replace h363 : (m.1 8) + (m.1 9) ≤ y350 := h363 rfl
                  have u365 : (m.1 8) + 1 ≤ y350 := by omega
                  clear g327 g329 hf331 h330 q336_10 q336_11 h343 g355 h361
                  refine T_ld 136 (.ref 189) rfl (fun _ => rfl) ?_
                  refine T_ld 138 (.int (i32 58)) rfl (fun _ => rfl) ?_
                  refine T_call 141 232 [.ref 189, .int (i32 58)] [] rfl (fun _ => rfl) rfl (c_need w (mO m [(7, y348), (8, y350), (9, y352), (10, 0), (11, y356), (12, y358)] [(46, (m.2 46)), (47, upI (m.2 47) ((4 * a) + ((m.2 46) a)) (m.1 8)), (48, upI (m.2 48) ((4 * a) + ((m.2 46) a)) (m.1 9)), (49, (m.2 49))]) c N D (by omega) (Ty_mO hT rfl rfl ⟨g349, g351, g353, ⟨(by omega : (0 : Int) ≤ 0), (by omega : (0 : Int) ≤ 8)⟩, g357, g359, trivial⟩ ⟨(hT.2.1 46), G344, G345, (hT.2.1 49), trivial⟩) 58 ⟨by decide, by decide⟩ (show 1 ≤ (58 : Int) by omega) (show LxP y348 y350 y352 (m.1 6) (0 : Int) by first | exact hLx | (intro h9; exfalso; omega) | (intro h9; have h8 := hLx (by omega); omega))) (fun rr366 k367 => ?_)
                  obtain ⟨y368, y370, y372, y374, y376, y378, g369, g371, g373, g375, g377, g379, h380, h381, h382, h383, rfl⟩ := k367
                  refine ⟨_, _, rfl, ?_⟩
                  refine T_nf2 (st' := []) (l' := [(7, y368), (8, y370), (9, y372), (10, y374), (11, y376), (12, y378)]) (a' := [(46, (m.2 46)), (47, upI (m.2 47) ((4 * a) + ((m.2 46) a)) (m.1 8)), (48, upI (m.2 48) ((4 * a) + ((m.2 46) a)) (m.1 9)), (49, (m.2 49))]) [7, 8, 9, 10, 11, 12] [] rfl ⟨rfl, rfl, rfl, rfl, rfl, rfl, rfl, rfl, rfl, rfl, rfl, rfl, trivial⟩ ⟨rfl, rfl, rfl, rfl, rfl, rfl, rfl, rfl, trivial⟩ rfl rfl (by decide) (by decide) ?_
                  by_cases hf384 : y374 = 0
                  · skip
                    subst hf384
                    replace h380 : LxP y368 y370 y372 (m.1 6) (0 : Int) := h380
                    have hLx := h380
                    replace h381 : (0 : Int) = 0 ∧ y348 = (58 : Int) := h381 rfl
                    replace h382 : y350 ≤ y370 := h382
                    replace h383 : y350 + y352 ≤ y370 := h383 rfl
                    have u385 : (m.1 8) + 1 ≤ y370 := by omega
                    clear g349 g351 g353 g357 g359 h360 h362 h363 u365 g375 h381 h382 h383
                    refine T_gf 145 (.ref 219) rfl rfl rfl rfl rfl rfl ?_
                    refine T_ld 146 (.int (i32 ((4 * a) + ((m.2 46) a)))) rfl (fun _ => rfl) ?_
                    refine T_ld 147 (.ref 189) rfl (fun _ => rfl) ?_
                    refine T_ld 148 (.int (i32 1)) rfl (fun _ => rfl) ?_
                    refine T_ld 150 (.int (i32 64)) rfl (fun _ => rfl) ?_
                    refine T_call 153 234 [.ref 189, .int (i32 1), .int (i32 64)] [.int (i32 ((4 * a) + ((m.2 46) a))), .ref 219] rfl (fun _ => rfl) rfl (c_number w (mO m [(7, y368), (8, y370), (9, y372), (10, 0), (11, y376), (12, y378)] [(46, (m.2 46)), (47, upI (m.2 47) ((4 * a) + ((m.2 46) a)) (m.1 8)), (48, upI (m.2 48) ((4 * a) + ((m.2 46) a)) (m.1 9)), (49, (m.2 49))]) c N D (by omega) (Ty_mO hT rfl rfl ⟨g369, g371, g373, ⟨(by omega : (0 : Int) ≤ 0), (by omega : (0 : Int) ≤ 8)⟩, g377, g379, trivial⟩ ⟨(hT.2.1 46), G344, G345, (hT.2.1 49), trivial⟩) 1 64 ⟨by decide, by decide⟩ ⟨by decide, by decide⟩ (show LxP y368 y370 y372 (m.1 6) (0 : Int) by first | exact hLx | (intro h9; exfalso; omega) | (intro h9; have h8 := hLx (by omega); omega)) (show (1 : Int) ≤ (64 : Int) by omega)) (fun rr386 k387 => ?_)
                    obtain ⟨y388, y390, y392, y394, y396, y398, nu, g389, g391, g393, g395, g397, g399, g400, h401, h402, h403, h404, h405, h406, rfl⟩ := k387
                    refine ⟨_, _, rfl, ?_⟩
                    refine T_nf2 (st' := [.int (i32 nu), .int (i32 ((4 * a) + ((m.2 46) a))), .ref 219]) (l' := [(7, y388), (8, y390), (9, y392), (10, y394), (11, y396), (12, y398)]) (a' := [(46, (m.2 46)), (47, upI (m.2 47) ((4 * a) + ((m.2 46) a)) (m.1 8)), (48, upI (m.2 48) ((4 * a) + ((m.2 46) a)) (m.1 9)), (49, (m.2 49))]) [7, 8, 9, 10, 11, 12] [] rfl ⟨rfl, rfl, rfl, rfl, rfl, rfl, rfl, rfl, rfl, rfl, rfl, rfl, trivial⟩ ⟨rfl, rfl, rfl, rfl, rfl, rfl, rfl, rfl, trivial⟩ rfl rfl (by decide) (by decide) ?_
                    obtain ⟨g400a, g400b⟩ := g400
                    by_cases hf407 : y394 = 0
                    · skip
                      subst hf407
                      replace h401 : LxP y388 y390 y392 (m.1 6) (0 : Int) := h401
                      have hLx := h401
                      replace h402 : y370 ≤ y390 := h402
                      replace h403 : (0 : Int) = 0 ∧ y370 + y372 ≤ y390 := h403 rfl
                      replace h404 : y368 = 2 := h404 rfl
                      replace h405 : (1 : Int) ≤ nu ∧ nu ≤ (64 : Int) := h405
                      replace h406 : nu = y378 := h406 rfl
                      have u408 : (m.1 8) + 1 ≤ y390 := by omega
                      clear g369 g371 g373 g377 g379 h380 u385 g395 h402 h403 h404 h406
                      have G409 : ∀ j, 0 ≤ (upI (m.2 49) ((4 * a) + ((m.2 46) a)) nu) j ∧ (upI (m.2 49) ((4 * a) + ((m.2 46) a)) nu) j ≤ 64 := upI_rg (hT.2.1 49) ⟨by omega, by omega⟩
                      refine T_iast (a' := [(46, (m.2 46)), (47, upI (m.2 47) ((4 * a) + ((m.2 46) a)) (m.1 8)), (48, upI (m.2 48) ((4 * a) + ((m.2 46) a)) (m.1 9)), (49, upI (m.2 49) ((4 * a) + ((m.2 46) a)) nu)]) 154 49 (m.2 49) rfl rfl rfl (by omega) (show ((4 * a) + ((m.2 46) a)) < (64 : Int) by omega) rfl rfl ?_
                      refine T_gf 158 (.ref 216) rfl rfl rfl rfl rfl rfl ?_
                      refine T_ld 159 (.int (i32 a)) rfl (fun _ => rfl) ?_
                      refine T_dup2 160 rfl (fun _ => rfl) ?_
                      refine T_iald 161 46 (m.2 46) rfl rfl rfl (by omega) (show a < (16 : Int) by omega) rfl ?_
                      have e410 : 0 ≤ (m.2 46) a ∧ (m.2 46) a ≤ 4 := (hT.2.1 46) a
                      refine T_ld 162 (.int (i32 1)) rfl (fun _ => rfl) ?_
                      refine T_iadd 163 rfl rfl ?_
                      have G411 : ∀ j, 0 ≤ (upI (m.2 46) a (((m.2 46) a) + 1)) j ∧ (upI (m.2 46) a (((m.2 46) a) + 1)) j ≤ 4 := upI_rg (hT.2.1 46) ⟨by omega, by omega⟩
                      refine T_iast (a' := [(46, upI (m.2 46) a (((m.2 46) a) + 1)), (47, upI (m.2 47) ((4 * a) + ((m.2 46) a)) (m.1 8)), (48, upI (m.2 48) ((4 * a) + ((m.2 46) a)) (m.1 9)), (49, upI (m.2 49) ((4 * a) + ((m.2 46) a)) nu)]) 164 46 (m.2 46) rfl rfl rfl (by omega) (show a < (16 : Int) by omega) rfl rfl ?_
                      refine T_ret rfl (fun _ => rfl) ?_
                      exact ⟨(mO m [(7, y388), (8, y390), (9, y392), (10, 0), (11, y396), (12, y398)] [(46, upI (m.2 46) a (((m.2 46) a) + 1)), (47, upI (m.2 47) ((4 * a) + ((m.2 46) a)) (m.1 8)), (48, upI (m.2 48) ((4 * a) + ((m.2 46) a)) (m.1 9)), (49, upI (m.2 49) ((4 * a) + ((m.2 46) a)) nu)]), (Ty_mO hT rfl rfl ⟨g389, g391, g393, ⟨(by omega : (0 : Int) ≤ 0), (by omega : (0 : Int) ≤ 8)⟩, g397, g399, trivial⟩ ⟨G411, G344, G345, G409, trivial⟩), (show (0 : Int) = 0 → (m.1 10) = 0 by omega), (show LxP y388 y390 y392 (m.1 6) (0 : Int) by first | (first | exact hLx | exact (fun _ => hLx (by omega)) | (intro h9; exfalso; omega)) | (exfalso; omega)), (show ∀ k, (upI (m.2 47) ((4 * a) + ((m.2 46) a)) (m.1 8)) k + (upI (m.2 48) ((4 * a) + ((m.2 46) a)) (m.1 9)) k ≤ 4000 by first | (first | exact hPA | (intro k; have := hPA0 k; have h7 := hLx0 hf0; unfold upI; split <;> omega)) | (exfalso; omega)), (fun _ => (show (m.1 8) + 1 ≤ y390 by omega)), rfl⟩
                    · skip
                      replace h401 : LxP y388 y390 y392 (m.1 6) y394 := h401
                      have hLx := h401
                      replace h402 : y370 ≤ y390 := h402
                      clear h403
                      clear h404
                      replace h405 : (1 : Int) ≤ nu ∧ nu ≤ (64 : Int) := h405
                      clear h406
                      have hf412 : 1 ≤ y394 := by omega
                      clear g369 g371 g373 g377 g379 h380 u385 h402
                      exact J153_15 v332 nu (mO m [(7, y388), (8, y390), (9, y392), (10, y394), (11, y396), (12, y398)] [(46, (m.2 46)), (47, upI (m.2 47) ((4 * a) + ((m.2 46) a)) (m.1 8)), (48, upI (m.2 48) ((4 * a) + ((m.2 46) a)) (m.1 9)), (49, (m.2 49))]) (r32 (by omega) (by omega)) (r32 (by omega) (by omega)) (Ty_mO hT rfl rfl ⟨g389, g391, g393, g395, g397, g399, trivial⟩ ⟨(hT.2.1 46), G344, G345, (hT.2.1 49), trivial⟩) (show 0 ≤ v332 by omega) (show 1 ≤ nu by omega) (show nu ≤ 64 by omega) (show 1 ≤ y394 by omega) (show y394 ≤ 8 by omega) (show ∀ k, (upI (m.2 47) ((4 * a) + ((m.2 46) a)) (m.1 8)) k + (upI (m.2 48) ((4 * a) + ((m.2 46) a)) (m.1 9)) k ≤ 4000 by first | exact hPA | (intro k; have := hPA0 k; have h7 := hLx0 hf0; unfold upI; split <;> omega)) (show (m.2 46) a ≤ 3 by omega)
                  · skip
                    replace h380 : LxP y368 y370 y372 (m.1 6) y374 := h380
                    have hLx := h380
                    clear h381
                    replace h382 : y350 ≤ y370 := h382
                    clear h383
                    have hf413 : 1 ≤ y374 := by omega
                    clear g349 g351 g353 g357 g359 h360 h362 h363 u365 h382
                    exact J141_32 v332 (mO m [(7, y368), (8, y370), (9, y372), (10, y374), (11, y376), (12, y378)] [(46, (m.2 46)), (47, upI (m.2 47) ((4 * a) + ((m.2 46) a)) (m.1 8)), (48, upI (m.2 48) ((4 * a) + ((m.2 46) a)) (m.1 9)), (49, (m.2 49))]) (r32 (by omega) (by omega)) (Ty_mO hT rfl rfl ⟨g369, g371, g373, g375, g377, g379, trivial⟩ ⟨(hT.2.1 46), G344, G345, (hT.2.1 49), trivial⟩) (show 0 ≤ v332 by omega) (show 1 ≤ y374 by omega) (show y374 ≤ 8 by omega) (show ∀ k, (upI (m.2 47) ((4 * a) + ((m.2 46) a)) (m.1 8)) k + (upI (m.2 48) ((4 * a) + ((m.2 46) a)) (m.1 9)) k ≤ 4000 by first | exact hPA | (intro k; have := hPA0 k; have h7 := hLx0 hf0; unfold upI; split <;> omega)) (show (m.2 46) a ≤ 3 by omega)
                · skip
                  replace h360 : LxP y348 y350 y352 (m.1 6) y354 := h360
                  have hLx := h360
                  clear h361
                  replace h362 : (m.1 8) ≤ y350 := h362
                  clear h363
                  have hf414 : 1 ≤ y354 := by omega
                  clear g327 g329 hf331 h330 q336_10 q336_11 h343
                  exact J135_65 v332 (mO m [(7, y348), (8, y350), (9, y352), (10, y354), (11, y356), (12, y358)] [(46, (m.2 46)), (47, upI (m.2 47) ((4 * a) + ((m.2 46) a)) (m.1 8)), (48, upI (m.2 48) ((4 * a) + ((m.2 46) a)) (m.1 9)), (49, (m.2 49))]) (r32 (by omega) (by omega)) (Ty_mO hT rfl rfl ⟨g349, g351, g353, g355, g357, g359, trivial⟩ ⟨(hT.2.1 46), G344, G345, (hT.2.1 49), trivial⟩) (show 0 ≤ v332 by omega) (show 1 ≤ y354 by omega) (show y354 ≤ 8 by omega) (show ∀ k, (upI (m.2 47) ((4 * a) + ((m.2 46) a)) (m.1 8)) k + (upI (m.2 48) ((4 * a) + ((m.2 46) a)) (m.1 9)) k ≤ 4000 by first | exact hPA | (intro k; have := hPA0 k; have h7 := hLx0 hf0; unfold upI; split <;> omega)) (show (m.2 46) a ≤ 3 by omega) (show (-2147483648) ≤ ((4 * a) + ((m.2 46) a)) ∧ ((4 * a) + ((m.2 46) a)) ≤ 2147483647 by omega)
              · skip
                refine T_gf 66 (.int (i32 (m333.1 10))) rfl rfl rfl rfl rfl rfl ?_
                refine T_if 103 69 rfl rfl rfl (r32 (by omega) (by omega)) (fun (h415 : (m333.1 10) ≠ 0) => by exfalso; omega) (fun (h415 : ¬ ((m333.1 10) ≠ 0)) => ?_)
                have hp3 := hPA v332
                refine T_ld 70 (.ref 189) rfl (fun _ => rfl) ?_
                refine T_gf 74 (.ref 217) rfl rfl rfl rfl rfl rfl ?_
                refine T_ld 75 (.int (i32 v332)) rfl (fun _ => rfl) ?_
                refine T_iald 76 47 (m.2 47) rfl rfl rfl (by omega) (show v332 < (64 : Int) by omega) rfl ?_
                have e416 : 0 ≤ (m.2 47) v332 ∧ (m.2 47) v332 ≤ 4000 := (hT.2.1 47) v332
                refine T_gf 80 (.ref 218) rfl rfl rfl rfl rfl rfl ?_
                refine T_ld 81 (.int (i32 v332)) rfl (fun _ => rfl) ?_
                refine T_iald 82 48 (m.2 48) rfl rfl rfl (by omega) (show v332 < (64 : Int) by omega) rfl ?_
                have e417 : 0 ≤ (m.2 48) v332 ∧ (m.2 48) v332 ≤ 4000 := (hT.2.1 48) v332
                refine T_call 85 230 [.ref 189, .int (i32 ((m.2 47) v332)), .int (i32 ((m.2 48) v332))] [] rfl (fun _ => rfl) rfl (c_isHere w (mO m [(7, (m.1 7)), (8, (m.1 8)), (9, (m.1 9)), (10, (m333.1 10)), (11, (m333.1 11)), (12, (m.1 12))] [(46, (m.2 46)), (47, (m.2 47)), (48, (m.2 48)), (49, (m.2 49))]) c N D (by omega) (Ty_mO hT rfl rfl ⟨f7, f8, f9, (q336.1 10), (q336.1 11), f12, trivial⟩ ⟨(hT.2.1 46), (hT.2.1 47), (hT.2.1 48), (hT.2.1 49), trivial⟩) ((m.2 47) v332) ((m.2 48) v332) (r32 (by omega) (by omega)) (r32 (by omega) (by omega)) (show 0 ≤ ((m.2 47) v332) by omega) (show 0 ≤ ((m.2 48) v332) by omega) (show ((m.2 47) v332) + ((m.2 48) v332) ≤ 4000 by omega) (show 1 ≤ (m.1 9) ∧ (m.1 8) + (m.1 9) ≤ (m.1 6) by first | omega | (have h8 := hLx (by omega); omega))) (fun rr418 k419 => ?_)
                obtain ⟨x420, g421, h422, rfl⟩ := k419
                refine ⟨_, _, rfl, ?_⟩
                refine T_nf2 (st' := [.int (i32 x420)]) (l' := [(7, (m.1 7)), (8, (m.1 8)), (9, (m.1 9)), (10, (m333.1 10)), (11, (m333.1 11)), (12, (m.1 12))]) (a' := [(46, (m.2 46)), (47, (m.2 47)), (48, (m.2 48)), (49, (m.2 49))]) [] [] rfl ⟨rfl, rfl, rfl, rfl, rfl, rfl, rfl, rfl, rfl, rfl, rfl, rfl, trivial⟩ ⟨rfl, rfl, rfl, rfl, rfl, rfl, rfl, rfl, trivial⟩ rfl rfl (by decide) (by decide) ?_
                obtain ⟨g421a, g421b⟩ := g421
                replace h422 : (x420 = 1 ∧ sameN (m.2 4) (m.1 8) (m.1 9) ((m.2 47) v332) ((m.2 48) v332)) ∨ (x420 = 0 ∧ ¬ sameN (m.2 4) (m.1 8) (m.1 9) ((m.2 47) v332) ((m.2 48) v332)) := h422
                have hh := h422
                have u423 : (m.1 8) ≤ (m.1 8) := by omega
                clear g327 g329 hf331 h330
                refine T_if 97 88 rfl rfl rfl (r32 (by omega) (by omega)) (fun (h424 : x420 = 0) => ?_) (fun (h424 : ¬ (x420 = 0)) => ?_)
                · skip
                  refine T_iinc 100 [(3, .int (i32 (v332 + 1))), (0, .ref 189), (1, .int (i32 a)), (2, .int (i32 ((4 * a) + ((m.2 46) a))))] rfl rfl (by decide) rfl rfl ?_
                  refine T_goto 57 rfl (fun _ => rfl) ?_
                  refine Tm_lv (a := [(0, .ref 189), (1, .int (i32 a)), (2, .int (i32 ((4 * a) + ((m.2 46) a)))), (3, .int (i32 (v332 + 1)))]) rfl rfl ⟨rfl, rfl, rfl, rfl, trivial⟩ ?_
                  exact ih340 (v332 + 1) (mO m [(7, (m.1 7)), (8, (m.1 8)), (9, (m.1 9)), (10, (m333.1 10)), (11, (m333.1 11)), (12, (m.1 12))] [(46, (m.2 46)), (47, (m.2 47)), (48, (m.2 48)), (49, (m.2 49))]) (r32 (by omega) (by omega)) (Ty_mO hT rfl rfl ⟨f7, f8, f9, (q336.1 10), (q336.1 11), f12, trivial⟩ ⟨(hT.2.1 46), (hT.2.1 47), (hT.2.1 48), (hT.2.1 49), trivial⟩) (show 0 ≤ (v332 + 1) by omega) (show (v332 + 1) ≤ (4 * a) + ((m.2 46) a) by omega) (fun _ => trivial) (show ((4 * a) + ((m.2 46) a)) - (v332 + 1) < (n : Int) by omega)
                · skip
                  refine T_ld 89 (.ref 189) rfl (fun _ => rfl) ?_
                  refine T_ld 90 (.int (i32 3)) rfl (fun _ => rfl) ?_
                  refine T_gf 94 (.int (i32 (m.1 8))) rfl rfl rfl rfl rfl rfl ?_
                  refine T_call 97 222 [.ref 189, .int (i32 3), .int (i32 (m.1 8))] [] rfl (fun _ => rfl) rfl (c_wrong w (mO m [(7, (m.1 7)), (8, (m.1 8)), (9, (m.1 9)), (10, (m333.1 10)), (11, (m333.1 11)), (12, (m.1 12))] [(46, (m.2 46)), (47, (m.2 47)), (48, (m.2 48)), (49, (m.2 49))]) c N D (by omega) (Ty_mO hT rfl rfl ⟨f7, f8, f9, (q336.1 10), (q336.1 11), f12, trivial⟩ ⟨(hT.2.1 46), (hT.2.1 47), (hT.2.1 48), (hT.2.1 49), trivial⟩) 3 (m.1 8) ⟨by decide, by decide⟩ (r32 (by omega) (by omega)) (show 1 ≤ (3 : Int) ∧ (3 : Int) ≤ 8 by omega) (show 0 ≤ (m.1 8) ∧ (m.1 8) ≤ 4000 by omega)) (fun rr425 k426 => ?_)
                  obtain ⟨y427, y429, g428, g430, h431, rfl⟩ := k426
                  refine ⟨_, _, rfl, ?_⟩
                  refine T_nf2 (st' := []) (l' := [(7, (m.1 7)), (8, (m.1 8)), (9, (m.1 9)), (10, y427), (11, y429), (12, (m.1 12))]) (a' := [(46, (m.2 46)), (47, (m.2 47)), (48, (m.2 48)), (49, (m.2 49))]) [10, 11] [] rfl ⟨rfl, rfl, rfl, rfl, rfl, rfl, rfl, rfl, rfl, rfl, rfl, rfl, rfl, rfl, rfl, trivial⟩ ⟨rfl, rfl, rfl, rfl, rfl, rfl, rfl, rfl, trivial⟩ rfl rfl (by decide) (by decide) ?_
                  replace h431 : (0 < (m333.1 10) → y427 = (m333.1 10) ∧ y429 = (m333.1 11)) ∧ ((m333.1 10) ≤ 0 → y427 = (3 : Int) ∧ y429 = (m.1 8)) := h431
                  have hf432 : 1 ≤ y427 := by omega
                  clear q336_10 q336_11 h415 g421a g421b h422 h424 h431
                  exact J97_96 v332 (mO m [(7, (m.1 7)), (8, (m.1 8)), (9, (m.1 9)), (10, y427), (11, y429), (12, (m.1 12))] [(46, (m.2 46)), (47, (m.2 47)), (48, (m.2 48)), (49, (m.2 49))]) (r32 (by omega) (by omega)) (Ty_mO hT rfl rfl ⟨f7, f8, f9, g428, g430, f12, trivial⟩ ⟨(hT.2.1 46), (hT.2.1 47), (hT.2.1 48), (hT.2.1 49), trivial⟩) (show 0 ≤ v332 by omega) (show v332 ≤ 2147483646 by omega) (show 1 ≤ y427 by omega) (show y427 ≤ 8 by omega) (show ∀ k, (m.2 47) k + (m.2 48) k ≤ 4000 by first | exact hPA | (intro k; have := hPA0 k; have h7 := hLx0 hf0; unfold upI; split <;> omega)) (show 1 ≤ ((4 * a) + ((m.2 46) a)) ∧ ((4 * a) + ((m.2 46) a)) ≤ 2147483647 by omega)
            · skip
              clear c339
              have hf433 : 1 ≤ (m333.1 10) := by omega
              refine T_ld 58 (.int (i32 v332)) rfl (fun _ => rfl) ?_
              refine T_ld 59 (.int (i32 ((4 * a) + ((m.2 46) a)))) rfl (fun _ => rfl) ?_
              refine T_icmp 103 62 rfl rfl rfl (r32 (by omega) (by omega)) (r32 (by omega) (by omega)) (fun (h434 : (4 * a) + ((m.2 46) a) ≤ v332) => ?_) (fun (h434 : ¬ ((4 * a) + ((m.2 46) a) ≤ v332)) => ?_)
              · skip
                refine T_gf 107 (.int (i32 (m333.1 10))) rfl rfl rfl rfl rfl rfl ?_
                refine T_if 111 110 rfl rfl rfl (r32 (by omega) (by omega)) (fun (h435 : (m333.1 10) ≤ 0) => by exfalso; omega) (fun (h435 : ¬ ((m333.1 10) ≤ 0)) => ?_)
                refine T_ret rfl (fun _ => rfl) ?_
                exact ⟨(mO m [(7, (m.1 7)), (8, (m.1 8)), (9, (m.1 9)), (10, (m333.1 10)), (11, (m333.1 11)), (12, (m.1 12))] [(46, (m.2 46)), (47, (m.2 47)), (48, (m.2 48)), (49, (m.2 49))]), (Ty_mO hT rfl rfl ⟨f7, f8, f9, (q336.1 10), (q336.1 11), f12, trivial⟩ ⟨(hT.2.1 46), (hT.2.1 47), (hT.2.1 48), (hT.2.1 49), trivial⟩), (show (m333.1 10) = 0 → (m.1 10) = 0 by omega), (show LxP (m.1 7) (m.1 8) (m.1 9) (m.1 6) (m333.1 10) by first | (first | exact hLx | exact (fun _ => hLx (by omega)) | (intro h9; exfalso; omega)) | (exfalso; omega)), (show ∀ k, (m.2 47) k + (m.2 48) k ≤ 4000 by first | (first | exact hPA | (intro k; have := hPA0 k; have h7 := hLx0 hf0; unfold upI; split <;> omega)) | (exfalso; omega)), (fun (h : (m333.1 10) = 0) => absurd h (by omega)), rfl⟩
              · skip
                refine T_gf 66 (.int (i32 (m333.1 10))) rfl rfl rfl rfl rfl rfl ?_
                refine T_if 103 69 rfl rfl rfl (r32 (by omega) (by omega)) (fun (h436 : (m333.1 10) ≠ 0) => ?_) (fun (h436 : ¬ ((m333.1 10) ≠ 0)) => by exfalso; omega)
                refine T_gf 107 (.int (i32 (m333.1 10))) rfl rfl rfl rfl rfl rfl ?_
                refine T_if 111 110 rfl rfl rfl (r32 (by omega) (by omega)) (fun (h437 : (m333.1 10) ≤ 0) => by exfalso; omega) (fun (h437 : ¬ ((m333.1 10) ≤ 0)) => ?_)
                refine T_ret rfl (fun _ => rfl) ?_
                exact ⟨(mO m [(7, (m.1 7)), (8, (m.1 8)), (9, (m.1 9)), (10, (m333.1 10)), (11, (m333.1 11)), (12, (m.1 12))] [(46, (m.2 46)), (47, (m.2 47)), (48, (m.2 48)), (49, (m.2 49))]), (Ty_mO hT rfl rfl ⟨f7, f8, f9, (q336.1 10), (q336.1 11), f12, trivial⟩ ⟨(hT.2.1 46), (hT.2.1 47), (hT.2.1 48), (hT.2.1 49), trivial⟩), (show (m333.1 10) = 0 → (m.1 10) = 0 by omega), (show LxP (m.1 7) (m.1 8) (m.1 9) (m.1 6) (m333.1 10) by first | (first | exact hLx | exact (fun _ => hLx (by omega)) | (intro h9; exfalso; omega)) | (exfalso; omega)), (show ∀ k, (m.2 47) k + (m.2 48) k ≤ 4000 by first | (first | exact hPA | (intro k; have := hPA0 k; have h7 := hLx0 hf0; unfold upI; split <;> omega)) | (exfalso; omega)), (fun (h : (m333.1 10) = 0) => absurd h (by omega)), rfl⟩
        refine Tm_lv (a := [(0, .ref 189), (1, .int (i32 a)), (2, .int (i32 ((4 * a) + ((m.2 46) a)))), (3, .int (i32 (4 * a)))]) rfl rfl ⟨rfl, rfl, rfl, rfl, trivial⟩ ?_
        exact L57_334 ((((4 * a) + ((m.2 46) a)) - (4 * a) : Int) + 1).toNat (4 * a) (mO m [(7, (m.1 7)), (8, (m.1 8)), (9, (m.1 9)), (10, y326), (11, y328), (12, (m.1 12))] [(46, (m.2 46)), (47, (m.2 47)), (48, (m.2 48)), (49, (m.2 49))]) (r32 (by omega) (by omega)) (Ty_mO hT rfl rfl ⟨f7, f8, f9, g327, g329, f12, trivial⟩ ⟨(hT.2.1 46), (hT.2.1 47), (hT.2.1 48), (hT.2.1 49), trivial⟩) (show 0 ≤ (4 * a) by omega) (show (4 * a) ≤ (4 * a) + ((m.2 46) a) by omega) (fun (h : y326 = 0) => absurd h (by omega)) (show ((4 * a) + ((m.2 46) a)) - (4 * a) < ((((((4 * a) + ((m.2 46) a)) - (4 * a) : Int) + 1).toNat : Nat) : Int) by omega)
    · skip
      refine T_ld 28 (.ref 189) rfl (fun _ => rfl) ?_
      refine T_call 31 226 [.ref 189] [] rfl (fun _ => rfl) rfl (c_bad w (mO m [(7, (m.1 7)), (8, (m.1 8)), (9, (m.1 9)), (10, (m.1 10)), (11, (m.1 11)), (12, (m.1 12))] [(46, (m.2 46)), (47, (m.2 47)), (48, (m.2 48)), (49, (m.2 49))]) c N D (by omega) (Ty_mO hT rfl rfl ⟨f7, f8, f9, f10, f11, f12, trivial⟩ ⟨(hT.2.1 46), (hT.2.1 47), (hT.2.1 48), (hT.2.1 49), trivial⟩) ) (fun rr438 k439 => ?_)
      obtain ⟨y440, y442, g441, g443, h444, rfl⟩ := k439
      refine ⟨_, _, rfl, ?_⟩
      refine T_nf2 (st' := []) (l' := [(7, (m.1 7)), (8, (m.1 8)), (9, (m.1 9)), (10, y440), (11, y442), (12, (m.1 12))]) (a' := [(46, (m.2 46)), (47, (m.2 47)), (48, (m.2 48)), (49, (m.2 49))]) [10, 11] [] rfl ⟨rfl, rfl, rfl, rfl, rfl, rfl, rfl, rfl, rfl, rfl, rfl, rfl, rfl, rfl, rfl, trivial⟩ ⟨rfl, rfl, rfl, rfl, rfl, rfl, rfl, rfl, trivial⟩ rfl rfl (by decide) (by decide) ?_
      replace h444 : (0 < (m.1 10) → y440 = (m.1 10) ∧ y442 = (m.1 11)) ∧ ((m.1 10) ≤ 0 → y440 = 1 ∧ y442 = (m.1 8)) := h444
      have hf445 : 1 ≤ y440 := by omega
      refine T_goto 53 rfl (fun _ => rfl) ?_
      refine T_ld 54 (.int (i32 4)) rfl (fun _ => rfl) ?_
      refine T_ld 55 (.int (i32 a)) rfl (fun _ => rfl) ?_
      refine T_imul 56 rfl rfl ?_
      refine T_sto 57 [(3, .int (i32 (4 * a))), (2, .int (i32 ((4 * a) + ((m.2 46) a)))), (0, .ref 189), (1, .int (i32 a))] rfl (fun _ => rfl) ?_
      have L57_448 : ∀ (n : Nat) (v446 : Int) (m447 : mR), (R32 v446) → (Ty m447) → (0 ≤ v446) → (v446 ≤ (4 * a) + ((m.2 46) a)) → ((m447.1 10) = 0 → True) → ((4 * a) + ((m.2 46) a)) - v446 < (n : Int) → TT w D pm_268 (57, [(0, .ref 189), (1, .int (i32 a)), (2, .int (i32 ((4 * a) + ((m.2 46) a)))), (3, .int (i32 v446))], [], (mhp (mO m [(7, (m.1 7)), (8, (m.1 8)), (9, (m.1 9)), (10, (m447.1 10)), (11, (m447.1 11)), (12, (m.1 12))] [(46, (m.2 46)), (47, (m.2 47)), (48, (m.2 48)), (49, (m.2 49))]) c, N), 0, 0) (Q_takeParameter m c N a) := by
        intro n
        induction n with
        | zero =>
          intro v446 m447 q449 q450 ic451 ic452 c453 hmu
          obtain ⟨q449a, q449b⟩ := id q449
          have q450_10 : 0 ≤ m447.1 10 ∧ m447.1 10 ≤ 8 := q450.1 10
          have q450_11 : (-1) ≤ m447.1 11 ∧ m447.1 11 ≤ 4000 := q450.1 11
          exfalso
          omega
        | succ n ih =>
          intro v446 m447 q449 q450 ic451 ic452 c453 hmu
          obtain ⟨q449a, q449b⟩ := id q449
          have q450_10 : 0 ≤ m447.1 10 ∧ m447.1 10 ≤ 8 := q450.1 10
          have q450_11 : (-1) ≤ m447.1 11 ∧ m447.1 11 ≤ 4000 := q450.1 11
          have ih454 := ih
          by_cases hf455 : (m447.1 10) = 0
          · skip
            refine T_ld 58 (.int (i32 v446)) rfl (fun _ => rfl) ?_
            refine T_ld 59 (.int (i32 ((4 * a) + ((m.2 46) a)))) rfl (fun _ => rfl) ?_
            refine T_icmp 103 62 rfl rfl rfl (r32 (by omega) (by omega)) (r32 (by omega) (by omega)) (fun (h456 : (4 * a) + ((m.2 46) a) ≤ v446) => ?_) (fun (h456 : ¬ ((4 * a) + ((m.2 46) a) ≤ v446)) => ?_)
            · skip
              refine T_gf 107 (.int (i32 (m447.1 10))) rfl rfl rfl rfl rfl rfl ?_
              refine T_if 111 110 rfl rfl rfl (r32 (by omega) (by omega)) (fun (h457 : (m447.1 10) ≤ 0) => ?_) (fun (h457 : ¬ ((m447.1 10) ≤ 0)) => by exfalso; omega)
              refine T_gf 115 (.ref 217) rfl rfl rfl rfl rfl rfl ?_
              refine T_ld 116 (.int (i32 ((4 * a) + ((m.2 46) a)))) rfl (fun _ => rfl) ?_
              refine T_gf 120 (.int (i32 (m.1 8))) rfl rfl rfl rfl rfl rfl ?_
              have G458 : ∀ j, 0 ≤ (upI (m.2 47) ((4 * a) + ((m.2 46) a)) (m.1 8)) j ∧ (upI (m.2 47) ((4 * a) + ((m.2 46) a)) (m.1 8)) j ≤ 4000 := upI_rg (hT.2.1 47) ⟨by omega, by omega⟩
              refine T_iast (a' := [(46, (m.2 46)), (47, upI (m.2 47) ((4 * a) + ((m.2 46) a)) (m.1 8)), (48, (m.2 48)), (49, (m.2 49))]) 121 47 (m.2 47) rfl rfl rfl (by omega) (show ((4 * a) + ((m.2 46) a)) < (64 : Int) by omega) rfl rfl ?_
              refine T_gf 125 (.ref 218) rfl rfl rfl rfl rfl rfl ?_
              refine T_ld 126 (.int (i32 ((4 * a) + ((m.2 46) a)))) rfl (fun _ => rfl) ?_
              refine T_gf 130 (.int (i32 (m.1 9))) rfl rfl rfl rfl rfl rfl ?_
              have G459 : ∀ j, 0 ≤ (upI (m.2 48) ((4 * a) + ((m.2 46) a)) (m.1 9)) j ∧ (upI (m.2 48) ((4 * a) + ((m.2 46) a)) (m.1 9)) j ≤ 4000 := upI_rg (hT.2.1 48) ⟨by omega, by omega⟩
              refine T_iast (a' := [(46, (m.2 46)), (47, upI (m.2 47) ((4 * a) + ((m.2 46) a)) (m.1 8)), (48, upI (m.2 48) ((4 * a) + ((m.2 46) a)) (m.1 9)), (49, (m.2 49))]) 131 48 (m.2 48) rfl rfl rfl (by omega) (show ((4 * a) + ((m.2 46) a)) < (64 : Int) by omega) rfl rfl ?_
              refine T_ld 132 (.ref 189) rfl (fun _ => rfl) ?_
              refine T_call 135 212 [.ref 189] [] rfl (fun _ => rfl) rfl (c_next w (mO m [(7, (m.1 7)), (8, (m.1 8)), (9, (m.1 9)), (10, (m447.1 10)), (11, (m447.1 11)), (12, (m.1 12))] [(46, (m.2 46)), (47, upI (m.2 47) ((4 * a) + ((m.2 46) a)) (m.1 8)), (48, upI (m.2 48) ((4 * a) + ((m.2 46) a)) (m.1 9)), (49, (m.2 49))]) c N D (by omega) (Ty_mO hT rfl rfl ⟨f7, f8, f9, (q450.1 10), (q450.1 11), f12, trivial⟩ ⟨(hT.2.1 46), G458, G459, (hT.2.1 49), trivial⟩) (show (m447.1 10) = 0 → (m.1 8) + (m.1 9) ≤ (m.1 6) by first | omega | (intro h9; have h8 := hLx h9; omega))) (fun rr460 k461 => ?_)
              obtain ⟨y462, y464, y466, y468, y470, y472, g463, g465, g467, g469, g471, g473, h474, h475, h476, h477, rfl⟩ := k461
              refine ⟨_, _, rfl, ?_⟩
              refine T_nf2 (st' := []) (l' := [(7, y462), (8, y464), (9, y466), (10, y468), (11, y470), (12, y472)]) (a' := [(46, (m.2 46)), (47, upI (m.2 47) ((4 * a) + ((m.2 46) a)) (m.1 8)), (48, upI (m.2 48) ((4 * a) + ((m.2 46) a)) (m.1 9)), (49, (m.2 49))]) [7, 8, 9, 10, 11, 12] [] rfl ⟨rfl, rfl, rfl, rfl, rfl, rfl, rfl, rfl, rfl, rfl, rfl, rfl, trivial⟩ ⟨rfl, rfl, rfl, rfl, rfl, rfl, rfl, rfl, trivial⟩ rfl rfl (by decide) (by decide) ?_
              by_cases hf478 : y468 = 0
              · skip
                subst hf478
                replace h474 : LxP y462 y464 y466 (m.1 6) (0 : Int) := h474
                have hLx := h474
                replace h475 : (m447.1 10) = 0 := h475 rfl
                replace h476 : (m.1 8) ≤ y464 := h476
                replace h477 : (m.1 8) + (m.1 9) ≤ y464 := h477 rfl
                have u479 : (m.1 8) + 1 ≤ y464 := by omega
                clear g441 g443 hf445 h444 q450_10 q450_11 h457 g469 h475
                refine T_ld 136 (.ref 189) rfl (fun _ => rfl) ?_
                refine T_ld 138 (.int (i32 58)) rfl (fun _ => rfl) ?_
                refine T_call 141 232 [.ref 189, .int (i32 58)] [] rfl (fun _ => rfl) rfl (c_need w (mO m [(7, y462), (8, y464), (9, y466), (10, 0), (11, y470), (12, y472)] [(46, (m.2 46)), (47, upI (m.2 47) ((4 * a) + ((m.2 46) a)) (m.1 8)), (48, upI (m.2 48) ((4 * a) + ((m.2 46) a)) (m.1 9)), (49, (m.2 49))]) c N D (by omega) (Ty_mO hT rfl rfl ⟨g463, g465, g467, ⟨(by omega : (0 : Int) ≤ 0), (by omega : (0 : Int) ≤ 8)⟩, g471, g473, trivial⟩ ⟨(hT.2.1 46), G458, G459, (hT.2.1 49), trivial⟩) 58 ⟨by decide, by decide⟩ (show 1 ≤ (58 : Int) by omega) (show LxP y462 y464 y466 (m.1 6) (0 : Int) by first | exact hLx | (intro h9; exfalso; omega) | (intro h9; have h8 := hLx (by omega); omega))) (fun rr480 k481 => ?_)
                obtain ⟨y482, y484, y486, y488, y490, y492, g483, g485, g487, g489, g491, g493, h494, h495, h496, h497, rfl⟩ := k481
                refine ⟨_, _, rfl, ?_⟩
                refine T_nf2 (st' := []) (l' := [(7, y482), (8, y484), (9, y486), (10, y488), (11, y490), (12, y492)]) (a' := [(46, (m.2 46)), (47, upI (m.2 47) ((4 * a) + ((m.2 46) a)) (m.1 8)), (48, upI (m.2 48) ((4 * a) + ((m.2 46) a)) (m.1 9)), (49, (m.2 49))]) [7, 8, 9, 10, 11, 12] [] rfl ⟨rfl, rfl, rfl, rfl, rfl, rfl, rfl, rfl, rfl, rfl, rfl, rfl, trivial⟩ ⟨rfl, rfl, rfl, rfl, rfl, rfl, rfl, rfl, trivial⟩ rfl rfl (by decide) (by decide) ?_
                by_cases hf498 : y488 = 0
                · skip
                  subst hf498
                  replace h494 : LxP y482 y484 y486 (m.1 6) (0 : Int) := h494
                  have hLx := h494
                  replace h495 : (0 : Int) = 0 ∧ y462 = (58 : Int) := h495 rfl
                  replace h496 : y464 ≤ y484 := h496
                  replace h497 : y464 + y466 ≤ y484 := h497 rfl
                  have u499 : (m.1 8) + 1 ≤ y484 := by omega
                  clear g463 g465 g467 g471 g473 h474 h476 h477 u479 g489 h495 h496 h497
                  refine T_gf 145 (.ref 219) rfl rfl rfl rfl rfl rfl ?_
                  refine T_ld 146 (.int (i32 ((4 * a) + ((m.2 46) a)))) rfl (fun _ => rfl) ?_
                  refine T_ld 147 (.ref 189) rfl (fun _ => rfl) ?_
                  refine T_ld 148 (.int (i32 1)) rfl (fun _ => rfl) ?_
                  refine T_ld 150 (.int (i32 64)) rfl (fun _ => rfl) ?_
                  refine T_call 153 234 [.ref 189, .int (i32 1), .int (i32 64)] [.int (i32 ((4 * a) + ((m.2 46) a))), .ref 219] rfl (fun _ => rfl) rfl (c_number w (mO m [(7, y482), (8, y484), (9, y486), (10, 0), (11, y490), (12, y492)] [(46, (m.2 46)), (47, upI (m.2 47) ((4 * a) + ((m.2 46) a)) (m.1 8)), (48, upI (m.2 48) ((4 * a) + ((m.2 46) a)) (m.1 9)), (49, (m.2 49))]) c N D (by omega) (Ty_mO hT rfl rfl ⟨g483, g485, g487, ⟨(by omega : (0 : Int) ≤ 0), (by omega : (0 : Int) ≤ 8)⟩, g491, g493, trivial⟩ ⟨(hT.2.1 46), G458, G459, (hT.2.1 49), trivial⟩) 1 64 ⟨by decide, by decide⟩ ⟨by decide, by decide⟩ (show LxP y482 y484 y486 (m.1 6) (0 : Int) by first | exact hLx | (intro h9; exfalso; omega) | (intro h9; have h8 := hLx (by omega); omega)) (show (1 : Int) ≤ (64 : Int) by omega)) (fun rr500 k501 => ?_)
                  obtain ⟨y502, y504, y506, y508, y510, y512, nu, g503, g505, g507, g509, g511, g513, g514, h515, h516, h517, h518, h519, h520, rfl⟩ := k501
                  refine ⟨_, _, rfl, ?_⟩
                  refine T_nf2 (st' := [.int (i32 nu), .int (i32 ((4 * a) + ((m.2 46) a))), .ref 219]) (l' := [(7, y502), (8, y504), (9, y506), (10, y508), (11, y510), (12, y512)]) (a' := [(46, (m.2 46)), (47, upI (m.2 47) ((4 * a) + ((m.2 46) a)) (m.1 8)), (48, upI (m.2 48) ((4 * a) + ((m.2 46) a)) (m.1 9)), (49, (m.2 49))]) [7, 8, 9, 10, 11, 12] [] rfl ⟨rfl, rfl, rfl, rfl, rfl, rfl, rfl, rfl, rfl, rfl, rfl, rfl, trivial⟩ ⟨rfl, rfl, rfl, rfl, rfl, rfl, rfl, rfl, trivial⟩ rfl rfl (by decide) (by decide) ?_
                  obtain ⟨g514a, g514b⟩ := g514
                  by_cases hf521 : y508 = 0
                  · skip
                    subst hf521
                    replace h515 : LxP y502 y504 y506 (m.1 6) (0 : Int) := h515
                    have hLx := h515
                    replace h516 : y484 ≤ y504 := h516
                    replace h517 : (0 : Int) = 0 ∧ y484 + y486 ≤ y504 := h517 rfl
                    replace h518 : y482 = 2 := h518 rfl
                    replace h519 : (1 : Int) ≤ nu ∧ nu ≤ (64 : Int) := h519
                    replace h520 : nu = y492 := h520 rfl
                    have u522 : (m.1 8) + 1 ≤ y504 := by omega
                    clear g483 g485 g487 g491 g493 h494 u499 g509 h516 h517 h518 h520
                    have G523 : ∀ j, 0 ≤ (upI (m.2 49) ((4 * a) + ((m.2 46) a)) nu) j ∧ (upI (m.2 49) ((4 * a) + ((m.2 46) a)) nu) j ≤ 64 := upI_rg (hT.2.1 49) ⟨by omega, by omega⟩
                    refine T_iast (a' := [(46, (m.2 46)), (47, upI (m.2 47) ((4 * a) + ((m.2 46) a)) (m.1 8)), (48, upI (m.2 48) ((4 * a) + ((m.2 46) a)) (m.1 9)), (49, upI (m.2 49) ((4 * a) + ((m.2 46) a)) nu)]) 154 49 (m.2 49) rfl rfl rfl (by omega) (show ((4 * a) + ((m.2 46) a)) < (64 : Int) by omega) rfl rfl ?_
                    refine T_gf 158 (.ref 216) rfl rfl rfl rfl rfl rfl ?_
                    refine T_ld 159 (.int (i32 a)) rfl (fun _ => rfl) ?_
                    refine T_dup2 160 rfl (fun _ => rfl) ?_
                    refine T_iald 161 46 (m.2 46) rfl rfl rfl (by omega) (show a < (16 : Int) by omega) rfl ?_
                    have e524 : 0 ≤ (m.2 46) a ∧ (m.2 46) a ≤ 4 := (hT.2.1 46) a
                    refine T_ld 162 (.int (i32 1)) rfl (fun _ => rfl) ?_
                    refine T_iadd 163 rfl rfl ?_
                    have G525 : ∀ j, 0 ≤ (upI (m.2 46) a (((m.2 46) a) + 1)) j ∧ (upI (m.2 46) a (((m.2 46) a) + 1)) j ≤ 4 := upI_rg (hT.2.1 46) ⟨by omega, by omega⟩
                    refine T_iast (a' := [(46, upI (m.2 46) a (((m.2 46) a) + 1)), (47, upI (m.2 47) ((4 * a) + ((m.2 46) a)) (m.1 8)), (48, upI (m.2 48) ((4 * a) + ((m.2 46) a)) (m.1 9)), (49, upI (m.2 49) ((4 * a) + ((m.2 46) a)) nu)]) 164 46 (m.2 46) rfl rfl rfl (by omega) (show a < (16 : Int) by omega) rfl rfl ?_
                    refine T_ret rfl (fun _ => rfl) ?_
                    exact ⟨(mO m [(7, y502), (8, y504), (9, y506), (10, 0), (11, y510), (12, y512)] [(46, upI (m.2 46) a (((m.2 46) a) + 1)), (47, upI (m.2 47) ((4 * a) + ((m.2 46) a)) (m.1 8)), (48, upI (m.2 48) ((4 * a) + ((m.2 46) a)) (m.1 9)), (49, upI (m.2 49) ((4 * a) + ((m.2 46) a)) nu)]), (Ty_mO hT rfl rfl ⟨g503, g505, g507, ⟨(by omega : (0 : Int) ≤ 0), (by omega : (0 : Int) ≤ 8)⟩, g511, g513, trivial⟩ ⟨G525, G458, G459, G523, trivial⟩), (show (0 : Int) = 0 → (m.1 10) = 0 by omega), (show LxP y502 y504 y506 (m.1 6) (0 : Int) by first | (first | exact hLx | exact (fun _ => hLx (by omega)) | (intro h9; exfalso; omega)) | (exfalso; omega)), (show ∀ k, (upI (m.2 47) ((4 * a) + ((m.2 46) a)) (m.1 8)) k + (upI (m.2 48) ((4 * a) + ((m.2 46) a)) (m.1 9)) k ≤ 4000 by first | (first | exact hPA | (intro k; have := hPA0 k; have h7 := hLx0 hf0; unfold upI; split <;> omega)) | (exfalso; omega)), (fun _ => (show (m.1 8) + 1 ≤ y504 by omega)), rfl⟩
                  · skip
                    replace h515 : LxP y502 y504 y506 (m.1 6) y508 := h515
                    have hLx := h515
                    replace h516 : y484 ≤ y504 := h516
                    clear h517
                    clear h518
                    replace h519 : (1 : Int) ≤ nu ∧ nu ≤ (64 : Int) := h519
                    clear h520
                    have hf526 : 1 ≤ y508 := by omega
                    clear g483 g485 g487 g491 g493 h494 u499 h516
                    exact J153_15 v446 nu (mO m [(7, y502), (8, y504), (9, y506), (10, y508), (11, y510), (12, y512)] [(46, (m.2 46)), (47, upI (m.2 47) ((4 * a) + ((m.2 46) a)) (m.1 8)), (48, upI (m.2 48) ((4 * a) + ((m.2 46) a)) (m.1 9)), (49, (m.2 49))]) (r32 (by omega) (by omega)) (r32 (by omega) (by omega)) (Ty_mO hT rfl rfl ⟨g503, g505, g507, g509, g511, g513, trivial⟩ ⟨(hT.2.1 46), G458, G459, (hT.2.1 49), trivial⟩) (show 0 ≤ v446 by omega) (show 1 ≤ nu by omega) (show nu ≤ 64 by omega) (show 1 ≤ y508 by omega) (show y508 ≤ 8 by omega) (show ∀ k, (upI (m.2 47) ((4 * a) + ((m.2 46) a)) (m.1 8)) k + (upI (m.2 48) ((4 * a) + ((m.2 46) a)) (m.1 9)) k ≤ 4000 by first | exact hPA | (intro k; have := hPA0 k; have h7 := hLx0 hf0; unfold upI; split <;> omega)) (show (m.2 46) a ≤ 3 by omega)
                · skip
                  replace h494 : LxP y482 y484 y486 (m.1 6) y488 := h494
                  have hLx := h494
                  clear h495
                  replace h496 : y464 ≤ y484 := h496
                  clear h497
                  have hf527 : 1 ≤ y488 := by omega
                  clear g463 g465 g467 g471 g473 h474 h476 h477 u479 h496
                  exact J141_32 v446 (mO m [(7, y482), (8, y484), (9, y486), (10, y488), (11, y490), (12, y492)] [(46, (m.2 46)), (47, upI (m.2 47) ((4 * a) + ((m.2 46) a)) (m.1 8)), (48, upI (m.2 48) ((4 * a) + ((m.2 46) a)) (m.1 9)), (49, (m.2 49))]) (r32 (by omega) (by omega)) (Ty_mO hT rfl rfl ⟨g483, g485, g487, g489, g491, g493, trivial⟩ ⟨(hT.2.1 46), G458, G459, (hT.2.1 49), trivial⟩) (show 0 ≤ v446 by omega) (show 1 ≤ y488 by omega) (show y488 ≤ 8 by omega) (show ∀ k, (upI (m.2 47) ((4 * a) + ((m.2 46) a)) (m.1 8)) k + (upI (m.2 48) ((4 * a) + ((m.2 46) a)) (m.1 9)) k ≤ 4000 by first | exact hPA | (intro k; have := hPA0 k; have h7 := hLx0 hf0; unfold upI; split <;> omega)) (show (m.2 46) a ≤ 3 by omega)
              · skip
                replace h474 : LxP y462 y464 y466 (m.1 6) y468 := h474
                have hLx := h474
                clear h475
                replace h476 : (m.1 8) ≤ y464 := h476
                clear h477
                have hf528 : 1 ≤ y468 := by omega
                clear g441 g443 hf445 h444 q450_10 q450_11 h457
                exact J135_65 v446 (mO m [(7, y462), (8, y464), (9, y466), (10, y468), (11, y470), (12, y472)] [(46, (m.2 46)), (47, upI (m.2 47) ((4 * a) + ((m.2 46) a)) (m.1 8)), (48, upI (m.2 48) ((4 * a) + ((m.2 46) a)) (m.1 9)), (49, (m.2 49))]) (r32 (by omega) (by omega)) (Ty_mO hT rfl rfl ⟨g463, g465, g467, g469, g471, g473, trivial⟩ ⟨(hT.2.1 46), G458, G459, (hT.2.1 49), trivial⟩) (show 0 ≤ v446 by omega) (show 1 ≤ y468 by omega) (show y468 ≤ 8 by omega) (show ∀ k, (upI (m.2 47) ((4 * a) + ((m.2 46) a)) (m.1 8)) k + (upI (m.2 48) ((4 * a) + ((m.2 46) a)) (m.1 9)) k ≤ 4000 by first | exact hPA | (intro k; have := hPA0 k; have h7 := hLx0 hf0; unfold upI; split <;> omega)) (show (m.2 46) a ≤ 3 by omega) (show (-2147483648) ≤ ((4 * a) + ((m.2 46) a)) ∧ ((4 * a) + ((m.2 46) a)) ≤ 2147483647 by omega)
            · skip
              refine T_gf 66 (.int (i32 (m447.1 10))) rfl rfl rfl rfl rfl rfl ?_
              refine T_if 103 69 rfl rfl rfl (r32 (by omega) (by omega)) (fun (h529 : (m447.1 10) ≠ 0) => by exfalso; omega) (fun (h529 : ¬ ((m447.1 10) ≠ 0)) => ?_)
              have hp3 := hPA v446
              refine T_ld 70 (.ref 189) rfl (fun _ => rfl) ?_
              refine T_gf 74 (.ref 217) rfl rfl rfl rfl rfl rfl ?_
              refine T_ld 75 (.int (i32 v446)) rfl (fun _ => rfl) ?_
              refine T_iald 76 47 (m.2 47) rfl rfl rfl (by omega) (show v446 < (64 : Int) by omega) rfl ?_
              have e530 : 0 ≤ (m.2 47) v446 ∧ (m.2 47) v446 ≤ 4000 := (hT.2.1 47) v446
              refine T_gf 80 (.ref 218) rfl rfl rfl rfl rfl rfl ?_
              refine T_ld 81 (.int (i32 v446)) rfl (fun _ => rfl) ?_
              refine T_iald 82 48 (m.2 48) rfl rfl rfl (by omega) (show v446 < (64 : Int) by omega) rfl ?_
              have e531 : 0 ≤ (m.2 48) v446 ∧ (m.2 48) v446 ≤ 4000 := (hT.2.1 48) v446
              refine T_call 85 230 [.ref 189, .int (i32 ((m.2 47) v446)), .int (i32 ((m.2 48) v446))] [] rfl (fun _ => rfl) rfl (c_isHere w (mO m [(7, (m.1 7)), (8, (m.1 8)), (9, (m.1 9)), (10, (m447.1 10)), (11, (m447.1 11)), (12, (m.1 12))] [(46, (m.2 46)), (47, (m.2 47)), (48, (m.2 48)), (49, (m.2 49))]) c N D (by omega) (Ty_mO hT rfl rfl ⟨f7, f8, f9, (q450.1 10), (q450.1 11), f12, trivial⟩ ⟨(hT.2.1 46), (hT.2.1 47), (hT.2.1 48), (hT.2.1 49), trivial⟩) ((m.2 47) v446) ((m.2 48) v446) (r32 (by omega) (by omega)) (r32 (by omega) (by omega)) (show 0 ≤ ((m.2 47) v446) by omega) (show 0 ≤ ((m.2 48) v446) by omega) (show ((m.2 47) v446) + ((m.2 48) v446) ≤ 4000 by omega) (show 1 ≤ (m.1 9) ∧ (m.1 8) + (m.1 9) ≤ (m.1 6) by first | omega | (have h8 := hLx (by omega); omega))) (fun rr532 k533 => ?_)
              obtain ⟨x534, g535, h536, rfl⟩ := k533
              refine ⟨_, _, rfl, ?_⟩
              refine T_nf2 (st' := [.int (i32 x534)]) (l' := [(7, (m.1 7)), (8, (m.1 8)), (9, (m.1 9)), (10, (m447.1 10)), (11, (m447.1 11)), (12, (m.1 12))]) (a' := [(46, (m.2 46)), (47, (m.2 47)), (48, (m.2 48)), (49, (m.2 49))]) [] [] rfl ⟨rfl, rfl, rfl, rfl, rfl, rfl, rfl, rfl, rfl, rfl, rfl, rfl, trivial⟩ ⟨rfl, rfl, rfl, rfl, rfl, rfl, rfl, rfl, trivial⟩ rfl rfl (by decide) (by decide) ?_
              obtain ⟨g535a, g535b⟩ := g535
              replace h536 : (x534 = 1 ∧ sameN (m.2 4) (m.1 8) (m.1 9) ((m.2 47) v446) ((m.2 48) v446)) ∨ (x534 = 0 ∧ ¬ sameN (m.2 4) (m.1 8) (m.1 9) ((m.2 47) v446) ((m.2 48) v446)) := h536
              have hh := h536
              have u537 : (m.1 8) ≤ (m.1 8) := by omega
              clear g441 g443 hf445 h444
              refine T_if 97 88 rfl rfl rfl (r32 (by omega) (by omega)) (fun (h538 : x534 = 0) => ?_) (fun (h538 : ¬ (x534 = 0)) => ?_)
              · skip
                refine T_iinc 100 [(3, .int (i32 (v446 + 1))), (0, .ref 189), (1, .int (i32 a)), (2, .int (i32 ((4 * a) + ((m.2 46) a))))] rfl rfl (by decide) rfl rfl ?_
                refine T_goto 57 rfl (fun _ => rfl) ?_
                refine Tm_lv (a := [(0, .ref 189), (1, .int (i32 a)), (2, .int (i32 ((4 * a) + ((m.2 46) a)))), (3, .int (i32 (v446 + 1)))]) rfl rfl ⟨rfl, rfl, rfl, rfl, trivial⟩ ?_
                exact ih454 (v446 + 1) (mO m [(7, (m.1 7)), (8, (m.1 8)), (9, (m.1 9)), (10, (m447.1 10)), (11, (m447.1 11)), (12, (m.1 12))] [(46, (m.2 46)), (47, (m.2 47)), (48, (m.2 48)), (49, (m.2 49))]) (r32 (by omega) (by omega)) (Ty_mO hT rfl rfl ⟨f7, f8, f9, (q450.1 10), (q450.1 11), f12, trivial⟩ ⟨(hT.2.1 46), (hT.2.1 47), (hT.2.1 48), (hT.2.1 49), trivial⟩) (show 0 ≤ (v446 + 1) by omega) (show (v446 + 1) ≤ (4 * a) + ((m.2 46) a) by omega) (fun _ => trivial) (show ((4 * a) + ((m.2 46) a)) - (v446 + 1) < (n : Int) by omega)
              · skip
                refine T_ld 89 (.ref 189) rfl (fun _ => rfl) ?_
                refine T_ld 90 (.int (i32 3)) rfl (fun _ => rfl) ?_
                refine T_gf 94 (.int (i32 (m.1 8))) rfl rfl rfl rfl rfl rfl ?_
                refine T_call 97 222 [.ref 189, .int (i32 3), .int (i32 (m.1 8))] [] rfl (fun _ => rfl) rfl (c_wrong w (mO m [(7, (m.1 7)), (8, (m.1 8)), (9, (m.1 9)), (10, (m447.1 10)), (11, (m447.1 11)), (12, (m.1 12))] [(46, (m.2 46)), (47, (m.2 47)), (48, (m.2 48)), (49, (m.2 49))]) c N D (by omega) (Ty_mO hT rfl rfl ⟨f7, f8, f9, (q450.1 10), (q450.1 11), f12, trivial⟩ ⟨(hT.2.1 46), (hT.2.1 47), (hT.2.1 48), (hT.2.1 49), trivial⟩) 3 (m.1 8) ⟨by decide, by decide⟩ (r32 (by omega) (by omega)) (show 1 ≤ (3 : Int) ∧ (3 : Int) ≤ 8 by omega) (show 0 ≤ (m.1 8) ∧ (m.1 8) ≤ 4000 by omega)) (fun rr539 k540 => ?_)
                obtain ⟨y541, y543, g542, g544, h545, rfl⟩ := k540
                refine ⟨_, _, rfl, ?_⟩
                refine T_nf2 (st' := []) (l' := [(7, (m.1 7)), (8, (m.1 8)), (9, (m.1 9)), (10, y541), (11, y543), (12, (m.1 12))]) (a' := [(46, (m.2 46)), (47, (m.2 47)), (48, (m.2 48)), (49, (m.2 49))]) [10, 11] [] rfl ⟨rfl, rfl, rfl, rfl, rfl, rfl, rfl, rfl, rfl, rfl, rfl, rfl, rfl, rfl, rfl, trivial⟩ ⟨rfl, rfl, rfl, rfl, rfl, rfl, rfl, rfl, trivial⟩ rfl rfl (by decide) (by decide) ?_
                replace h545 : (0 < (m447.1 10) → y541 = (m447.1 10) ∧ y543 = (m447.1 11)) ∧ ((m447.1 10) ≤ 0 → y541 = (3 : Int) ∧ y543 = (m.1 8)) := h545
                have hf546 : 1 ≤ y541 := by omega
                clear q450_10 q450_11 h529 g535a g535b h536 h538 h545
                exact J97_96 v446 (mO m [(7, (m.1 7)), (8, (m.1 8)), (9, (m.1 9)), (10, y541), (11, y543), (12, (m.1 12))] [(46, (m.2 46)), (47, (m.2 47)), (48, (m.2 48)), (49, (m.2 49))]) (r32 (by omega) (by omega)) (Ty_mO hT rfl rfl ⟨f7, f8, f9, g542, g544, f12, trivial⟩ ⟨(hT.2.1 46), (hT.2.1 47), (hT.2.1 48), (hT.2.1 49), trivial⟩) (show 0 ≤ v446 by omega) (show v446 ≤ 2147483646 by omega) (show 1 ≤ y541 by omega) (show y541 ≤ 8 by omega) (show ∀ k, (m.2 47) k + (m.2 48) k ≤ 4000 by first | exact hPA | (intro k; have := hPA0 k; have h7 := hLx0 hf0; unfold upI; split <;> omega)) (show 1 ≤ ((4 * a) + ((m.2 46) a)) ∧ ((4 * a) + ((m.2 46) a)) ≤ 2147483647 by omega)
          · skip
            clear c453
            have hf547 : 1 ≤ (m447.1 10) := by omega
            refine T_ld 58 (.int (i32 v446)) rfl (fun _ => rfl) ?_
            refine T_ld 59 (.int (i32 ((4 * a) + ((m.2 46) a)))) rfl (fun _ => rfl) ?_
            refine T_icmp 103 62 rfl rfl rfl (r32 (by omega) (by omega)) (r32 (by omega) (by omega)) (fun (h548 : (4 * a) + ((m.2 46) a) ≤ v446) => ?_) (fun (h548 : ¬ ((4 * a) + ((m.2 46) a) ≤ v446)) => ?_)
            · skip
              refine T_gf 107 (.int (i32 (m447.1 10))) rfl rfl rfl rfl rfl rfl ?_
              refine T_if 111 110 rfl rfl rfl (r32 (by omega) (by omega)) (fun (h549 : (m447.1 10) ≤ 0) => by exfalso; omega) (fun (h549 : ¬ ((m447.1 10) ≤ 0)) => ?_)
              refine T_ret rfl (fun _ => rfl) ?_
              exact ⟨(mO m [(7, (m.1 7)), (8, (m.1 8)), (9, (m.1 9)), (10, (m447.1 10)), (11, (m447.1 11)), (12, (m.1 12))] [(46, (m.2 46)), (47, (m.2 47)), (48, (m.2 48)), (49, (m.2 49))]), (Ty_mO hT rfl rfl ⟨f7, f8, f9, (q450.1 10), (q450.1 11), f12, trivial⟩ ⟨(hT.2.1 46), (hT.2.1 47), (hT.2.1 48), (hT.2.1 49), trivial⟩), (show (m447.1 10) = 0 → (m.1 10) = 0 by omega), (show LxP (m.1 7) (m.1 8) (m.1 9) (m.1 6) (m447.1 10) by first | (first | exact hLx | exact (fun _ => hLx (by omega)) | (intro h9; exfalso; omega)) | (exfalso; omega)), (show ∀ k, (m.2 47) k + (m.2 48) k ≤ 4000 by first | (first | exact hPA | (intro k; have := hPA0 k; have h7 := hLx0 hf0; unfold upI; split <;> omega)) | (exfalso; omega)), (fun (h : (m447.1 10) = 0) => absurd h (by omega)), rfl⟩
            · skip
              refine T_gf 66 (.int (i32 (m447.1 10))) rfl rfl rfl rfl rfl rfl ?_
              refine T_if 103 69 rfl rfl rfl (r32 (by omega) (by omega)) (fun (h550 : (m447.1 10) ≠ 0) => ?_) (fun (h550 : ¬ ((m447.1 10) ≠ 0)) => by exfalso; omega)
              refine T_gf 107 (.int (i32 (m447.1 10))) rfl rfl rfl rfl rfl rfl ?_
              refine T_if 111 110 rfl rfl rfl (r32 (by omega) (by omega)) (fun (h551 : (m447.1 10) ≤ 0) => by exfalso; omega) (fun (h551 : ¬ ((m447.1 10) ≤ 0)) => ?_)
              refine T_ret rfl (fun _ => rfl) ?_
              exact ⟨(mO m [(7, (m.1 7)), (8, (m.1 8)), (9, (m.1 9)), (10, (m447.1 10)), (11, (m447.1 11)), (12, (m.1 12))] [(46, (m.2 46)), (47, (m.2 47)), (48, (m.2 48)), (49, (m.2 49))]), (Ty_mO hT rfl rfl ⟨f7, f8, f9, (q450.1 10), (q450.1 11), f12, trivial⟩ ⟨(hT.2.1 46), (hT.2.1 47), (hT.2.1 48), (hT.2.1 49), trivial⟩), (show (m447.1 10) = 0 → (m.1 10) = 0 by omega), (show LxP (m.1 7) (m.1 8) (m.1 9) (m.1 6) (m447.1 10) by first | (first | exact hLx | exact (fun _ => hLx (by omega)) | (intro h9; exfalso; omega)) | (exfalso; omega)), (show ∀ k, (m.2 47) k + (m.2 48) k ≤ 4000 by first | (first | exact hPA | (intro k; have := hPA0 k; have h7 := hLx0 hf0; unfold upI; split <;> omega)) | (exfalso; omega)), (fun (h : (m447.1 10) = 0) => absurd h (by omega)), rfl⟩
      refine Tm_lv (a := [(0, .ref 189), (1, .int (i32 a)), (2, .int (i32 ((4 * a) + ((m.2 46) a)))), (3, .int (i32 (4 * a)))]) rfl rfl ⟨rfl, rfl, rfl, rfl, trivial⟩ ?_
      exact L57_448 ((((4 * a) + ((m.2 46) a)) - (4 * a) : Int) + 1).toNat (4 * a) (mO m [(7, (m.1 7)), (8, (m.1 8)), (9, (m.1 9)), (10, y440), (11, y442), (12, (m.1 12))] [(46, (m.2 46)), (47, (m.2 47)), (48, (m.2 48)), (49, (m.2 49))]) (r32 (by omega) (by omega)) (Ty_mO hT rfl rfl ⟨f7, f8, f9, g441, g443, f12, trivial⟩ ⟨(hT.2.1 46), (hT.2.1 47), (hT.2.1 48), (hT.2.1 49), trivial⟩) (show 0 ≤ (4 * a) by omega) (show (4 * a) ≤ (4 * a) + ((m.2 46) a) by omega) (fun (h : y440 = 0) => absurd h (by omega)) (show ((4 * a) + ((m.2 46) a)) - (4 * a) < ((((((4 * a) + ((m.2 46) a)) - (4 * a) : Int) + 1).toNat : Nat) : Int) by omega)
  · skip
    clear hC
    refine T_gf 4 (.int (i32 (m.1 10))) rfl rfl rfl rfl rfl rfl ?_
    refine T_if 8 7 rfl rfl rfl (r32 (by omega) (by omega)) (fun (h552 : (m.1 10) ≤ 0) => by exfalso; omega) (fun (h552 : ¬ ((m.1 10) ≤ 0)) => ?_)
    refine T_ret rfl (fun _ => rfl) ?_
    exact ⟨(mO m [(7, (m.1 7)), (8, (m.1 8)), (9, (m.1 9)), (10, (m.1 10)), (11, (m.1 11)), (12, (m.1 12))] [(46, (m.2 46)), (47, (m.2 47)), (48, (m.2 48)), (49, (m.2 49))]), (Ty_mO hT rfl rfl ⟨f7, f8, f9, f10, f11, f12, trivial⟩ ⟨(hT.2.1 46), (hT.2.1 47), (hT.2.1 48), (hT.2.1 49), trivial⟩), (show (m.1 10) = 0 → (m.1 10) = 0 by omega), (show LxP (m.1 7) (m.1 8) (m.1 9) (m.1 6) (m.1 10) by first | (first | exact hLx | exact (fun _ => hLx (by omega)) | (intro h9; exfalso; omega)) | (exfalso; omega)), (show ∀ k, (m.2 47) k + (m.2 48) k ≤ 4000 by first | (first | exact hPA | (intro k; have := hPA0 k; have h7 := hLx0 hf0; unfold upI; split <;> omega)) | (exfalso; omega)), (fun (h : (m.1 10) = 0) => absurd h (by omega)), rfl⟩
def Q_takeAction (m : mR) (c : Nat → Option am_C) (N : Nat) : ag_Re af_T → Prop := fun R => ∃ (M : mR), Ty M ∧ ((M.1 10) = 0 → (m.1 10) = 0) ∧ (LxP (M.1 7) (M.1 8) (M.1 9) (m.1 6) (M.1 10)) ∧ (∀ k, (M.2 14) k + (M.2 15) k ≤ 4000) ∧ (∀ k, (M.2 47) k + (M.2 48) k ≤ 4000) ∧ (M.1 10 = 0 → ((m.1 8) + 1 ≤ (M.1 8)) ∧ (PN (M.1 13) (m.1 19) (m.1 20) (m.1 21) (m.1 22) (m.1 23) (M.1 25) (m.1 26) (M.2 16) (M.2 17)) ∧ (CN (M.2 65) (M.2 67) (M.1 28)) ∧ ((m.1 28) ≤ (M.1 28)) ∧ (agr (m.2 65) (M.2 65) (m.1 28)) ∧ (TdP (M.2 65) (M.1 28) (m.1 22) (M.1 99) (M.2 101) (M.2 103) (M.2 105) (M.2 106) (M.2 107) (M.2 108)) ∧ (AcP (M.1 25) (M.1 99) (M.2 109) (M.2 50)) ∧ ((M.1 99) ≤ 12 * (M.1 25)) ∧ ((m.1 25) ≤ (M.1 25))) ∧ R = (.inl (none), (mhp (mO m [(7, (M.1 7)), (8, (M.1 8)), (9, (M.1 9)), (10, (M.1 10)), (11, (M.1 11)), (12, (M.1 12)), (13, (M.1 13)), (25, (M.1 25)), (28, (M.1 28)), (64, (M.1 64)), (69, (M.1 69)), (70, (M.1 70)), (71, (M.1 71)), (72, (M.1 72)), (73, (M.1 73)), (74, (M.1 74)), (75, (M.1 75)), (99, (M.1 99)), (100, (M.1 100))] [(14, (M.2 14)), (15, (M.2 15)), (16, (M.2 16)), (17, (M.2 17)), (46, (M.2 46)), (47, (M.2 47)), (48, (M.2 48)), (49, (M.2 49)), (50, (M.2 50)), (65, (M.2 65)), (66, (M.2 66)), (67, (M.2 67)), (68, (M.2 68)), (76, (M.2 76)), (77, (M.2 77)), (78, (M.2 78)), (79, (M.2 79)), (80, (M.2 80)), (81, (M.2 81)), (82, (M.2 82)), (83, (M.2 83)), (84, (M.2 84)), (85, (M.2 85)), (86, (M.2 86)), (87, (M.2 87)), (88, (M.2 88)), (89, (M.2 89)), (90, (M.2 90)), (91, (M.2 91)), (92, (M.2 92)), (101, (M.2 101)), (102, (M.2 102)), (103, (M.2 103)), (104, (M.2 104)), (105, (M.2 105)), (106, (M.2 106)), (107, (M.2 107)), (108, (M.2 108)), (109, (M.2 109))]) c, N), 0, 0)
set_option maxHeartbeats 8000000 in
theorem c_takeAction (w : wX) (m : mR) (c : Nat → Option am_C) (N D : Nat) (hD : 14 ≤ D) (hT : Ty m) (hLx0 : LxP (m.1 7) (m.1 8) (m.1 9) (m.1 6) (m.1 10)) (hNM0 : ∀ k, (m.2 14) k + (m.2 15) k ≤ 4000) (hFA0 : ∀ k, (m.2 31) k + (m.2 32) k ≤ 4000) (hPA0 : ∀ k, (m.2 47) k + (m.2 48) k ≤ 4000) (hC : m.1 10 = 0 → (PN (m.1 13) (m.1 19) (m.1 20) (m.1 21) (m.1 22) (m.1 23) (m.1 25) (m.1 26) (m.2 16) (m.2 17)) ∧ (CN (m.2 65) (m.2 67) (m.1 28)) ∧ (TdP (m.2 65) (m.1 28) (m.1 22) (m.1 99) (m.2 101) (m.2 103) (m.2 105) (m.2 106) (m.2 107) (m.2 108)) ∧ (AcP (m.1 25) (m.1 99) (m.2 109) (m.2 50)) ∧ ((m.1 99) ≤ 12 * (m.1 25)) ∧ ((m.1 7) ≠ 0)) : TC w D 267 [.ref 189] (mhp m c, N) (Q_takeAction m c N) := by
  obtain ⟨D, rfl⟩ : ∃ k, D = k + 1 := ⟨D - 1, by omega⟩
  have hLx := hLx0
  have hNM := hNM0
  have hFA := hFA0
  have hPA := hPA0
  have f7 : 0 ≤ m.1 7 ∧ m.1 7 ≤ 330 := hT.1 7
  have f8 : 0 ≤ m.1 8 ∧ m.1 8 ≤ 4000 := hT.1 8
  have f9 : 0 ≤ m.1 9 ∧ m.1 9 ≤ 4000 := hT.1 9
  have f10 : 0 ≤ m.1 10 ∧ m.1 10 ≤ 8 := hT.1 10
  have f11 : (-1) ≤ m.1 11 ∧ m.1 11 ≤ 4000 := hT.1 11
  have f12 : (-9223372036854775808) ≤ m.1 12 ∧ m.1 12 ≤ 9223372036854775807 := hT.1 12
  have f13 : 0 ≤ m.1 13 ∧ m.1 13 ≤ 120 := hT.1 13
  have f25 : 0 ≤ m.1 25 ∧ m.1 25 ≤ 16 := hT.1 25
  have f28 : 0 ≤ m.1 28 ∧ m.1 28 ≤ 800 := hT.1 28
  have f64 : (-1) ≤ m.1 64 ∧ m.1 64 ≤ 15 := hT.1 64
  have f69 : 0 ≤ m.1 69 ∧ m.1 69 ≤ 1024 := hT.1 69
  have f70 : 0 ≤ m.1 70 ∧ m.1 70 ≤ 4000 := hT.1 70
  have f71 : 0 ≤ m.1 71 ∧ m.1 71 ≤ 1 := hT.1 71
  have f72 : (-9223372036854775808) ≤ m.1 72 ∧ m.1 72 ≤ 9223372036854775807 := hT.1 72
  have f73 : 0 ≤ m.1 73 ∧ m.1 73 ≤ 60 := hT.1 73
  have f74 : 0 ≤ m.1 74 ∧ m.1 74 ≤ 24 := hT.1 74
  have f75 : 0 ≤ m.1 75 ∧ m.1 75 ≤ 3 := hT.1 75
  have f99 : 0 ≤ m.1 99 ∧ m.1 99 ≤ 240 := hT.1 99
  have f100 : 0 ≤ m.1 100 ∧ m.1 100 ≤ 64 := hT.1 100
  have f22 : 0 ≤ m.1 22 ∧ m.1 22 ≤ 8 := hT.1 22
  have f19 : 0 ≤ m.1 19 ∧ m.1 19 ≤ 12 := hT.1 19
  have f20 : 0 ≤ m.1 20 ∧ m.1 20 ≤ 12 := hT.1 20
  have f21 : 0 ≤ m.1 21 ∧ m.1 21 ≤ 16 := hT.1 21
  have f6 : 0 ≤ m.1 6 ∧ m.1 6 ≤ 4000 := hT.1 6
  have f23 : 0 ≤ m.1 23 ∧ m.1 23 ≤ 16 := hT.1 23
  have f26 : 0 ≤ m.1 26 ∧ m.1 26 ≤ 8 := hT.1 26
  refine Tc_of rfl ?_
  show TT w D pm_267 (0, [(0, .ref 189)], [], (mhp m c, N), 0, 0) (Q_takeAction m c N)
  rw [show (mhp m c, N) = (mhp (mO m [(7, (m.1 7)), (8, (m.1 8)), (9, (m.1 9)), (10, (m.1 10)), (11, (m.1 11)), (12, (m.1 12)), (13, (m.1 13)), (25, (m.1 25)), (28, (m.1 28)), (64, (m.1 64)), (69, (m.1 69)), (70, (m.1 70)), (71, (m.1 71)), (72, (m.1 72)), (73, (m.1 73)), (74, (m.1 74)), (75, (m.1 75)), (99, (m.1 99)), (100, (m.1 100))] [(14, (m.2 14)), (15, (m.2 15)), (16, (m.2 16)), (17, (m.2 17)), (46, (m.2 46)), (47, (m.2 47)), (48, (m.2 48)), (49, (m.2 49)), (50, (m.2 50)), (65, (m.2 65)), (66, (m.2 66)), (67, (m.2 67)), (68, (m.2 68)), (76, (m.2 76)), (77, (m.2 77)), (78, (m.2 78)), (79, (m.2 79)), (80, (m.2 80)), (81, (m.2 81)), (82, (m.2 82)), (83, (m.2 83)), (84, (m.2 84)), (85, (m.2 85)), (86, (m.2 86)), (87, (m.2 87)), (88, (m.2 88)), (89, (m.2 89)), (90, (m.2 90)), (91, (m.2 91)), (92, (m.2 92)), (101, (m.2 101)), (102, (m.2 102)), (103, (m.2 103)), (104, (m.2 104)), (105, (m.2 105)), (106, (m.2 106)), (107, (m.2 107)), (108, (m.2 108)), (109, (m.2 109))]) c, N) from congrArg (fun M => (mhp M c, N)) (mO_pad m [7, 8, 9, 10, 11, 12, 13, 25, 28, 64, 69, 70, 71, 72, 73, 74, 75, 99, 100] [14, 15, 16, 17, 46, 47, 48, 49, 50, 65, 66, 67, 68, 76, 77, 78, 79, 80, 81, 82, 83, 84, 85, 86, 87, 88, 89, 90, 91, 92, 101, 102, 103, 104, 105, 106, 107, 108, 109])]
  by_cases hf0 : m.1 10 = 0
  · skip
    obtain ⟨pPN, hCN, pTd, pAc, c1, c2⟩ := hC hf0
    have h7 := hLx (by omega)
    have hAgC := agr_r (m.2 65) (m.1 28)
    have hNM := hNM0
    have hPA := hPA0
    have hn := pPN.1
    refine T_ld 1 (.ref 189) rfl (fun _ => rfl) ?_
    refine T_call 4 212 [.ref 189] [] rfl (fun _ => rfl) rfl (c_next w (mO m [(7, (m.1 7)), (8, (m.1 8)), (9, (m.1 9)), (10, (m.1 10)), (11, (m.1 11)), (12, (m.1 12)), (13, (m.1 13)), (25, (m.1 25)), (28, (m.1 28)), (64, (m.1 64)), (69, (m.1 69)), (70, (m.1 70)), (71, (m.1 71)), (72, (m.1 72)), (73, (m.1 73)), (74, (m.1 74)), (75, (m.1 75)), (99, (m.1 99)), (100, (m.1 100))] [(14, (m.2 14)), (15, (m.2 15)), (16, (m.2 16)), (17, (m.2 17)), (46, (m.2 46)), (47, (m.2 47)), (48, (m.2 48)), (49, (m.2 49)), (50, (m.2 50)), (65, (m.2 65)), (66, (m.2 66)), (67, (m.2 67)), (68, (m.2 68)), (76, (m.2 76)), (77, (m.2 77)), (78, (m.2 78)), (79, (m.2 79)), (80, (m.2 80)), (81, (m.2 81)), (82, (m.2 82)), (83, (m.2 83)), (84, (m.2 84)), (85, (m.2 85)), (86, (m.2 86)), (87, (m.2 87)), (88, (m.2 88)), (89, (m.2 89)), (90, (m.2 90)), (91, (m.2 91)), (92, (m.2 92)), (101, (m.2 101)), (102, (m.2 102)), (103, (m.2 103)), (104, (m.2 104)), (105, (m.2 105)), (106, (m.2 106)), (107, (m.2 107)), (108, (m.2 108)), (109, (m.2 109))]) c N D (by omega) (Ty_mO hT rfl rfl ⟨f7, f8, f9, f10, f11, f12, f13, f25, f28, f64, f69, f70, f71, f72, f73, f74, f75, f99, f100, trivial⟩ ⟨(hT.2.1 14), (hT.2.1 15), (hT.2.1 16), (hT.2.1 17), (hT.2.1 46), (hT.2.1 47), (hT.2.1 48), (hT.2.1 49), (hT.2.1 50), (hT.2.1 65), (hT.2.1 66), (hT.2.1 67), (hT.2.1 68), (hT.2.1 76), (hT.2.1 77), (hT.2.1 78), (hT.2.1 79), (hT.2.1 80), (hT.2.1 81), (hT.2.1 82), (hT.2.1 83), (hT.2.1 84), (hT.2.1 85), (hT.2.1 86), (hT.2.1 87), (hT.2.1 88), (hT.2.1 89), (hT.2.1 90), (hT.2.1 91), (hT.2.1 92), (hT.2.1 101), (hT.2.1 102), (hT.2.1 103), (hT.2.1 104), (hT.2.1 105), (hT.2.1 106), (hT.2.1 107), (hT.2.1 108), (hT.2.1 109), trivial⟩) (show (m.1 10) = 0 → (m.1 8) + (m.1 9) ≤ (m.1 6) by first | omega | (intro h9; have h8 := hLx h9; omega))) (fun rr3 k4 => ?_)
    obtain ⟨y5, y7, y9, y11, y13, y15, g6, g8, g10, g12, g14, g16, h17, h18, h19, h20, rfl⟩ := k4
    refine ⟨_, _, rfl, ?_⟩
    refine T_nf2 (st' := []) (l' := [(7, y5), (8, y7), (9, y9), (10, y11), (11, y13), (12, y15), (13, (m.1 13)), (25, (m.1 25)), (28, (m.1 28)), (64, (m.1 64)), (69, (m.1 69)), (70, (m.1 70)), (71, (m.1 71)), (72, (m.1 72)), (73, (m.1 73)), (74, (m.1 74)), (75, (m.1 75)), (99, (m.1 99)), (100, (m.1 100))]) (a' := [(14, (m.2 14)), (15, (m.2 15)), (16, (m.2 16)), (17, (m.2 17)), (46, (m.2 46)), (47, (m.2 47)), (48, (m.2 48)), (49, (m.2 49)), (50, (m.2 50)), (65, (m.2 65)), (66, (m.2 66)), (67, (m.2 67)), (68, (m.2 68)), (76, (m.2 76)), (77, (m.2 77)), (78, (m.2 78)), (79, (m.2 79)), (80, (m.2 80)), (81, (m.2 81)), (82, (m.2 82)), (83, (m.2 83)), (84, (m.2 84)), (85, (m.2 85)), (86, (m.2 86)), (87, (m.2 87)), (88, (m.2 88)), (89, (m.2 89)), (90, (m.2 90)), (91, (m.2 91)), (92, (m.2 92)), (101, (m.2 101)), (102, (m.2 102)), (103, (m.2 103)), (104, (m.2 104)), (105, (m.2 105)), (106, (m.2 106)), (107, (m.2 107)), (108, (m.2 108)), (109, (m.2 109))]) [7, 8, 9, 10, 11, 12] [] rfl ⟨rfl, rfl, rfl, rfl, rfl, rfl, rfl, rfl, rfl, rfl, rfl, rfl, rfl, rfl, rfl, rfl, rfl, rfl, rfl, rfl, rfl, rfl, rfl, rfl, rfl, rfl, rfl, rfl, rfl, rfl, rfl, rfl, rfl, rfl, rfl, rfl, rfl, rfl, trivial⟩ ⟨rfl, rfl, rfl, rfl, rfl, rfl, rfl, rfl, rfl, rfl, rfl, rfl, rfl, rfl, rfl, rfl, rfl, rfl, rfl, rfl, rfl, rfl, rfl, rfl, rfl, rfl, rfl, rfl, rfl, rfl, rfl, rfl, rfl, rfl, rfl, rfl, rfl, rfl, rfl, rfl, rfl, rfl, rfl, rfl, rfl, rfl, rfl, rfl, rfl, rfl, rfl, rfl, rfl, rfl, rfl, rfl, rfl, rfl, rfl, rfl, rfl, rfl, rfl, rfl, rfl, rfl, rfl, rfl, rfl, rfl, rfl, rfl, rfl, rfl, rfl, rfl, rfl, rfl, trivial⟩ rfl rfl (by decide) (by decide) ?_
    by_cases hf21 : y11 = 0
    · skip
      subst hf21
      replace h17 : LxP y5 y7 y9 (m.1 6) (0 : Int) := h17
      have hLx := h17
      replace h18 : (m.1 10) = 0 := h18 rfl
      replace h19 : (m.1 8) ≤ y7 := h19
      replace h20 : (m.1 8) + (m.1 9) ≤ y7 := h20 rfl
      have u22 : (m.1 8) + 1 ≤ y7 := by omega
      have hAgC : agr (m.2 65) (m.2 65) (m.1 28) := by first | exact agr_r _ _ | exact hAgC | exact agr_t hAgC hAg (by omega)
      clear g12
      refine T_ld 5 (.ref 189) rfl (fun _ => rfl) ?_
      refine T_ld 7 (.int (i32 6)) rfl (fun _ => rfl) ?_
      refine T_gf 11 (.int (i32 (m.1 25))) rfl rfl rfl rfl rfl rfl ?_
      refine T_ld 13 (.int (i32 16)) rfl (fun _ => rfl) ?_
      refine T_call 16 225 [.ref 189, .int (i32 6), .int (i32 (m.1 25)), .int (i32 16)] [] rfl (fun _ => rfl) rfl (c_newName w (mO m [(7, y5), (8, y7), (9, y9), (10, 0), (11, y13), (12, y15), (13, (m.1 13)), (25, (m.1 25)), (28, (m.1 28)), (64, (m.1 64)), (69, (m.1 69)), (70, (m.1 70)), (71, (m.1 71)), (72, (m.1 72)), (73, (m.1 73)), (74, (m.1 74)), (75, (m.1 75)), (99, (m.1 99)), (100, (m.1 100))] [(14, (m.2 14)), (15, (m.2 15)), (16, (m.2 16)), (17, (m.2 17)), (46, (m.2 46)), (47, (m.2 47)), (48, (m.2 48)), (49, (m.2 49)), (50, (m.2 50)), (65, (m.2 65)), (66, (m.2 66)), (67, (m.2 67)), (68, (m.2 68)), (76, (m.2 76)), (77, (m.2 77)), (78, (m.2 78)), (79, (m.2 79)), (80, (m.2 80)), (81, (m.2 81)), (82, (m.2 82)), (83, (m.2 83)), (84, (m.2 84)), (85, (m.2 85)), (86, (m.2 86)), (87, (m.2 87)), (88, (m.2 88)), (89, (m.2 89)), (90, (m.2 90)), (91, (m.2 91)), (92, (m.2 92)), (101, (m.2 101)), (102, (m.2 102)), (103, (m.2 103)), (104, (m.2 104)), (105, (m.2 105)), (106, (m.2 106)), (107, (m.2 107)), (108, (m.2 108)), (109, (m.2 109))]) c N D (by omega) (Ty_mO hT rfl rfl ⟨g6, g8, g10, ⟨(by omega : (0 : Int) ≤ 0), (by omega : (0 : Int) ≤ 8)⟩, g14, g16, f13, f25, f28, f64, f69, f70, f71, f72, f73, f74, f75, f99, f100, trivial⟩ ⟨(hT.2.1 14), (hT.2.1 15), (hT.2.1 16), (hT.2.1 17), (hT.2.1 46), (hT.2.1 47), (hT.2.1 48), (hT.2.1 49), (hT.2.1 50), (hT.2.1 65), (hT.2.1 66), (hT.2.1 67), (hT.2.1 68), (hT.2.1 76), (hT.2.1 77), (hT.2.1 78), (hT.2.1 79), (hT.2.1 80), (hT.2.1 81), (hT.2.1 82), (hT.2.1 83), (hT.2.1 84), (hT.2.1 85), (hT.2.1 86), (hT.2.1 87), (hT.2.1 88), (hT.2.1 89), (hT.2.1 90), (hT.2.1 91), (hT.2.1 92), (hT.2.1 101), (hT.2.1 102), (hT.2.1 103), (hT.2.1 104), (hT.2.1 105), (hT.2.1 106), (hT.2.1 107), (hT.2.1 108), (hT.2.1 109), trivial⟩) 6 (m.1 25) 16 ⟨by decide, by decide⟩ (r32 (by omega) (by omega)) ⟨by decide, by decide⟩ (show LxP y5 y7 y9 (m.1 6) (0 : Int) by first | exact hLx | (intro h9; exfalso; omega) | (intro h9; have h8 := hLx (by omega); omega)) (show ∀ k, (m.2 14) k + (m.2 15) k ≤ 4000 by first | exact p1 | exact hNM) (show (0 : Int) = 0 → (m.1 13) ≤ 119 by omega) (show 1 ≤ (6 : Int) ∧ (6 : Int) ≤ 7 by omega) (show 0 ≤ (m.1 25) ∧ ((m.1 25) ≠ (16 : Int) → (m.1 25) ≤ 15) by omega)) (fun rr23 k24 => ?_)
      obtain ⟨y25, y27, y29, y31, y33, y35, y37, F39, F41, F43, F45, nn, g26, g28, g30, g32, g34, g36, g38, G40, G42, G44, G46, g47, h48, h49, h50, h51, h52, h53, h54, rfl⟩ := k24
      refine ⟨_, _, rfl, ?_⟩
      refine T_nf2 (st' := [.int (i32 nn)]) (l' := [(7, y25), (8, y27), (9, y29), (10, y31), (11, y33), (12, y35), (13, y37), (25, (m.1 25)), (28, (m.1 28)), (64, (m.1 64)), (69, (m.1 69)), (70, (m.1 70)), (71, (m.1 71)), (72, (m.1 72)), (73, (m.1 73)), (74, (m.1 74)), (75, (m.1 75)), (99, (m.1 99)), (100, (m.1 100))]) (a' := [(14, F39), (15, F41), (16, F43), (17, F45), (46, (m.2 46)), (47, (m.2 47)), (48, (m.2 48)), (49, (m.2 49)), (50, (m.2 50)), (65, (m.2 65)), (66, (m.2 66)), (67, (m.2 67)), (68, (m.2 68)), (76, (m.2 76)), (77, (m.2 77)), (78, (m.2 78)), (79, (m.2 79)), (80, (m.2 80)), (81, (m.2 81)), (82, (m.2 82)), (83, (m.2 83)), (84, (m.2 84)), (85, (m.2 85)), (86, (m.2 86)), (87, (m.2 87)), (88, (m.2 88)), (89, (m.2 89)), (90, (m.2 90)), (91, (m.2 91)), (92, (m.2 92)), (101, (m.2 101)), (102, (m.2 102)), (103, (m.2 103)), (104, (m.2 104)), (105, (m.2 105)), (106, (m.2 106)), (107, (m.2 107)), (108, (m.2 108)), (109, (m.2 109))]) [7, 8, 9, 10, 11, 12, 13] [14, 15, 16, 17] rfl ⟨rfl, rfl, rfl, rfl, rfl, rfl, rfl, rfl, rfl, rfl, rfl, rfl, rfl, rfl, rfl, rfl, rfl, rfl, rfl, rfl, rfl, rfl, rfl, rfl, rfl, rfl, rfl, rfl, rfl, rfl, rfl, rfl, rfl, rfl, rfl, rfl, rfl, rfl, trivial⟩ ⟨rfl, rfl, rfl, rfl, rfl, rfl, rfl, rfl, rfl, rfl, rfl, rfl, rfl, rfl, rfl, rfl, rfl, rfl, rfl, rfl, rfl, rfl, rfl, rfl, rfl, rfl, rfl, rfl, rfl, rfl, rfl, rfl, rfl, rfl, rfl, rfl, rfl, rfl, rfl, rfl, rfl, rfl, rfl, rfl, rfl, rfl, rfl, rfl, rfl, rfl, rfl, rfl, rfl, rfl, rfl, rfl, rfl, rfl, rfl, rfl, rfl, rfl, rfl, rfl, rfl, rfl, rfl, rfl, rfl, rfl, rfl, rfl, rfl, rfl, rfl, rfl, rfl, rfl, trivial⟩ rfl rfl (by decide) (by decide) ?_
      obtain ⟨g47a, g47b⟩ := g47
      by_cases hf55 : y31 = 0
      · skip
        subst hf55
        replace h48 : LxP y25 y27 y29 (m.1 6) (0 : Int) := h48
        have hLx := h48
        replace h49 : y7 ≤ y27 := h49
        replace h50 : (0 : Int) = 0 ∧ y7 + y9 ≤ y27 := h50 rfl
        replace h51 : nn = 1 ∧ y5 = 1 := h51 rfl
        replace h52 : nn = 1 → (m.1 25) ≠ (16 : Int) := h52
        replace h53 : ∀ k, F39 k + F41 k ≤ 4000 := h53
        have hNM := h53
        replace h54 : (nn = 1 ∧ (0 : Int) = 0 ∧ y37 = (m.1 13) + 1 ∧ F39 = upI (m.2 14) (m.1 13) y7 ∧ F41 = upI (m.2 15) (m.1 13) y9 ∧ F43 = upI (m.2 16) (m.1 13) (6 : Int) ∧ F45 = upI (m.2 17) (m.1 13) (m.1 25)) ∨ (nn = 0 ∧ 0 < (0 : Int) ∧ y37 = (m.1 13) ∧ F39 = (m.2 14) ∧ F41 = (m.2 15) ∧ F43 = (m.2 16) ∧ F45 = (m.2 17)) := h54
        have hN := h54
        have u56 : (m.1 8) + 1 ≤ y27 := by omega
        have hAgC : agr (m.2 65) (m.2 65) (m.1 28) := by first | exact agr_r _ _ | exact hAgC | exact agr_t hAgC hAg (by omega)
        clear g6 g8 g10 g14 g16 h17 h19 h20 u22 g32 h49 h50 h51 h54
        refine T_if 20 19 rfl rfl rfl (r32 (by omega) (by omega)) (fun (h57 : nn ≠ 0) => ?_) (fun (h57 : ¬ (nn ≠ 0)) => by exfalso; omega)
        have hlt : (m.1 25) ≤ 15 := by omega
        have hn7 : y37 = (m.1 13) + 1 ∧ F43 = upI (m.2 16) (m.1 13) 6 ∧ F45 = upI (m.2 17) (m.1 13) (m.1 25) := by
          rcases hN with ⟨e1, e2, e3, e4, e5, e6, e7⟩ | ⟨e1, e2⟩
          · exact ⟨e3, e6, e7⟩
          · omega
        have pPN : PN y37 (m.1 19) (m.1 20) (m.1 21) (m.1 22) (m.1 23) ((m.1 25) + 1) (m.1 26) F43 F45 := by
          rw [hn7.1, hn7.2.1, hn7.2.2]
          exact PN_6 pPN (by omega)
        refine T_gf 24 (.int (i32 (m.1 25))) rfl rfl rfl rfl rfl rfl ?_
        refine T_sto 25 [(1, .int (i32 (m.1 25))), (0, .ref 189)] rfl (fun _ => rfl) ?_
        refine T_ld 26 (.ref 189) rfl (fun _ => rfl) ?_
        refine T_ld 27 (.ref 189) rfl (fun _ => rfl) ?_
        refine T_gf1 30 (.int (i32 (m.1 25))) rfl rfl rfl rfl ?_
        refine T_ld 31 (.int (i32 1)) rfl (fun _ => rfl) ?_
        refine T_iadd 32 rfl rfl ?_
        refine T_pf (l' := [(7, y25), (8, y27), (9, y29), (10, 0), (11, y33), (12, y35), (13, y37), (25, (m.1 25) + 1), (28, (m.1 28)), (64, (m.1 64)), (69, (m.1 69)), (70, (m.1 70)), (71, (m.1 71)), (72, (m.1 72)), (73, (m.1 73)), (74, (m.1 74)), (75, (m.1 75)), (99, (m.1 99)), (100, (m.1 100))]) 35 ((m.1 25) + 1) rfl rfl rfl rfl rfl rfl ?_
        have g58 : 0 ≤ (m.1 25) + 1 ∧ (m.1 25) + 1 ≤ 16 := ⟨by omega, by omega⟩
        refine T_gf 39 (.ref 269) rfl rfl rfl rfl rfl rfl ?_
        refine T_ld 40 (.int (i32 (m.1 25))) rfl (fun _ => rfl) ?_
        refine T_gf 44 (.int (i32 (m.1 99))) rfl rfl rfl rfl rfl rfl ?_
        have G59 : ∀ j, 0 ≤ (upI (m.2 109) (m.1 25) (m.1 99)) j ∧ (upI (m.2 109) (m.1 25) (m.1 99)) j ≤ 192 := upI_rg (hT.2.1 109) ⟨by omega, by omega⟩
        refine T_iast (a' := [(14, F39), (15, F41), (16, F43), (17, F45), (46, (m.2 46)), (47, (m.2 47)), (48, (m.2 48)), (49, (m.2 49)), (50, (m.2 50)), (65, (m.2 65)), (66, (m.2 66)), (67, (m.2 67)), (68, (m.2 68)), (76, (m.2 76)), (77, (m.2 77)), (78, (m.2 78)), (79, (m.2 79)), (80, (m.2 80)), (81, (m.2 81)), (82, (m.2 82)), (83, (m.2 83)), (84, (m.2 84)), (85, (m.2 85)), (86, (m.2 86)), (87, (m.2 87)), (88, (m.2 88)), (89, (m.2 89)), (90, (m.2 90)), (91, (m.2 91)), (92, (m.2 92)), (101, (m.2 101)), (102, (m.2 102)), (103, (m.2 103)), (104, (m.2 104)), (105, (m.2 105)), (106, (m.2 106)), (107, (m.2 107)), (108, (m.2 108)), (109, upI (m.2 109) (m.1 25) (m.1 99))]) 45 109 (m.2 109) rfl rfl rfl (by omega) (show (m.1 25) < (16 : Int) by omega) rfl rfl ?_
        refine T_gf 49 (.ref 216) rfl rfl rfl rfl rfl rfl ?_
        refine T_ld 50 (.int (i32 (m.1 25))) rfl (fun _ => rfl) ?_
        refine T_ld 51 (.int (i32 0)) rfl (fun _ => rfl) ?_
        have G60 : ∀ j, 0 ≤ (upI (m.2 46) (m.1 25) 0) j ∧ (upI (m.2 46) (m.1 25) 0) j ≤ 4 := upI_rg (hT.2.1 46) ⟨by omega, by omega⟩
        refine T_iast (a' := [(14, F39), (15, F41), (16, F43), (17, F45), (46, upI (m.2 46) (m.1 25) 0), (47, (m.2 47)), (48, (m.2 48)), (49, (m.2 49)), (50, (m.2 50)), (65, (m.2 65)), (66, (m.2 66)), (67, (m.2 67)), (68, (m.2 68)), (76, (m.2 76)), (77, (m.2 77)), (78, (m.2 78)), (79, (m.2 79)), (80, (m.2 80)), (81, (m.2 81)), (82, (m.2 82)), (83, (m.2 83)), (84, (m.2 84)), (85, (m.2 85)), (86, (m.2 86)), (87, (m.2 87)), (88, (m.2 88)), (89, (m.2 89)), (90, (m.2 90)), (91, (m.2 91)), (92, (m.2 92)), (101, (m.2 101)), (102, (m.2 102)), (103, (m.2 103)), (104, (m.2 104)), (105, (m.2 105)), (106, (m.2 106)), (107, (m.2 107)), (108, (m.2 108)), (109, upI (m.2 109) (m.1 25) (m.1 99))]) 52 46 (m.2 46) rfl rfl rfl (by omega) (show (m.1 25) < (16 : Int) by omega) rfl rfl ?_
        refine T_gf 56 (.ref 220) rfl rfl rfl rfl rfl rfl ?_
        refine T_ld 57 (.int (i32 (m.1 25))) rfl (fun _ => rfl) ?_
        refine T_ld 58 (.int (i32 0)) rfl (fun _ => rfl) ?_
        have G61 : ∀ j, 0 ≤ (upI (m.2 50) (m.1 25) 0) j ∧ (upI (m.2 50) (m.1 25) 0) j ≤ 13 := upI_rg (hT.2.1 50) ⟨by omega, by omega⟩
        refine T_iast (a' := [(14, F39), (15, F41), (16, F43), (17, F45), (46, upI (m.2 46) (m.1 25) 0), (47, (m.2 47)), (48, (m.2 48)), (49, (m.2 49)), (50, upI (m.2 50) (m.1 25) 0), (65, (m.2 65)), (66, (m.2 66)), (67, (m.2 67)), (68, (m.2 68)), (76, (m.2 76)), (77, (m.2 77)), (78, (m.2 78)), (79, (m.2 79)), (80, (m.2 80)), (81, (m.2 81)), (82, (m.2 82)), (83, (m.2 83)), (84, (m.2 84)), (85, (m.2 85)), (86, (m.2 86)), (87, (m.2 87)), (88, (m.2 88)), (89, (m.2 89)), (90, (m.2 90)), (91, (m.2 91)), (92, (m.2 92)), (101, (m.2 101)), (102, (m.2 102)), (103, (m.2 103)), (104, (m.2 104)), (105, (m.2 105)), (106, (m.2 106)), (107, (m.2 107)), (108, (m.2 108)), (109, upI (m.2 109) (m.1 25) (m.1 99))]) 59 50 (m.2 50) rfl rfl rfl (by omega) (show (m.1 25) < (16 : Int) by omega) rfl rfl ?_
        refine T_ld 60 (.ref 189) rfl (fun _ => rfl) ?_
        refine T_ld 62 (.int (i32 40)) rfl (fun _ => rfl) ?_
        refine T_call 65 232 [.ref 189, .int (i32 40)] [] rfl (fun _ => rfl) rfl (c_need w (mO m [(7, y25), (8, y27), (9, y29), (10, 0), (11, y33), (12, y35), (13, y37), (25, (m.1 25) + 1), (28, (m.1 28)), (64, (m.1 64)), (69, (m.1 69)), (70, (m.1 70)), (71, (m.1 71)), (72, (m.1 72)), (73, (m.1 73)), (74, (m.1 74)), (75, (m.1 75)), (99, (m.1 99)), (100, (m.1 100))] [(14, F39), (15, F41), (16, F43), (17, F45), (46, upI (m.2 46) (m.1 25) 0), (47, (m.2 47)), (48, (m.2 48)), (49, (m.2 49)), (50, upI (m.2 50) (m.1 25) 0), (65, (m.2 65)), (66, (m.2 66)), (67, (m.2 67)), (68, (m.2 68)), (76, (m.2 76)), (77, (m.2 77)), (78, (m.2 78)), (79, (m.2 79)), (80, (m.2 80)), (81, (m.2 81)), (82, (m.2 82)), (83, (m.2 83)), (84, (m.2 84)), (85, (m.2 85)), (86, (m.2 86)), (87, (m.2 87)), (88, (m.2 88)), (89, (m.2 89)), (90, (m.2 90)), (91, (m.2 91)), (92, (m.2 92)), (101, (m.2 101)), (102, (m.2 102)), (103, (m.2 103)), (104, (m.2 104)), (105, (m.2 105)), (106, (m.2 106)), (107, (m.2 107)), (108, (m.2 108)), (109, upI (m.2 109) (m.1 25) (m.1 99))]) c N D (by omega) (Ty_mO hT rfl rfl ⟨g26, g28, g30, ⟨(by omega : (0 : Int) ≤ 0), (by omega : (0 : Int) ≤ 8)⟩, g34, g36, g38, g58, f28, f64, f69, f70, f71, f72, f73, f74, f75, f99, f100, trivial⟩ ⟨G40, G42, G44, G46, G60, (hT.2.1 47), (hT.2.1 48), (hT.2.1 49), G61, (hT.2.1 65), (hT.2.1 66), (hT.2.1 67), (hT.2.1 68), (hT.2.1 76), (hT.2.1 77), (hT.2.1 78), (hT.2.1 79), (hT.2.1 80), (hT.2.1 81), (hT.2.1 82), (hT.2.1 83), (hT.2.1 84), (hT.2.1 85), (hT.2.1 86), (hT.2.1 87), (hT.2.1 88), (hT.2.1 89), (hT.2.1 90), (hT.2.1 91), (hT.2.1 92), (hT.2.1 101), (hT.2.1 102), (hT.2.1 103), (hT.2.1 104), (hT.2.1 105), (hT.2.1 106), (hT.2.1 107), (hT.2.1 108), G59, trivial⟩) 40 ⟨by decide, by decide⟩ (show 1 ≤ (40 : Int) by omega) (show LxP y25 y27 y29 (m.1 6) (0 : Int) by first | exact hLx | (intro h9; exfalso; omega) | (intro h9; have h8 := hLx (by omega); omega))) (fun rr62 k63 => ?_)
        obtain ⟨y64, y66, y68, y70, y72, y74, g65, g67, g69, g71, g73, g75, h76, h77, h78, h79, rfl⟩ := k63
        refine ⟨_, _, rfl, ?_⟩
        refine T_nf2 (st' := []) (l' := [(7, y64), (8, y66), (9, y68), (10, y70), (11, y72), (12, y74), (13, y37), (25, (m.1 25) + 1), (28, (m.1 28)), (64, (m.1 64)), (69, (m.1 69)), (70, (m.1 70)), (71, (m.1 71)), (72, (m.1 72)), (73, (m.1 73)), (74, (m.1 74)), (75, (m.1 75)), (99, (m.1 99)), (100, (m.1 100))]) (a' := [(14, F39), (15, F41), (16, F43), (17, F45), (46, upI (m.2 46) (m.1 25) 0), (47, (m.2 47)), (48, (m.2 48)), (49, (m.2 49)), (50, upI (m.2 50) (m.1 25) 0), (65, (m.2 65)), (66, (m.2 66)), (67, (m.2 67)), (68, (m.2 68)), (76, (m.2 76)), (77, (m.2 77)), (78, (m.2 78)), (79, (m.2 79)), (80, (m.2 80)), (81, (m.2 81)), (82, (m.2 82)), (83, (m.2 83)), (84, (m.2 84)), (85, (m.2 85)), (86, (m.2 86)), (87, (m.2 87)), (88, (m.2 88)), (89, (m.2 89)), (90, (m.2 90)), (91, (m.2 91)), (92, (m.2 92)), (101, (m.2 101)), (102, (m.2 102)), (103, (m.2 103)), (104, (m.2 104)), (105, (m.2 105)), (106, (m.2 106)), (107, (m.2 107)), (108, (m.2 108)), (109, upI (m.2 109) (m.1 25) (m.1 99))]) [7, 8, 9, 10, 11, 12] [] rfl ⟨rfl, rfl, rfl, rfl, rfl, rfl, rfl, rfl, rfl, rfl, rfl, rfl, rfl, rfl, rfl, rfl, rfl, rfl, rfl, rfl, rfl, rfl, rfl, rfl, rfl, rfl, rfl, rfl, rfl, rfl, rfl, rfl, rfl, rfl, rfl, rfl, rfl, rfl, trivial⟩ ⟨rfl, rfl, rfl, rfl, rfl, rfl, rfl, rfl, rfl, rfl, rfl, rfl, rfl, rfl, rfl, rfl, rfl, rfl, rfl, rfl, rfl, rfl, rfl, rfl, rfl, rfl, rfl, rfl, rfl, rfl, rfl, rfl, rfl, rfl, rfl, rfl, rfl, rfl, rfl, rfl, rfl, rfl, rfl, rfl, rfl, rfl, rfl, rfl, rfl, rfl, rfl, rfl, rfl, rfl, rfl, rfl, rfl, rfl, rfl, rfl, rfl, rfl, rfl, rfl, rfl, rfl, rfl, rfl, rfl, rfl, rfl, rfl, rfl, rfl, rfl, rfl, rfl, rfl, trivial⟩ rfl rfl (by decide) (by decide) ?_
        by_cases hf80 : y70 = 0
        · skip
          subst hf80
          replace h76 : LxP y64 y66 y68 (m.1 6) (0 : Int) := h76
          have hLx := h76
          replace h77 : (0 : Int) = 0 ∧ y25 = (40 : Int) := h77 rfl
          replace h78 : y27 ≤ y66 := h78
          replace h79 : y27 + y29 ≤ y66 := h79 rfl
          have u81 : (m.1 8) + 1 ≤ y66 := by omega
          have hAgC : agr (m.2 65) (m.2 65) (m.1 28) := by first | exact agr_r _ _ | exact hAgC | exact agr_t hAgC hAg (by omega)
          clear g26 g28 g30 g34 g36 g47a g47b h48 h52 u56 h57 g71 h77 h78 h79
          refine T_gf 69 (.int (i32 0)) rfl rfl rfl rfl rfl rfl ?_
          refine T_if 85 72 rfl rfl rfl ⟨by decide, by decide⟩ (fun h82 => absurd (show (0 : Int) ≠ 0 from h82) (by decide)) (fun _ => ?_)
          refine T_gf 76 (.int (i32 y64)) rfl rfl rfl rfl rfl rfl ?_
          refine T_ld 78 (.int (i32 41)) rfl (fun _ => rfl) ?_
          have J86_84 : ∀ (s83 : Int), (R32 s83) → (0 ≤ s83) → (s83 ≤ 1) → TT w D pm_267 (86, [(0, .ref 189), (1, .int (i32 (m.1 25)))], [.int (i32 s83)], (mhp (mO m [(7, y64), (8, y66), (9, y68), (10, 0), (11, y72), (12, y74), (13, y37), (25, (m.1 25) + 1), (28, (m.1 28)), (64, (m.1 64)), (69, (m.1 69)), (70, (m.1 70)), (71, (m.1 71)), (72, (m.1 72)), (73, (m.1 73)), (74, (m.1 74)), (75, (m.1 75)), (99, (m.1 99)), (100, (m.1 100))] [(14, F39), (15, F41), (16, F43), (17, F45), (46, upI (m.2 46) (m.1 25) 0), (47, (m.2 47)), (48, (m.2 48)), (49, (m.2 49)), (50, upI (m.2 50) (m.1 25) 0), (65, (m.2 65)), (66, (m.2 66)), (67, (m.2 67)), (68, (m.2 68)), (76, (m.2 76)), (77, (m.2 77)), (78, (m.2 78)), (79, (m.2 79)), (80, (m.2 80)), (81, (m.2 81)), (82, (m.2 82)), (83, (m.2 83)), (84, (m.2 84)), (85, (m.2 85)), (86, (m.2 86)), (87, (m.2 87)), (88, (m.2 88)), (89, (m.2 89)), (90, (m.2 90)), (91, (m.2 91)), (92, (m.2 92)), (101, (m.2 101)), (102, (m.2 102)), (103, (m.2 103)), (104, (m.2 104)), (105, (m.2 105)), (106, (m.2 106)), (107, (m.2 107)), (108, (m.2 108)), (109, upI (m.2 109) (m.1 25) (m.1 99))]) c, N), 0, 0) (Q_takeAction m c N) := by
            intro s83 q85 ic86 ic87
            obtain ⟨q85a, q85b⟩ := id q85
            refine T_sto 87 [(2, .int (i32 s83)), (0, .ref 189), (1, .int (i32 (m.1 25)))] rfl (fun _ => rfl) ?_
            have L87_91 : ∀ (n : Nat) (v89 : Int) (m90 : mR), (R32 v89) → (Ty m90) → (0 ≤ v89) → (v89 ≤ 1) → (LxP (m90.1 7) (m90.1 8) (m90.1 9) (m.1 6) (m90.1 10)) → (∀ k, (m90.2 47) k + (m90.2 48) k ≤ 4000) → (v89 = 0 ∨ v89 = 1) → ((m90.1 10) = 0 → ((m.1 8) + 1 ≤ (m90.1 8))) → 1000000 * (8 - (m90.1 10)) + 2 * (4000 - (m90.1 8)) + v89 < (n : Int) → TT w D pm_267 (87, [(0, .ref 189), (1, .int (i32 (m.1 25))), (2, .int (i32 v89))], [], (mhp (mO m [(7, (m90.1 7)), (8, (m90.1 8)), (9, (m90.1 9)), (10, (m90.1 10)), (11, (m90.1 11)), (12, (m90.1 12)), (13, y37), (25, (m.1 25) + 1), (28, (m.1 28)), (64, (m.1 64)), (69, (m.1 69)), (70, (m.1 70)), (71, (m.1 71)), (72, (m.1 72)), (73, (m.1 73)), (74, (m.1 74)), (75, (m.1 75)), (99, (m.1 99)), (100, (m.1 100))] [(14, F39), (15, F41), (16, F43), (17, F45), (46, (m90.2 46)), (47, (m90.2 47)), (48, (m90.2 48)), (49, (m90.2 49)), (50, upI (m.2 50) (m.1 25) 0), (65, (m.2 65)), (66, (m.2 66)), (67, (m.2 67)), (68, (m.2 68)), (76, (m.2 76)), (77, (m.2 77)), (78, (m.2 78)), (79, (m.2 79)), (80, (m.2 80)), (81, (m.2 81)), (82, (m.2 82)), (83, (m.2 83)), (84, (m.2 84)), (85, (m.2 85)), (86, (m.2 86)), (87, (m.2 87)), (88, (m.2 88)), (89, (m.2 89)), (90, (m.2 90)), (91, (m.2 91)), (92, (m.2 92)), (101, (m.2 101)), (102, (m.2 102)), (103, (m.2 103)), (104, (m.2 104)), (105, (m.2 105)), (106, (m.2 106)), (107, (m.2 107)), (108, (m.2 108)), (109, upI (m.2 109) (m.1 25) (m.1 99))]) c, N), 0, 0) (Q_takeAction m c N) := by
              intro n
              induction n with
              | zero =>
                intro v89 m90 q92 q93 ic94 ic95 ic96 ic97 ic98 c99 hmu
                obtain ⟨q92a, q92b⟩ := id q92
                have q93_7 : 0 ≤ m90.1 7 ∧ m90.1 7 ≤ 330 := q93.1 7
                have q93_8 : 0 ≤ m90.1 8 ∧ m90.1 8 ≤ 4000 := q93.1 8
                have q93_9 : 0 ≤ m90.1 9 ∧ m90.1 9 ≤ 4000 := q93.1 9
                have q93_10 : 0 ≤ m90.1 10 ∧ m90.1 10 ≤ 8 := q93.1 10
                have q93_11 : (-1) ≤ m90.1 11 ∧ m90.1 11 ≤ 4000 := q93.1 11
                have q93_12 : (-9223372036854775808) ≤ m90.1 12 ∧ m90.1 12 ≤ 9223372036854775807 := q93.1 12
                have hLx := ic96
                have hPA := ic97
                exfalso
                omega
              | succ n ih =>
                intro v89 m90 q92 q93 ic94 ic95 ic96 ic97 ic98 c99 hmu
                obtain ⟨q92a, q92b⟩ := id q92
                have q93_7 : 0 ≤ m90.1 7 ∧ m90.1 7 ≤ 330 := q93.1 7
                have q93_8 : 0 ≤ m90.1 8 ∧ m90.1 8 ≤ 4000 := q93.1 8
                have q93_9 : 0 ≤ m90.1 9 ∧ m90.1 9 ≤ 4000 := q93.1 9
                have q93_10 : 0 ≤ m90.1 10 ∧ m90.1 10 ≤ 8 := q93.1 10
                have q93_11 : (-1) ≤ m90.1 11 ∧ m90.1 11 ≤ 4000 := q93.1 11
                have q93_12 : (-9223372036854775808) ≤ m90.1 12 ∧ m90.1 12 ≤ 9223372036854775807 := q93.1 12
                have hLx := ic96
                have hPA := ic97
                have ih100 := ih
                by_cases hf101 : (m90.1 10) = 0
                · skip
                  have c102 := c99 hf101
                  clear c99
                  refine T_ld 88 (.int (i32 v89)) rfl (fun _ => rfl) ?_
                  refine T_if 136 91 rfl rfl rfl (r32 (by omega) (by omega)) (fun (h103 : v89 = 0) => ?_) (fun (h103 : ¬ (v89 = 0)) => ?_)
                  · skip
                    refine T_ld 137 (.ref 189) rfl (fun _ => rfl) ?_
                    refine T_ld 139 (.int (i32 41)) rfl (fun _ => rfl) ?_
                    refine T_call 142 232 [.ref 189, .int (i32 41)] [] rfl (fun _ => rfl) rfl (c_need w (mO m [(7, (m90.1 7)), (8, (m90.1 8)), (9, (m90.1 9)), (10, (m90.1 10)), (11, (m90.1 11)), (12, (m90.1 12)), (13, y37), (25, (m.1 25) + 1), (28, (m.1 28)), (64, (m.1 64)), (69, (m.1 69)), (70, (m.1 70)), (71, (m.1 71)), (72, (m.1 72)), (73, (m.1 73)), (74, (m.1 74)), (75, (m.1 75)), (99, (m.1 99)), (100, (m.1 100))] [(14, F39), (15, F41), (16, F43), (17, F45), (46, (m90.2 46)), (47, (m90.2 47)), (48, (m90.2 48)), (49, (m90.2 49)), (50, upI (m.2 50) (m.1 25) 0), (65, (m.2 65)), (66, (m.2 66)), (67, (m.2 67)), (68, (m.2 68)), (76, (m.2 76)), (77, (m.2 77)), (78, (m.2 78)), (79, (m.2 79)), (80, (m.2 80)), (81, (m.2 81)), (82, (m.2 82)), (83, (m.2 83)), (84, (m.2 84)), (85, (m.2 85)), (86, (m.2 86)), (87, (m.2 87)), (88, (m.2 88)), (89, (m.2 89)), (90, (m.2 90)), (91, (m.2 91)), (92, (m.2 92)), (101, (m.2 101)), (102, (m.2 102)), (103, (m.2 103)), (104, (m.2 104)), (105, (m.2 105)), (106, (m.2 106)), (107, (m.2 107)), (108, (m.2 108)), (109, upI (m.2 109) (m.1 25) (m.1 99))]) c N D (by omega) (Ty_mO hT rfl rfl ⟨(q93.1 7), (q93.1 8), (q93.1 9), (q93.1 10), (q93.1 11), (q93.1 12), g38, g58, f28, f64, f69, f70, f71, f72, f73, f74, f75, f99, f100, trivial⟩ ⟨G40, G42, G44, G46, (q93.2.1 46), (q93.2.1 47), (q93.2.1 48), (q93.2.1 49), G61, (hT.2.1 65), (hT.2.1 66), (hT.2.1 67), (hT.2.1 68), (hT.2.1 76), (hT.2.1 77), (hT.2.1 78), (hT.2.1 79), (hT.2.1 80), (hT.2.1 81), (hT.2.1 82), (hT.2.1 83), (hT.2.1 84), (hT.2.1 85), (hT.2.1 86), (hT.2.1 87), (hT.2.1 88), (hT.2.1 89), (hT.2.1 90), (hT.2.1 91), (hT.2.1 92), (hT.2.1 101), (hT.2.1 102), (hT.2.1 103), (hT.2.1 104), (hT.2.1 105), (hT.2.1 106), (hT.2.1 107), (hT.2.1 108), G59, trivial⟩) 41 ⟨by decide, by decide⟩ (show 1 ≤ (41 : Int) by omega) (show LxP (m90.1 7) (m90.1 8) (m90.1 9) (m.1 6) (m90.1 10) by first | exact hLx | (intro h9; exfalso; omega) | (intro h9; have h8 := hLx (by omega); omega))) (fun rr104 k105 => ?_)
                    obtain ⟨y106, y108, y110, y112, y114, y116, g107, g109, g111, g113, g115, g117, h118, h119, h120, h121, rfl⟩ := k105
                    refine ⟨_, _, rfl, ?_⟩
                    refine T_nf2 (st' := []) (l' := [(7, y106), (8, y108), (9, y110), (10, y112), (11, y114), (12, y116), (13, y37), (25, (m.1 25) + 1), (28, (m.1 28)), (64, (m.1 64)), (69, (m.1 69)), (70, (m.1 70)), (71, (m.1 71)), (72, (m.1 72)), (73, (m.1 73)), (74, (m.1 74)), (75, (m.1 75)), (99, (m.1 99)), (100, (m.1 100))]) (a' := [(14, F39), (15, F41), (16, F43), (17, F45), (46, (m90.2 46)), (47, (m90.2 47)), (48, (m90.2 48)), (49, (m90.2 49)), (50, upI (m.2 50) (m.1 25) 0), (65, (m.2 65)), (66, (m.2 66)), (67, (m.2 67)), (68, (m.2 68)), (76, (m.2 76)), (77, (m.2 77)), (78, (m.2 78)), (79, (m.2 79)), (80, (m.2 80)), (81, (m.2 81)), (82, (m.2 82)), (83, (m.2 83)), (84, (m.2 84)), (85, (m.2 85)), (86, (m.2 86)), (87, (m.2 87)), (88, (m.2 88)), (89, (m.2 89)), (90, (m.2 90)), (91, (m.2 91)), (92, (m.2 92)), (101, (m.2 101)), (102, (m.2 102)), (103, (m.2 103)), (104, (m.2 104)), (105, (m.2 105)), (106, (m.2 106)), (107, (m.2 107)), (108, (m.2 108)), (109, upI (m.2 109) (m.1 25) (m.1 99))]) [7, 8, 9, 10, 11, 12] [] rfl ⟨rfl, rfl, rfl, rfl, rfl, rfl, rfl, rfl, rfl, rfl, rfl, rfl, rfl, rfl, rfl, rfl, rfl, rfl, rfl, rfl, rfl, rfl, rfl, rfl, rfl, rfl, rfl, rfl, rfl, rfl, rfl, rfl, rfl, rfl, rfl, rfl, rfl, rfl, trivial⟩ ⟨rfl, rfl, rfl, rfl, rfl, rfl, rfl, rfl, rfl, rfl, rfl, rfl, rfl, rfl, rfl, rfl, rfl, rfl, rfl, rfl, rfl, rfl, rfl, rfl, rfl, rfl, rfl, rfl, rfl, rfl, rfl, rfl, rfl, rfl, rfl, rfl, rfl, rfl, rfl, rfl, rfl, rfl, rfl, rfl, rfl, rfl, rfl, rfl, rfl, rfl, rfl, rfl, rfl, rfl, rfl, rfl, rfl, rfl, rfl, rfl, rfl, rfl, rfl, rfl, rfl, rfl, rfl, rfl, rfl, rfl, rfl, rfl, rfl, rfl, rfl, rfl, rfl, rfl, trivial⟩ rfl rfl (by decide) (by decide) ?_
                    by_cases hf122 : y112 = 0
                    · skip
                      subst hf122
                      replace h118 : LxP y106 y108 y110 (m.1 6) (0 : Int) := h118
                      have hLx := h118
                      replace h119 : (m90.1 10) = 0 ∧ (m90.1 7) = (41 : Int) := h119 rfl
                      replace h120 : (m90.1 8) ≤ y108 := h120
                      replace h121 : (m90.1 8) + (m90.1 9) ≤ y108 := h121 rfl
                      have u123 : (m.1 8) + 1 ≤ y108 := by omega
                      have hAgC : agr (m.2 65) (m.2 65) (m.1 28) := by first | exact agr_r _ _ | exact hAgC | exact agr_t hAgC hAg (by omega)
                      clear g65 g67 g69 g73 g75 h76 u81 q85a q85b q85 ic86 ic87 q93_7 q93_9 q93_11 q93_12 ic96 g113 h119 h121
                      refine T_ld 143 (.ref 189) rfl (fun _ => rfl) ?_
                      refine T_ld 145 (.int (i32 123)) rfl (fun _ => rfl) ?_
                      refine T_call 148 232 [.ref 189, .int (i32 123)] [] rfl (fun _ => rfl) rfl (c_need w (mO m [(7, y106), (8, y108), (9, y110), (10, 0), (11, y114), (12, y116), (13, y37), (25, (m.1 25) + 1), (28, (m.1 28)), (64, (m.1 64)), (69, (m.1 69)), (70, (m.1 70)), (71, (m.1 71)), (72, (m.1 72)), (73, (m.1 73)), (74, (m.1 74)), (75, (m.1 75)), (99, (m.1 99)), (100, (m.1 100))] [(14, F39), (15, F41), (16, F43), (17, F45), (46, (m90.2 46)), (47, (m90.2 47)), (48, (m90.2 48)), (49, (m90.2 49)), (50, upI (m.2 50) (m.1 25) 0), (65, (m.2 65)), (66, (m.2 66)), (67, (m.2 67)), (68, (m.2 68)), (76, (m.2 76)), (77, (m.2 77)), (78, (m.2 78)), (79, (m.2 79)), (80, (m.2 80)), (81, (m.2 81)), (82, (m.2 82)), (83, (m.2 83)), (84, (m.2 84)), (85, (m.2 85)), (86, (m.2 86)), (87, (m.2 87)), (88, (m.2 88)), (89, (m.2 89)), (90, (m.2 90)), (91, (m.2 91)), (92, (m.2 92)), (101, (m.2 101)), (102, (m.2 102)), (103, (m.2 103)), (104, (m.2 104)), (105, (m.2 105)), (106, (m.2 106)), (107, (m.2 107)), (108, (m.2 108)), (109, upI (m.2 109) (m.1 25) (m.1 99))]) c N D (by omega) (Ty_mO hT rfl rfl ⟨g107, g109, g111, ⟨(by omega : (0 : Int) ≤ 0), (by omega : (0 : Int) ≤ 8)⟩, g115, g117, g38, g58, f28, f64, f69, f70, f71, f72, f73, f74, f75, f99, f100, trivial⟩ ⟨G40, G42, G44, G46, (q93.2.1 46), (q93.2.1 47), (q93.2.1 48), (q93.2.1 49), G61, (hT.2.1 65), (hT.2.1 66), (hT.2.1 67), (hT.2.1 68), (hT.2.1 76), (hT.2.1 77), (hT.2.1 78), (hT.2.1 79), (hT.2.1 80), (hT.2.1 81), (hT.2.1 82), (hT.2.1 83), (hT.2.1 84), (hT.2.1 85), (hT.2.1 86), (hT.2.1 87), (hT.2.1 88), (hT.2.1 89), (hT.2.1 90), (hT.2.1 91), (hT.2.1 92), (hT.2.1 101), (hT.2.1 102), (hT.2.1 103), (hT.2.1 104), (hT.2.1 105), (hT.2.1 106), (hT.2.1 107), (hT.2.1 108), G59, trivial⟩) 123 ⟨by decide, by decide⟩ (show 1 ≤ (123 : Int) by omega) (show LxP y106 y108 y110 (m.1 6) (0 : Int) by first | exact hLx | (intro h9; exfalso; omega) | (intro h9; have h8 := hLx (by omega); omega))) (fun rr124 k125 => ?_)
                      obtain ⟨y126, y128, y130, y132, y134, y136, g127, g129, g131, g133, g135, g137, h138, h139, h140, h141, rfl⟩ := k125
                      refine ⟨_, _, rfl, ?_⟩
                      refine T_nf2 (st' := []) (l' := [(7, y126), (8, y128), (9, y130), (10, y132), (11, y134), (12, y136), (13, y37), (25, (m.1 25) + 1), (28, (m.1 28)), (64, (m.1 64)), (69, (m.1 69)), (70, (m.1 70)), (71, (m.1 71)), (72, (m.1 72)), (73, (m.1 73)), (74, (m.1 74)), (75, (m.1 75)), (99, (m.1 99)), (100, (m.1 100))]) (a' := [(14, F39), (15, F41), (16, F43), (17, F45), (46, (m90.2 46)), (47, (m90.2 47)), (48, (m90.2 48)), (49, (m90.2 49)), (50, upI (m.2 50) (m.1 25) 0), (65, (m.2 65)), (66, (m.2 66)), (67, (m.2 67)), (68, (m.2 68)), (76, (m.2 76)), (77, (m.2 77)), (78, (m.2 78)), (79, (m.2 79)), (80, (m.2 80)), (81, (m.2 81)), (82, (m.2 82)), (83, (m.2 83)), (84, (m.2 84)), (85, (m.2 85)), (86, (m.2 86)), (87, (m.2 87)), (88, (m.2 88)), (89, (m.2 89)), (90, (m.2 90)), (91, (m.2 91)), (92, (m.2 92)), (101, (m.2 101)), (102, (m.2 102)), (103, (m.2 103)), (104, (m.2 104)), (105, (m.2 105)), (106, (m.2 106)), (107, (m.2 107)), (108, (m.2 108)), (109, upI (m.2 109) (m.1 25) (m.1 99))]) [7, 8, 9, 10, 11, 12] [] rfl ⟨rfl, rfl, rfl, rfl, rfl, rfl, rfl, rfl, rfl, rfl, rfl, rfl, rfl, rfl, rfl, rfl, rfl, rfl, rfl, rfl, rfl, rfl, rfl, rfl, rfl, rfl, rfl, rfl, rfl, rfl, rfl, rfl, rfl, rfl, rfl, rfl, rfl, rfl, trivial⟩ ⟨rfl, rfl, rfl, rfl, rfl, rfl, rfl, rfl, rfl, rfl, rfl, rfl, rfl, rfl, rfl, rfl, rfl, rfl, rfl, rfl, rfl, rfl, rfl, rfl, rfl, rfl, rfl, rfl, rfl, rfl, rfl, rfl, rfl, rfl, rfl, rfl, rfl, rfl, rfl, rfl, rfl, rfl, rfl, rfl, rfl, rfl, rfl, rfl, rfl, rfl, rfl, rfl, rfl, rfl, rfl, rfl, rfl, rfl, rfl, rfl, rfl, rfl, rfl, rfl, rfl, rfl, rfl, rfl, rfl, rfl, rfl, rfl, rfl, rfl, rfl, rfl, rfl, rfl, trivial⟩ rfl rfl (by decide) (by decide) ?_
                      by_cases hf142 : y132 = 0
                      · skip
                        subst hf142
                        replace h138 : LxP y126 y128 y130 (m.1 6) (0 : Int) := h138
                        have hLx := h138
                        replace h139 : (0 : Int) = 0 ∧ y106 = (123 : Int) := h139 rfl
                        replace h140 : y108 ≤ y128 := h140
                        replace h141 : y108 + y110 ≤ y128 := h141 rfl
                        have u143 : (m.1 8) + 1 ≤ y128 := by omega
                        have hAgC : agr (m.2 65) (m.2 65) (m.1 28) := by first | exact agr_r _ _ | exact hAgC | exact agr_t hAgC hAg (by omega)
                        clear g107 g109 g111 g115 g117 h118 h120 u123 g133 h139 h140 h141
                        refine T_ld 149 (.ref 189) rfl (fun _ => rfl) ?_
                        refine T_ld 150 (.int (i32 (m.1 25))) rfl (fun _ => rfl) ?_
                        refine T_pf (l' := [(7, y126), (8, y128), (9, y130), (10, 0), (11, y134), (12, y136), (13, y37), (25, (m.1 25) + 1), (28, (m.1 28)), (64, (m.1 25)), (69, (m.1 69)), (70, (m.1 70)), (71, (m.1 71)), (72, (m.1 72)), (73, (m.1 73)), (74, (m.1 74)), (75, (m.1 75)), (99, (m.1 99)), (100, (m.1 100))]) 153 (m.1 25) rfl rfl rfl rfl rfl rfl ?_
                        have g144 : (-1) ≤ (m.1 25) ∧ (m.1 25) ≤ 15 := ⟨by omega, by omega⟩
                        have L153_146 : ∀ (n : Nat) (m145 : mR), (Ty m145) → (LxP (m145.1 7) (m145.1 8) (m145.1 9) (m.1 6) (m145.1 10)) → ((m145.2 50) (m.1 25) ≤ 13) → ((m145.1 10) = 0 → ((m.1 8) + 1 ≤ (m145.1 8)) ∧ (CN (m145.2 65) (m145.2 67) (m145.1 28)) ∧ ((m.1 28) ≤ (m145.1 28)) ∧ (agr (m.2 65) (m145.2 65) (m.1 28)) ∧ (TdP (m145.2 65) (m145.1 28) (m.1 22) (m145.1 99) (m145.2 101) (m145.2 103) (m145.2 105) (m145.2 106) (m145.2 107) (m145.2 108)) ∧ ((m145.1 99) = (m.1 99) + (m145.2 50) (m.1 25)) ∧ ((m145.2 50) (m.1 25) ≤ 12) ∧ (agr (m.2 50) (m145.2 50) (m.1 25))) → 1000000 * (8 - (m145.1 10)) + (4000 - (m145.1 8)) < (n : Int) → TT w D pm_267 (153, [(0, .ref 189), (1, .int (i32 (m.1 25))), (2, .int (i32 v89))], [], (mhp (mO m [(7, (m145.1 7)), (8, (m145.1 8)), (9, (m145.1 9)), (10, (m145.1 10)), (11, (m145.1 11)), (12, (m145.1 12)), (13, y37), (25, (m.1 25) + 1), (28, (m145.1 28)), (64, (m.1 25)), (69, (m145.1 69)), (70, (m145.1 70)), (71, (m145.1 71)), (72, (m145.1 72)), (73, (m145.1 73)), (74, (m145.1 74)), (75, (m145.1 75)), (99, (m145.1 99)), (100, (m145.1 100))] [(14, F39), (15, F41), (16, F43), (17, F45), (46, (m90.2 46)), (47, (m90.2 47)), (48, (m90.2 48)), (49, (m90.2 49)), (50, (m145.2 50)), (65, (m145.2 65)), (66, (m145.2 66)), (67, (m145.2 67)), (68, (m145.2 68)), (76, (m145.2 76)), (77, (m145.2 77)), (78, (m145.2 78)), (79, (m145.2 79)), (80, (m145.2 80)), (81, (m145.2 81)), (82, (m145.2 82)), (83, (m145.2 83)), (84, (m145.2 84)), (85, (m145.2 85)), (86, (m145.2 86)), (87, (m145.2 87)), (88, (m145.2 88)), (89, (m145.2 89)), (90, (m145.2 90)), (91, (m145.2 91)), (92, (m145.2 92)), (101, (m145.2 101)), (102, (m145.2 102)), (103, (m145.2 103)), (104, (m145.2 104)), (105, (m145.2 105)), (106, (m145.2 106)), (107, (m145.2 107)), (108, (m145.2 108)), (109, upI (m.2 109) (m.1 25) (m.1 99))]) c, N), 0, 0) (Q_takeAction m c N) := by
                          intro n
                          induction n with
                          | zero =>
                            intro m145 q147 ic148 ic149 c150 hmu
                            have q147_7 : 0 ≤ m145.1 7 ∧ m145.1 7 ≤ 330 := q147.1 7
                            have q147_8 : 0 ≤ m145.1 8 ∧ m145.1 8 ≤ 4000 := q147.1 8
                            have q147_9 : 0 ≤ m145.1 9 ∧ m145.1 9 ≤ 4000 := q147.1 9
                            have q147_10 : 0 ≤ m145.1 10 ∧ m145.1 10 ≤ 8 := q147.1 10
                            have q147_11 : (-1) ≤ m145.1 11 ∧ m145.1 11 ≤ 4000 := q147.1 11
                            have q147_12 : (-9223372036854775808) ≤ m145.1 12 ∧ m145.1 12 ≤ 9223372036854775807 := q147.1 12
                            have q147_28 : 0 ≤ m145.1 28 ∧ m145.1 28 ≤ 800 := q147.1 28
                            have q147_69 : 0 ≤ m145.1 69 ∧ m145.1 69 ≤ 1024 := q147.1 69
                            have q147_70 : 0 ≤ m145.1 70 ∧ m145.1 70 ≤ 4000 := q147.1 70
                            have q147_71 : 0 ≤ m145.1 71 ∧ m145.1 71 ≤ 1 := q147.1 71
                            have q147_72 : (-9223372036854775808) ≤ m145.1 72 ∧ m145.1 72 ≤ 9223372036854775807 := q147.1 72
                            have q147_73 : 0 ≤ m145.1 73 ∧ m145.1 73 ≤ 60 := q147.1 73
                            have q147_74 : 0 ≤ m145.1 74 ∧ m145.1 74 ≤ 24 := q147.1 74
                            have q147_75 : 0 ≤ m145.1 75 ∧ m145.1 75 ≤ 3 := q147.1 75
                            have q147_99 : 0 ≤ m145.1 99 ∧ m145.1 99 ≤ 240 := q147.1 99
                            have q147_100 : 0 ≤ m145.1 100 ∧ m145.1 100 ≤ 64 := q147.1 100
                            have hLx := ic148
                            exfalso
                            omega
                          | succ n ih =>
                            intro m145 q147 ic148 ic149 c150 hmu
                            have q147_7 : 0 ≤ m145.1 7 ∧ m145.1 7 ≤ 330 := q147.1 7
                            have q147_8 : 0 ≤ m145.1 8 ∧ m145.1 8 ≤ 4000 := q147.1 8
                            have q147_9 : 0 ≤ m145.1 9 ∧ m145.1 9 ≤ 4000 := q147.1 9
                            have q147_10 : 0 ≤ m145.1 10 ∧ m145.1 10 ≤ 8 := q147.1 10
                            have q147_11 : (-1) ≤ m145.1 11 ∧ m145.1 11 ≤ 4000 := q147.1 11
                            have q147_12 : (-9223372036854775808) ≤ m145.1 12 ∧ m145.1 12 ≤ 9223372036854775807 := q147.1 12
                            have q147_28 : 0 ≤ m145.1 28 ∧ m145.1 28 ≤ 800 := q147.1 28
                            have q147_69 : 0 ≤ m145.1 69 ∧ m145.1 69 ≤ 1024 := q147.1 69
                            have q147_70 : 0 ≤ m145.1 70 ∧ m145.1 70 ≤ 4000 := q147.1 70
                            have q147_71 : 0 ≤ m145.1 71 ∧ m145.1 71 ≤ 1 := q147.1 71
                            have q147_72 : (-9223372036854775808) ≤ m145.1 72 ∧ m145.1 72 ≤ 9223372036854775807 := q147.1 72
                            have q147_73 : 0 ≤ m145.1 73 ∧ m145.1 73 ≤ 60 := q147.1 73
                            have q147_74 : 0 ≤ m145.1 74 ∧ m145.1 74 ≤ 24 := q147.1 74
                            have q147_75 : 0 ≤ m145.1 75 ∧ m145.1 75 ≤ 3 := q147.1 75
                            have q147_99 : 0 ≤ m145.1 99 ∧ m145.1 99 ≤ 240 := q147.1 99
                            have q147_100 : 0 ≤ m145.1 100 ∧ m145.1 100 ≤ 64 := q147.1 100
                            have hLx := ic148
                            have ih151 := ih
                            by_cases hf152 : (m145.1 10) = 0
                            · skip
                              obtain ⟨c153, c154, c155, c156, c157, c158, c159, c160⟩ := c150 hf152
                              clear c150
                              have hCN := c154
                              have hAgC := c156
                              have pTd := c157
                              have hS1 := c160
                              refine T_gf 157 (.int (i32 (m145.1 10))) rfl rfl rfl rfl rfl rfl ?_
                              refine T_if 211 160 rfl rfl rfl (r32 (by omega) (by omega)) (fun (h161 : (m145.1 10) ≠ 0) => by exfalso; omega) (fun (h161 : ¬ ((m145.1 10) ≠ 0)) => ?_)
                              refine T_ld 161 (.ref 189) rfl (fun _ => rfl) ?_
                              refine T_call 164 269 [.ref 189] [] rfl (fun _ => rfl) rfl (c_isStatement w (mO m [(7, (m145.1 7)), (8, (m145.1 8)), (9, (m145.1 9)), (10, (m145.1 10)), (11, (m145.1 11)), (12, (m145.1 12)), (13, y37), (25, (m.1 25) + 1), (28, (m145.1 28)), (64, (m.1 25)), (69, (m145.1 69)), (70, (m145.1 70)), (71, (m145.1 71)), (72, (m145.1 72)), (73, (m145.1 73)), (74, (m145.1 74)), (75, (m145.1 75)), (99, (m145.1 99)), (100, (m145.1 100))] [(14, F39), (15, F41), (16, F43), (17, F45), (46, (m90.2 46)), (47, (m90.2 47)), (48, (m90.2 48)), (49, (m90.2 49)), (50, (m145.2 50)), (65, (m145.2 65)), (66, (m145.2 66)), (67, (m145.2 67)), (68, (m145.2 68)), (76, (m145.2 76)), (77, (m145.2 77)), (78, (m145.2 78)), (79, (m145.2 79)), (80, (m145.2 80)), (81, (m145.2 81)), (82, (m145.2 82)), (83, (m145.2 83)), (84, (m145.2 84)), (85, (m145.2 85)), (86, (m145.2 86)), (87, (m145.2 87)), (88, (m145.2 88)), (89, (m145.2 89)), (90, (m145.2 90)), (91, (m145.2 91)), (92, (m145.2 92)), (101, (m145.2 101)), (102, (m145.2 102)), (103, (m145.2 103)), (104, (m145.2 104)), (105, (m145.2 105)), (106, (m145.2 106)), (107, (m145.2 107)), (108, (m145.2 108)), (109, upI (m.2 109) (m.1 25) (m.1 99))]) c N D (by omega) (Ty_mO hT rfl rfl ⟨(q147.1 7), (q147.1 8), (q147.1 9), (q147.1 10), (q147.1 11), (q147.1 12), g38, g58, (q147.1 28), g144, (q147.1 69), (q147.1 70), (q147.1 71), (q147.1 72), (q147.1 73), (q147.1 74), (q147.1 75), (q147.1 99), (q147.1 100), trivial⟩ ⟨G40, G42, G44, G46, (q93.2.1 46), (q93.2.1 47), (q93.2.1 48), (q93.2.1 49), (q147.2.1 50), (q147.2.1 65), (q147.2.1 66), (q147.2.1 67), (q147.2.1 68), (q147.2.1 76), (q147.2.1 77), (q147.2.1 78), (q147.2.1 79), (q147.2.1 80), (q147.2.1 81), (q147.2.1 82), (q147.2.1 83), (q147.2.1 84), (q147.2.1 85), (q147.2.1 86), (q147.2.1 87), (q147.2.1 88), (q147.2.1 89), (q147.2.1 90), (q147.2.1 91), (q147.2.1 92), (q147.2.1 101), (q147.2.1 102), (q147.2.1 103), (q147.2.1 104), (q147.2.1 105), (q147.2.1 106), (q147.2.1 107), (q147.2.1 108), G59, trivial⟩) ) (fun rr162 k163 => ?_)
                              obtain ⟨x164, g165, h166, rfl⟩ := k163
                              refine ⟨_, _, rfl, ?_⟩
                              refine T_nf2 (st' := [.int (i32 x164)]) (l' := [(7, (m145.1 7)), (8, (m145.1 8)), (9, (m145.1 9)), (10, (m145.1 10)), (11, (m145.1 11)), (12, (m145.1 12)), (13, y37), (25, (m.1 25) + 1), (28, (m145.1 28)), (64, (m.1 25)), (69, (m145.1 69)), (70, (m145.1 70)), (71, (m145.1 71)), (72, (m145.1 72)), (73, (m145.1 73)), (74, (m145.1 74)), (75, (m145.1 75)), (99, (m145.1 99)), (100, (m145.1 100))]) (a' := [(14, F39), (15, F41), (16, F43), (17, F45), (46, (m90.2 46)), (47, (m90.2 47)), (48, (m90.2 48)), (49, (m90.2 49)), (50, (m145.2 50)), (65, (m145.2 65)), (66, (m145.2 66)), (67, (m145.2 67)), (68, (m145.2 68)), (76, (m145.2 76)), (77, (m145.2 77)), (78, (m145.2 78)), (79, (m145.2 79)), (80, (m145.2 80)), (81, (m145.2 81)), (82, (m145.2 82)), (83, (m145.2 83)), (84, (m145.2 84)), (85, (m145.2 85)), (86, (m145.2 86)), (87, (m145.2 87)), (88, (m145.2 88)), (89, (m145.2 89)), (90, (m145.2 90)), (91, (m145.2 91)), (92, (m145.2 92)), (101, (m145.2 101)), (102, (m145.2 102)), (103, (m145.2 103)), (104, (m145.2 104)), (105, (m145.2 105)), (106, (m145.2 106)), (107, (m145.2 107)), (108, (m145.2 108)), (109, upI (m.2 109) (m.1 25) (m.1 99))]) [] [] rfl ⟨rfl, rfl, rfl, rfl, rfl, rfl, rfl, rfl, rfl, rfl, rfl, rfl, rfl, rfl, rfl, rfl, rfl, rfl, rfl, rfl, rfl, rfl, rfl, rfl, rfl, rfl, rfl, rfl, rfl, rfl, rfl, rfl, rfl, rfl, rfl, rfl, rfl, rfl, trivial⟩ ⟨rfl, rfl, rfl, rfl, rfl, rfl, rfl, rfl, rfl, rfl, rfl, rfl, rfl, rfl, rfl, rfl, rfl, rfl, rfl, rfl, rfl, rfl, rfl, rfl, rfl, rfl, rfl, rfl, rfl, rfl, rfl, rfl, rfl, rfl, rfl, rfl, rfl, rfl, rfl, rfl, rfl, rfl, rfl, rfl, rfl, rfl, rfl, rfl, rfl, rfl, rfl, rfl, rfl, rfl, rfl, rfl, rfl, rfl, rfl, rfl, rfl, rfl, rfl, rfl, rfl, rfl, rfl, rfl, rfl, rfl, rfl, rfl, rfl, rfl, rfl, rfl, rfl, rfl, trivial⟩ rfl rfl (by decide) (by decide) ?_
                              obtain ⟨g165a, g165b⟩ := g165
                              replace h166 : x164 = 1 → (m145.1 7) ≠ 0 := h166
                              have u167 : (m.1 8) + 1 ≤ (m145.1 8) := by omega
                              have hAgC : agr (m.2 65) (m145.2 65) (m.1 28) := by first | exact agr_r _ _ | exact hAgC | exact agr_t hAgC hAg (by omega)
                              clear g127 g129 g131 g135 g137 h138 u143
                              refine T_if 211 167 rfl rfl rfl (r32 (by omega) (by omega)) (fun (h168 : x164 = 0) => ?_) (fun (h168 : ¬ (x164 = 0)) => ?_)
                              · skip
                                refine T_ld 212 (.ref 189) rfl (fun _ => rfl) ?_
                                refine T_ld 213 (.int (i32 (-1))) rfl (fun _ => rfl) ?_
                                refine T_pf (l' := [(7, (m145.1 7)), (8, (m145.1 8)), (9, (m145.1 9)), (10, (m145.1 10)), (11, (m145.1 11)), (12, (m145.1 12)), (13, y37), (25, (m.1 25) + 1), (28, (m145.1 28)), (64, (-1)), (69, (m145.1 69)), (70, (m145.1 70)), (71, (m145.1 71)), (72, (m145.1 72)), (73, (m145.1 73)), (74, (m145.1 74)), (75, (m145.1 75)), (99, (m145.1 99)), (100, (m145.1 100))]) 216 (-1) rfl rfl rfl rfl rfl rfl ?_
                                have hAc2 : AcP ((m.1 25) + 1) (m145.1 99) (upI (m.2 109) (m.1 25) (m.1 99)) (m145.2 50) := AcP_add (AcP_k pAc (by omega)) (agr_u (Int.le_refl _)) hS1 (by rw [upI_s]; omega)
                                refine T_ld 217 (.ref 189) rfl (fun _ => rfl) ?_
                                refine T_ld 219 (.int (i32 125)) rfl (fun _ => rfl) ?_
                                refine T_call 222 232 [.ref 189, .int (i32 125)] [] rfl (fun _ => rfl) rfl (c_need w (mO m [(7, (m145.1 7)), (8, (m145.1 8)), (9, (m145.1 9)), (10, (m145.1 10)), (11, (m145.1 11)), (12, (m145.1 12)), (13, y37), (25, (m.1 25) + 1), (28, (m145.1 28)), (64, (-1)), (69, (m145.1 69)), (70, (m145.1 70)), (71, (m145.1 71)), (72, (m145.1 72)), (73, (m145.1 73)), (74, (m145.1 74)), (75, (m145.1 75)), (99, (m145.1 99)), (100, (m145.1 100))] [(14, F39), (15, F41), (16, F43), (17, F45), (46, (m90.2 46)), (47, (m90.2 47)), (48, (m90.2 48)), (49, (m90.2 49)), (50, (m145.2 50)), (65, (m145.2 65)), (66, (m145.2 66)), (67, (m145.2 67)), (68, (m145.2 68)), (76, (m145.2 76)), (77, (m145.2 77)), (78, (m145.2 78)), (79, (m145.2 79)), (80, (m145.2 80)), (81, (m145.2 81)), (82, (m145.2 82)), (83, (m145.2 83)), (84, (m145.2 84)), (85, (m145.2 85)), (86, (m145.2 86)), (87, (m145.2 87)), (88, (m145.2 88)), (89, (m145.2 89)), (90, (m145.2 90)), (91, (m145.2 91)), (92, (m145.2 92)), (101, (m145.2 101)), (102, (m145.2 102)), (103, (m145.2 103)), (104, (m145.2 104)), (105, (m145.2 105)), (106, (m145.2 106)), (107, (m145.2 107)), (108, (m145.2 108)), (109, upI (m.2 109) (m.1 25) (m.1 99))]) c N D (by omega) (Ty_mO hT rfl rfl ⟨(q147.1 7), (q147.1 8), (q147.1 9), (q147.1 10), (q147.1 11), (q147.1 12), g38, g58, (q147.1 28), ⟨(by omega : ((-1) : Int) ≤ (-1)), (by omega : ((-1) : Int) ≤ 15)⟩, (q147.1 69), (q147.1 70), (q147.1 71), (q147.1 72), (q147.1 73), (q147.1 74), (q147.1 75), (q147.1 99), (q147.1 100), trivial⟩ ⟨G40, G42, G44, G46, (q93.2.1 46), (q93.2.1 47), (q93.2.1 48), (q93.2.1 49), (q147.2.1 50), (q147.2.1 65), (q147.2.1 66), (q147.2.1 67), (q147.2.1 68), (q147.2.1 76), (q147.2.1 77), (q147.2.1 78), (q147.2.1 79), (q147.2.1 80), (q147.2.1 81), (q147.2.1 82), (q147.2.1 83), (q147.2.1 84), (q147.2.1 85), (q147.2.1 86), (q147.2.1 87), (q147.2.1 88), (q147.2.1 89), (q147.2.1 90), (q147.2.1 91), (q147.2.1 92), (q147.2.1 101), (q147.2.1 102), (q147.2.1 103), (q147.2.1 104), (q147.2.1 105), (q147.2.1 106), (q147.2.1 107), (q147.2.1 108), G59, trivial⟩) 125 ⟨by decide, by decide⟩ (show 1 ≤ (125 : Int) by omega) (show LxP (m145.1 7) (m145.1 8) (m145.1 9) (m.1 6) (m145.1 10) by first | exact hLx | (intro h9; exfalso; omega) | (intro h9; have h8 := hLx (by omega); omega))) (fun rr169 k170 => ?_)
                                obtain ⟨y171, y173, y175, y177, y179, y181, g172, g174, g176, g178, g180, g182, h183, h184, h185, h186, rfl⟩ := k170
                                refine ⟨_, _, rfl, ?_⟩
                                refine T_nf2 (st' := []) (l' := [(7, y171), (8, y173), (9, y175), (10, y177), (11, y179), (12, y181), (13, y37), (25, (m.1 25) + 1), (28, (m145.1 28)), (64, (-1)), (69, (m145.1 69)), (70, (m145.1 70)), (71, (m145.1 71)), (72, (m145.1 72)), (73, (m145.1 73)), (74, (m145.1 74)), (75, (m145.1 75)), (99, (m145.1 99)), (100, (m145.1 100))]) (a' := [(14, F39), (15, F41), (16, F43), (17, F45), (46, (m90.2 46)), (47, (m90.2 47)), (48, (m90.2 48)), (49, (m90.2 49)), (50, (m145.2 50)), (65, (m145.2 65)), (66, (m145.2 66)), (67, (m145.2 67)), (68, (m145.2 68)), (76, (m145.2 76)), (77, (m145.2 77)), (78, (m145.2 78)), (79, (m145.2 79)), (80, (m145.2 80)), (81, (m145.2 81)), (82, (m145.2 82)), (83, (m145.2 83)), (84, (m145.2 84)), (85, (m145.2 85)), (86, (m145.2 86)), (87, (m145.2 87)), (88, (m145.2 88)), (89, (m145.2 89)), (90, (m145.2 90)), (91, (m145.2 91)), (92, (m145.2 92)), (101, (m145.2 101)), (102, (m145.2 102)), (103, (m145.2 103)), (104, (m145.2 104)), (105, (m145.2 105)), (106, (m145.2 106)), (107, (m145.2 107)), (108, (m145.2 108)), (109, upI (m.2 109) (m.1 25) (m.1 99))]) [7, 8, 9, 10, 11, 12] [] rfl ⟨rfl, rfl, rfl, rfl, rfl, rfl, rfl, rfl, rfl, rfl, rfl, rfl, rfl, rfl, rfl, rfl, rfl, rfl, rfl, rfl, rfl, rfl, rfl, rfl, rfl, rfl, rfl, rfl, rfl, rfl, rfl, rfl, rfl, rfl, rfl, rfl, rfl, rfl, trivial⟩ ⟨rfl, rfl, rfl, rfl, rfl, rfl, rfl, rfl, rfl, rfl, rfl, rfl, rfl, rfl, rfl, rfl, rfl, rfl, rfl, rfl, rfl, rfl, rfl, rfl, rfl, rfl, rfl, rfl, rfl, rfl, rfl, rfl, rfl, rfl, rfl, rfl, rfl, rfl, rfl, rfl, rfl, rfl, rfl, rfl, rfl, rfl, rfl, rfl, rfl, rfl, rfl, rfl, rfl, rfl, rfl, rfl, rfl, rfl, rfl, rfl, rfl, rfl, rfl, rfl, rfl, rfl, rfl, rfl, rfl, rfl, rfl, rfl, rfl, rfl, rfl, rfl, rfl, rfl, trivial⟩ rfl rfl (by decide) (by decide) ?_
                                by_cases hf187 : y177 = 0
                                · skip
                                  subst hf187
                                  replace h183 : LxP y171 y173 y175 (m.1 6) (0 : Int) := h183
                                  have hLx := h183
                                  replace h184 : (m145.1 10) = 0 ∧ (m145.1 7) = (125 : Int) := h184 rfl
                                  replace h185 : (m145.1 8) ≤ y173 := h185
                                  replace h186 : (m145.1 8) + (m145.1 9) ≤ y173 := h186 rfl
                                  have u188 : (m.1 8) + 1 ≤ y173 := by omega
                                  have hAgC : agr (m.2 65) (m145.2 65) (m.1 28) := by first | exact agr_r _ _ | exact hAgC | exact agr_t hAgC hAg (by omega)
                                  clear q147_7 q147_9 q147_11 q147_12 ic148 g165a g165b h166 h168 g178 h184 h186
                                  refine T_ret rfl (fun _ => rfl) ?_
                                  exact ⟨(mO m [(7, y171), (8, y173), (9, y175), (10, 0), (11, y179), (12, y181), (13, y37), (25, (m.1 25) + 1), (28, (m145.1 28)), (64, (-1)), (69, (m145.1 69)), (70, (m145.1 70)), (71, (m145.1 71)), (72, (m145.1 72)), (73, (m145.1 73)), (74, (m145.1 74)), (75, (m145.1 75)), (99, (m145.1 99)), (100, (m145.1 100))] [(14, F39), (15, F41), (16, F43), (17, F45), (46, (m90.2 46)), (47, (m90.2 47)), (48, (m90.2 48)), (49, (m90.2 49)), (50, (m145.2 50)), (65, (m145.2 65)), (66, (m145.2 66)), (67, (m145.2 67)), (68, (m145.2 68)), (76, (m145.2 76)), (77, (m145.2 77)), (78, (m145.2 78)), (79, (m145.2 79)), (80, (m145.2 80)), (81, (m145.2 81)), (82, (m145.2 82)), (83, (m145.2 83)), (84, (m145.2 84)), (85, (m145.2 85)), (86, (m145.2 86)), (87, (m145.2 87)), (88, (m145.2 88)), (89, (m145.2 89)), (90, (m145.2 90)), (91, (m145.2 91)), (92, (m145.2 92)), (101, (m145.2 101)), (102, (m145.2 102)), (103, (m145.2 103)), (104, (m145.2 104)), (105, (m145.2 105)), (106, (m145.2 106)), (107, (m145.2 107)), (108, (m145.2 108)), (109, upI (m.2 109) (m.1 25) (m.1 99))]), (Ty_mO hT rfl rfl ⟨g172, g174, g176, ⟨(by omega : (0 : Int) ≤ 0), (by omega : (0 : Int) ≤ 8)⟩, g180, g182, g38, g58, (q147.1 28), ⟨(by omega : ((-1) : Int) ≤ (-1)), (by omega : ((-1) : Int) ≤ 15)⟩, (q147.1 69), (q147.1 70), (q147.1 71), (q147.1 72), (q147.1 73), (q147.1 74), (q147.1 75), (q147.1 99), (q147.1 100), trivial⟩ ⟨G40, G42, G44, G46, (q93.2.1 46), (q93.2.1 47), (q93.2.1 48), (q93.2.1 49), (q147.2.1 50), (q147.2.1 65), (q147.2.1 66), (q147.2.1 67), (q147.2.1 68), (q147.2.1 76), (q147.2.1 77), (q147.2.1 78), (q147.2.1 79), (q147.2.1 80), (q147.2.1 81), (q147.2.1 82), (q147.2.1 83), (q147.2.1 84), (q147.2.1 85), (q147.2.1 86), (q147.2.1 87), (q147.2.1 88), (q147.2.1 89), (q147.2.1 90), (q147.2.1 91), (q147.2.1 92), (q147.2.1 101), (q147.2.1 102), (q147.2.1 103), (q147.2.1 104), (q147.2.1 105), (q147.2.1 106), (q147.2.1 107), (q147.2.1 108), G59, trivial⟩), (show (0 : Int) = 0 → (m.1 10) = 0 by omega), (show LxP y171 y173 y175 (m.1 6) (0 : Int) by first | (first | exact hLx | exact (fun _ => hLx (by omega)) | (intro h9; exfalso; omega)) | (exfalso; omega)), (show ∀ k, F39 k + F41 k ≤ 4000 by first | (exact hNM) | (exfalso; omega)), (show ∀ k, (m90.2 47) k + (m90.2 48) k ≤ 4000 by first | (exact hPA) | (exfalso; omega)), (fun _ => ⟨(show (m.1 8) + 1 ≤ y173 by omega), (show PN y37 (m.1 19) (m.1 20) (m.1 21) (m.1 22) (m.1 23) ((m.1 25) + 1) (m.1 26) F43 F45 by first | (exact pPN) | (exfalso; omega)), (show CN (m145.2 65) (m145.2 67) (m145.1 28) by first | (exact hCN) | (exfalso; omega)), (show (m.1 28) ≤ (m145.1 28) by omega), (show agr (m.2 65) (m145.2 65) (m.1 28) by first | (exact hAgC) | (exfalso; omega)), (show TdP (m145.2 65) (m145.1 28) (m.1 22) (m145.1 99) (m145.2 101) (m145.2 103) (m145.2 105) (m145.2 106) (m145.2 107) (m145.2 108) by first | (exact pTd) | (exfalso; omega)), (show AcP ((m.1 25) + 1) (m145.1 99) (upI (m.2 109) (m.1 25) (m.1 99)) (m145.2 50) by first | (exact hAc2) | (exfalso; omega)), (show (m145.1 99) ≤ 12 * ((m.1 25) + 1) by omega), (show (m.1 25) ≤ ((m.1 25) + 1) by omega)⟩), rfl⟩
                                · skip
                                  replace h183 : LxP y171 y173 y175 (m.1 6) y177 := h183
                                  have hLx := h183
                                  clear h184
                                  replace h185 : (m145.1 8) ≤ y173 := h185
                                  clear h186
                                  have hf189 : 1 ≤ y177 := by omega
                                  clear q147_7 q147_9 q147_11 q147_12 ic148 g165a g165b h166 h168
                                  refine T_ret rfl (fun _ => rfl) ?_
                                  exact ⟨(mO m [(7, y171), (8, y173), (9, y175), (10, y177), (11, y179), (12, y181), (13, y37), (25, (m.1 25) + 1), (28, (m145.1 28)), (64, (-1)), (69, (m145.1 69)), (70, (m145.1 70)), (71, (m145.1 71)), (72, (m145.1 72)), (73, (m145.1 73)), (74, (m145.1 74)), (75, (m145.1 75)), (99, (m145.1 99)), (100, (m145.1 100))] [(14, F39), (15, F41), (16, F43), (17, F45), (46, (m90.2 46)), (47, (m90.2 47)), (48, (m90.2 48)), (49, (m90.2 49)), (50, (m145.2 50)), (65, (m145.2 65)), (66, (m145.2 66)), (67, (m145.2 67)), (68, (m145.2 68)), (76, (m145.2 76)), (77, (m145.2 77)), (78, (m145.2 78)), (79, (m145.2 79)), (80, (m145.2 80)), (81, (m145.2 81)), (82, (m145.2 82)), (83, (m145.2 83)), (84, (m145.2 84)), (85, (m145.2 85)), (86, (m145.2 86)), (87, (m145.2 87)), (88, (m145.2 88)), (89, (m145.2 89)), (90, (m145.2 90)), (91, (m145.2 91)), (92, (m145.2 92)), (101, (m145.2 101)), (102, (m145.2 102)), (103, (m145.2 103)), (104, (m145.2 104)), (105, (m145.2 105)), (106, (m145.2 106)), (107, (m145.2 107)), (108, (m145.2 108)), (109, upI (m.2 109) (m.1 25) (m.1 99))]), (Ty_mO hT rfl rfl ⟨g172, g174, g176, g178, g180, g182, g38, g58, (q147.1 28), ⟨(by omega : ((-1) : Int) ≤ (-1)), (by omega : ((-1) : Int) ≤ 15)⟩, (q147.1 69), (q147.1 70), (q147.1 71), (q147.1 72), (q147.1 73), (q147.1 74), (q147.1 75), (q147.1 99), (q147.1 100), trivial⟩ ⟨G40, G42, G44, G46, (q93.2.1 46), (q93.2.1 47), (q93.2.1 48), (q93.2.1 49), (q147.2.1 50), (q147.2.1 65), (q147.2.1 66), (q147.2.1 67), (q147.2.1 68), (q147.2.1 76), (q147.2.1 77), (q147.2.1 78), (q147.2.1 79), (q147.2.1 80), (q147.2.1 81), (q147.2.1 82), (q147.2.1 83), (q147.2.1 84), (q147.2.1 85), (q147.2.1 86), (q147.2.1 87), (q147.2.1 88), (q147.2.1 89), (q147.2.1 90), (q147.2.1 91), (q147.2.1 92), (q147.2.1 101), (q147.2.1 102), (q147.2.1 103), (q147.2.1 104), (q147.2.1 105), (q147.2.1 106), (q147.2.1 107), (q147.2.1 108), G59, trivial⟩), (show y177 = 0 → (m.1 10) = 0 by omega), (show LxP y171 y173 y175 (m.1 6) y177 by first | (first | exact hLx | exact (fun _ => hLx (by omega)) | (intro h9; exfalso; omega)) | (exfalso; omega)), (show ∀ k, F39 k + F41 k ≤ 4000 by first | (exact hNM) | (exfalso; omega)), (show ∀ k, (m90.2 47) k + (m90.2 48) k ≤ 4000 by first | (exact hPA) | (exfalso; omega)), (fun (h : y177 = 0) => absurd h (by omega)), rfl⟩
                              · skip
                                refine T_gf 171 (.ref 220) rfl rfl rfl rfl rfl rfl ?_
                                refine T_ld 172 (.int (i32 (m.1 25))) rfl (fun _ => rfl) ?_
                                refine T_iald 173 50 (m145.2 50) rfl rfl rfl (by omega) (show (m.1 25) < (16 : Int) by omega) rfl ?_
                                have e190 : 0 ≤ (m145.2 50) (m.1 25) ∧ (m145.2 50) (m.1 25) ≤ 13 := (q147.2.1 50) (m.1 25)
                                refine T_ld 175 (.int (i32 12)) rfl (fun _ => rfl) ?_
                                refine T_icmp 187 178 rfl rfl rfl (r32 (by omega) (by omega)) ⟨by decide, by decide⟩ (fun (h191 : (m145.2 50) (m.1 25) ≠ 12) => ?_) (fun (h191 : ¬ ((m145.2 50) (m.1 25) ≠ 12)) => ?_)
                                · skip
                                  refine T_gf 191 (.int (i32 (m145.1 10))) rfl rfl rfl rfl rfl rfl ?_
                                  refine T_if 198 194 rfl rfl rfl (r32 (by omega) (by omega)) (fun (h192 : (m145.1 10) ≠ 0) => by exfalso; omega) (fun (h192 : ¬ ((m145.1 10) ≠ 0)) => ?_)
                                  refine T_ld 195 (.ref 189) rfl (fun _ => rfl) ?_
                                  refine T_call 198 270 [.ref 189] [] rfl (fun _ => rfl) rfl (c_takeStatement w (mO m [(7, (m145.1 7)), (8, (m145.1 8)), (9, (m145.1 9)), (10, (m145.1 10)), (11, (m145.1 11)), (12, (m145.1 12)), (13, y37), (25, (m.1 25) + 1), (28, (m145.1 28)), (64, (m.1 25)), (69, (m145.1 69)), (70, (m145.1 70)), (71, (m145.1 71)), (72, (m145.1 72)), (73, (m145.1 73)), (74, (m145.1 74)), (75, (m145.1 75)), (99, (m145.1 99)), (100, (m145.1 100))] [(14, F39), (15, F41), (16, F43), (17, F45), (46, (m90.2 46)), (47, (m90.2 47)), (48, (m90.2 48)), (49, (m90.2 49)), (50, (m145.2 50)), (65, (m145.2 65)), (66, (m145.2 66)), (67, (m145.2 67)), (68, (m145.2 68)), (76, (m145.2 76)), (77, (m145.2 77)), (78, (m145.2 78)), (79, (m145.2 79)), (80, (m145.2 80)), (81, (m145.2 81)), (82, (m145.2 82)), (83, (m145.2 83)), (84, (m145.2 84)), (85, (m145.2 85)), (86, (m145.2 86)), (87, (m145.2 87)), (88, (m145.2 88)), (89, (m145.2 89)), (90, (m145.2 90)), (91, (m145.2 91)), (92, (m145.2 92)), (101, (m145.2 101)), (102, (m145.2 102)), (103, (m145.2 103)), (104, (m145.2 104)), (105, (m145.2 105)), (106, (m145.2 106)), (107, (m145.2 107)), (108, (m145.2 108)), (109, upI (m.2 109) (m.1 25) (m.1 99))]) c N D (by omega) (Ty_mO hT rfl rfl ⟨(q147.1 7), (q147.1 8), (q147.1 9), (q147.1 10), (q147.1 11), (q147.1 12), g38, g58, (q147.1 28), g144, (q147.1 69), (q147.1 70), (q147.1 71), (q147.1 72), (q147.1 73), (q147.1 74), (q147.1 75), (q147.1 99), (q147.1 100), trivial⟩ ⟨G40, G42, G44, G46, (q93.2.1 46), (q93.2.1 47), (q93.2.1 48), (q93.2.1 49), (q147.2.1 50), (q147.2.1 65), (q147.2.1 66), (q147.2.1 67), (q147.2.1 68), (q147.2.1 76), (q147.2.1 77), (q147.2.1 78), (q147.2.1 79), (q147.2.1 80), (q147.2.1 81), (q147.2.1 82), (q147.2.1 83), (q147.2.1 84), (q147.2.1 85), (q147.2.1 86), (q147.2.1 87), (q147.2.1 88), (q147.2.1 89), (q147.2.1 90), (q147.2.1 91), (q147.2.1 92), (q147.2.1 101), (q147.2.1 102), (q147.2.1 103), (q147.2.1 104), (q147.2.1 105), (q147.2.1 106), (q147.2.1 107), (q147.2.1 108), G59, trivial⟩) (show LxP (m145.1 7) (m145.1 8) (m145.1 9) (m.1 6) (m145.1 10) by first | exact hLx | exact (fun _ => hLx (by omega)) | (intro h9; exfalso; omega)) (show ∀ k, F39 k + F41 k ≤ 4000 by assumption) (show ∀ k, (m.2 31) k + (m.2 32) k ≤ 4000 by assumption) (show ∀ k, (m90.2 47) k + (m90.2 48) k ≤ 4000 by assumption) (show (m145.1 99) ≤ 239 by omega) (show (m145.1 10) = 0 by omega) ⟨(show PN y37 (m.1 19) (m.1 20) (m.1 21) (m.1 22) (m.1 23) ((m.1 25) + 1) (m.1 26) F43 F45 by assumption), (show CN (m145.2 65) (m145.2 67) (m145.1 28) by assumption), (show (m145.1 7) ≠ 0 by omega), (show TdP (m145.2 65) (m145.1 28) (m.1 22) (m145.1 99) (m145.2 101) (m145.2 103) (m145.2 105) (m145.2 106) (m145.2 107) (m145.2 108) by assumption)⟩) (fun rr193 k194 => ?_)
                                  obtain ⟨m195, hT196, h197, h198, h199, c200, rfl⟩ := k194
                                  refine ⟨_, _, rfl, ?_⟩
                                  refine T_nf2 (st' := []) (l' := [(7, (m195.1 7)), (8, (m195.1 8)), (9, (m195.1 9)), (10, (m195.1 10)), (11, (m195.1 11)), (12, (m195.1 12)), (13, y37), (25, (m.1 25) + 1), (28, (m195.1 28)), (64, (m.1 25)), (69, (m195.1 69)), (70, (m195.1 70)), (71, (m195.1 71)), (72, (m195.1 72)), (73, (m195.1 73)), (74, (m195.1 74)), (75, (m195.1 75)), (99, (m195.1 99)), (100, (m195.1 100))]) (a' := [(14, F39), (15, F41), (16, F43), (17, F45), (46, (m90.2 46)), (47, (m90.2 47)), (48, (m90.2 48)), (49, (m90.2 49)), (50, (m145.2 50)), (65, (m195.2 65)), (66, (m195.2 66)), (67, (m195.2 67)), (68, (m195.2 68)), (76, (m195.2 76)), (77, (m195.2 77)), (78, (m195.2 78)), (79, (m195.2 79)), (80, (m195.2 80)), (81, (m195.2 81)), (82, (m195.2 82)), (83, (m195.2 83)), (84, (m195.2 84)), (85, (m195.2 85)), (86, (m195.2 86)), (87, (m195.2 87)), (88, (m195.2 88)), (89, (m195.2 89)), (90, (m195.2 90)), (91, (m195.2 91)), (92, (m195.2 92)), (101, (m195.2 101)), (102, (m195.2 102)), (103, (m195.2 103)), (104, (m195.2 104)), (105, (m195.2 105)), (106, (m195.2 106)), (107, (m195.2 107)), (108, (m195.2 108)), (109, upI (m.2 109) (m.1 25) (m.1 99))]) [7, 8, 9, 10, 11, 12, 28, 69, 70, 71, 72, 73, 74, 75, 99, 100] [65, 66, 67, 68, 76, 77, 78, 79, 80, 81, 82, 83, 84, 85, 86, 87, 88, 89, 90, 91, 92, 101, 102, 103, 104, 105, 106, 107, 108] rfl ⟨rfl, rfl, rfl, rfl, rfl, rfl, rfl, rfl, rfl, rfl, rfl, rfl, rfl, rfl, rfl, rfl, rfl, rfl, rfl, rfl, rfl, rfl, rfl, rfl, rfl, rfl, rfl, rfl, rfl, rfl, rfl, rfl, rfl, rfl, rfl, rfl, rfl, rfl, rfl, rfl, rfl, trivial⟩ ⟨rfl, rfl, rfl, rfl, rfl, rfl, rfl, rfl, rfl, rfl, rfl, rfl, rfl, rfl, rfl, rfl, rfl, rfl, rfl, rfl, rfl, rfl, rfl, rfl, rfl, rfl, rfl, rfl, rfl, rfl, rfl, rfl, rfl, rfl, rfl, rfl, rfl, rfl, rfl, rfl, rfl, rfl, rfl, rfl, rfl, rfl, rfl, rfl, rfl, rfl, rfl, rfl, rfl, rfl, rfl, rfl, rfl, rfl, rfl, rfl, rfl, rfl, rfl, rfl, rfl, rfl, rfl, rfl, rfl, rfl, rfl, rfl, rfl, rfl, rfl, rfl, rfl, rfl, rfl, rfl, rfl, rfl, rfl, rfl, rfl, rfl, rfl, trivial⟩ rfl rfl (by decide) (by decide) ?_
                                  have g201 : 0 ≤ m195.1 7 ∧ m195.1 7 ≤ 330 := hT196.1 7
                                  have g202 : 0 ≤ m195.1 8 ∧ m195.1 8 ≤ 4000 := hT196.1 8
                                  have g203 : 0 ≤ m195.1 9 ∧ m195.1 9 ≤ 4000 := hT196.1 9
                                  have g204 : 0 ≤ m195.1 10 ∧ m195.1 10 ≤ 8 := hT196.1 10
                                  have g205 : (-1) ≤ m195.1 11 ∧ m195.1 11 ≤ 4000 := hT196.1 11
                                  have g206 : (-9223372036854775808) ≤ m195.1 12 ∧ m195.1 12 ≤ 9223372036854775807 := hT196.1 12
                                  have g207 : 0 ≤ m195.1 28 ∧ m195.1 28 ≤ 800 := hT196.1 28
                                  have g208 : 0 ≤ m195.1 69 ∧ m195.1 69 ≤ 1024 := hT196.1 69
                                  have g209 : 0 ≤ m195.1 70 ∧ m195.1 70 ≤ 4000 := hT196.1 70
                                  have g210 : 0 ≤ m195.1 71 ∧ m195.1 71 ≤ 1 := hT196.1 71
                                  have g211 : (-9223372036854775808) ≤ m195.1 72 ∧ m195.1 72 ≤ 9223372036854775807 := hT196.1 72
                                  have g212 : 0 ≤ m195.1 73 ∧ m195.1 73 ≤ 60 := hT196.1 73
                                  have g213 : 0 ≤ m195.1 74 ∧ m195.1 74 ≤ 24 := hT196.1 74
                                  have g214 : 0 ≤ m195.1 75 ∧ m195.1 75 ≤ 3 := hT196.1 75
                                  have g215 : 0 ≤ m195.1 99 ∧ m195.1 99 ≤ 240 := hT196.1 99
                                  have g216 : 0 ≤ m195.1 100 ∧ m195.1 100 ≤ 64 := hT196.1 100
                                  by_cases hf217 : (m195.1 10) = 0
                                  · skip
                                    replace h197 : (m145.1 10) = 0 := h197 hf217
                                    replace h198 : LxP (m195.1 7) (m195.1 8) (m195.1 9) (m.1 6) (m195.1 10) := h198
                                    have hLx := h198
                                    replace h199 : (m195.1 99) = (m145.1 99) + 1 := h199
                                    obtain ⟨c218, c219, c220, c221, c222⟩ := c200 hf217
                                    replace c218 : (m145.1 8) + 1 ≤ (m195.1 8) := c218
                                    replace c219 : (m145.1 28) ≤ (m195.1 28) := c219
                                    replace c220 : CN (m195.2 65) (m195.2 67) (m195.1 28) := c220
                                    have hCN := c220
                                    replace c221 : agr (m145.2 65) (m195.2 65) (m145.1 28) := c221
                                    have hAg := c221
                                    replace c222 : TdP (m195.2 65) (m195.1 28) (m.1 22) (m195.1 99) (m195.2 101) (m195.2 103) (m195.2 105) (m195.2 106) (m195.2 107) (m195.2 108) := c222
                                    have pTd := c222
                                    clear c200
                                    have u223 : (m.1 8) + 1 ≤ (m195.1 8) := by omega
                                    have hAgC : agr (m.2 65) (m195.2 65) (m.1 28) := by first | exact agr_r _ _ | exact hAgC | exact agr_t hAgC hAg (by omega)
                                    clear q147_7 q147_9 q147_11 q147_12 q147_28 q147_69 q147_70 q147_71 q147_72 q147_73 q147_74 q147_75 q147_99 q147_100 ic148 c154 c155 c156 c157 c158 g165a g165b h166 h168 h199 c219 c221
                                    refine T_gf 202 (.ref 220) rfl rfl rfl rfl rfl rfl ?_
                                    refine T_ld 203 (.int (i32 (m.1 25))) rfl (fun _ => rfl) ?_
                                    refine T_dup2 204 rfl (fun _ => rfl) ?_
                                    refine T_iald 205 50 (m145.2 50) rfl rfl rfl (by omega) (show (m.1 25) < (16 : Int) by omega) rfl ?_
                                    have e224 : 0 ≤ (m145.2 50) (m.1 25) ∧ (m145.2 50) (m.1 25) ≤ 13 := (q147.2.1 50) (m.1 25)
                                    refine T_ld 206 (.int (i32 1)) rfl (fun _ => rfl) ?_
                                    refine T_iadd 207 rfl rfl ?_
                                    have G225 : ∀ j, 0 ≤ (upI (m145.2 50) (m.1 25) (((m145.2 50) (m.1 25)) + 1)) j ∧ (upI (m145.2 50) (m.1 25) (((m145.2 50) (m.1 25)) + 1)) j ≤ 13 := upI_rg (q147.2.1 50) ⟨by omega, by omega⟩
                                    refine T_iast (a' := [(14, F39), (15, F41), (16, F43), (17, F45), (46, (m90.2 46)), (47, (m90.2 47)), (48, (m90.2 48)), (49, (m90.2 49)), (50, upI (m145.2 50) (m.1 25) (((m145.2 50) (m.1 25)) + 1)), (65, (m195.2 65)), (66, (m195.2 66)), (67, (m195.2 67)), (68, (m195.2 68)), (76, (m195.2 76)), (77, (m195.2 77)), (78, (m195.2 78)), (79, (m195.2 79)), (80, (m195.2 80)), (81, (m195.2 81)), (82, (m195.2 82)), (83, (m195.2 83)), (84, (m195.2 84)), (85, (m195.2 85)), (86, (m195.2 86)), (87, (m195.2 87)), (88, (m195.2 88)), (89, (m195.2 89)), (90, (m195.2 90)), (91, (m195.2 91)), (92, (m195.2 92)), (101, (m195.2 101)), (102, (m195.2 102)), (103, (m195.2 103)), (104, (m195.2 104)), (105, (m195.2 105)), (106, (m195.2 106)), (107, (m195.2 107)), (108, (m195.2 108)), (109, upI (m.2 109) (m.1 25) (m.1 99))]) 208 50 (m145.2 50) rfl rfl rfl (by omega) (show (m.1 25) < (16 : Int) by omega) rfl rfl ?_
                                    refine T_goto 153 rfl (fun _ => rfl) ?_
                                    exact ih151 (mO m [(7, (m195.1 7)), (8, (m195.1 8)), (9, (m195.1 9)), (10, (m195.1 10)), (11, (m195.1 11)), (12, (m195.1 12)), (13, y37), (25, (m.1 25) + 1), (28, (m195.1 28)), (64, (m.1 25)), (69, (m195.1 69)), (70, (m195.1 70)), (71, (m195.1 71)), (72, (m195.1 72)), (73, (m195.1 73)), (74, (m195.1 74)), (75, (m195.1 75)), (99, (m195.1 99)), (100, (m195.1 100))] [(14, F39), (15, F41), (16, F43), (17, F45), (46, (m90.2 46)), (47, (m90.2 47)), (48, (m90.2 48)), (49, (m90.2 49)), (50, upI (m145.2 50) (m.1 25) (((m145.2 50) (m.1 25)) + 1)), (65, (m195.2 65)), (66, (m195.2 66)), (67, (m195.2 67)), (68, (m195.2 68)), (76, (m195.2 76)), (77, (m195.2 77)), (78, (m195.2 78)), (79, (m195.2 79)), (80, (m195.2 80)), (81, (m195.2 81)), (82, (m195.2 82)), (83, (m195.2 83)), (84, (m195.2 84)), (85, (m195.2 85)), (86, (m195.2 86)), (87, (m195.2 87)), (88, (m195.2 88)), (89, (m195.2 89)), (90, (m195.2 90)), (91, (m195.2 91)), (92, (m195.2 92)), (101, (m195.2 101)), (102, (m195.2 102)), (103, (m195.2 103)), (104, (m195.2 104)), (105, (m195.2 105)), (106, (m195.2 106)), (107, (m195.2 107)), (108, (m195.2 108)), (109, upI (m.2 109) (m.1 25) (m.1 99))]) (Ty_mO hT rfl rfl ⟨(hT196.1 7), (hT196.1 8), (hT196.1 9), (hT196.1 10), (hT196.1 11), (hT196.1 12), g38, g58, (hT196.1 28), g144, (hT196.1 69), (hT196.1 70), (hT196.1 71), (hT196.1 72), (hT196.1 73), (hT196.1 74), (hT196.1 75), (hT196.1 99), (hT196.1 100), trivial⟩ ⟨G40, G42, G44, G46, (q93.2.1 46), (q93.2.1 47), (q93.2.1 48), (q93.2.1 49), G225, (hT196.2.1 65), (hT196.2.1 66), (hT196.2.1 67), (hT196.2.1 68), (hT196.2.1 76), (hT196.2.1 77), (hT196.2.1 78), (hT196.2.1 79), (hT196.2.1 80), (hT196.2.1 81), (hT196.2.1 82), (hT196.2.1 83), (hT196.2.1 84), (hT196.2.1 85), (hT196.2.1 86), (hT196.2.1 87), (hT196.2.1 88), (hT196.2.1 89), (hT196.2.1 90), (hT196.2.1 91), (hT196.2.1 92), (hT196.2.1 101), (hT196.2.1 102), (hT196.2.1 103), (hT196.2.1 104), (hT196.2.1 105), (hT196.2.1 106), (hT196.2.1 107), (hT196.2.1 108), G59, trivial⟩) (show LxP (m195.1 7) (m195.1 8) (m195.1 9) (m.1 6) (m195.1 10) by exact hLx) (show (upI (m145.2 50) (m.1 25) (((m145.2 50) (m.1 25)) + 1)) (m.1 25) ≤ 13 by omega) (fun _ => ⟨(show (m.1 8) + 1 ≤ (m195.1 8) by omega), (show CN (m195.2 65) (m195.2 67) (m195.1 28) by exact hCN), (show (m.1 28) ≤ (m195.1 28) by omega), (show agr (m.2 65) (m195.2 65) (m.1 28) by exact hAgC), (show TdP (m195.2 65) (m195.1 28) (m.1 22) (m195.1 99) (m195.2 101) (m195.2 103) (m195.2 105) (m195.2 106) (m195.2 107) (m195.2 108) by exact pTd), (show (m195.1 99) = (m.1 99) + (upI (m145.2 50) (m.1 25) (((m145.2 50) (m.1 25)) + 1)) (m.1 25) by omega), (show (upI (m145.2 50) (m.1 25) (((m145.2 50) (m.1 25)) + 1)) (m.1 25) ≤ 12 by omega), (show agr (m.2 50) (upI (m145.2 50) (m.1 25) (((m145.2 50) (m.1 25)) + 1)) (m.1 25) by first | exact agr_u (Int.le_refl _) | exact agr_t hS1 (agr_u (Int.le_refl _)) (Int.le_refl _))⟩) (show 1000000 * (8 - (m195.1 10)) + (4000 - (m195.1 8)) < (n : Int) by omega)
                                  · skip
                                    clear c200
                                    clear h197
                                    replace h198 : LxP (m195.1 7) (m195.1 8) (m195.1 9) (m.1 6) (m195.1 10) := h198
                                    have hLx := h198
                                    replace h199 : (m195.1 99) = (m145.1 99) + 1 := h199
                                    have hf226 : 1 ≤ (m195.1 10) := by omega
                                    clear q147_7 q147_9 q147_11 q147_12 q147_28 q147_69 q147_70 q147_71 q147_72 q147_73 q147_74 q147_75 q147_99 q147_100 ic148 c154 c155 c156 c157 c158 g165a g165b h166 h168 h199
                                    refine T_gf 202 (.ref 220) rfl rfl rfl rfl rfl rfl ?_
                                    refine T_ld 203 (.int (i32 (m.1 25))) rfl (fun _ => rfl) ?_
                                    refine T_dup2 204 rfl (fun _ => rfl) ?_
                                    refine T_iald 205 50 (m145.2 50) rfl rfl rfl (by omega) (show (m.1 25) < (16 : Int) by omega) rfl ?_
                                    have e227 : 0 ≤ (m145.2 50) (m.1 25) ∧ (m145.2 50) (m.1 25) ≤ 13 := (q147.2.1 50) (m.1 25)
                                    refine T_ld 206 (.int (i32 1)) rfl (fun _ => rfl) ?_
                                    refine T_iadd 207 rfl rfl ?_
                                    have G228 : ∀ j, 0 ≤ (upI (m145.2 50) (m.1 25) (((m145.2 50) (m.1 25)) + 1)) j ∧ (upI (m145.2 50) (m.1 25) (((m145.2 50) (m.1 25)) + 1)) j ≤ 13 := upI_rg (q147.2.1 50) ⟨by omega, by omega⟩
                                    refine T_iast (a' := [(14, F39), (15, F41), (16, F43), (17, F45), (46, (m90.2 46)), (47, (m90.2 47)), (48, (m90.2 48)), (49, (m90.2 49)), (50, upI (m145.2 50) (m.1 25) (((m145.2 50) (m.1 25)) + 1)), (65, (m195.2 65)), (66, (m195.2 66)), (67, (m195.2 67)), (68, (m195.2 68)), (76, (m195.2 76)), (77, (m195.2 77)), (78, (m195.2 78)), (79, (m195.2 79)), (80, (m195.2 80)), (81, (m195.2 81)), (82, (m195.2 82)), (83, (m195.2 83)), (84, (m195.2 84)), (85, (m195.2 85)), (86, (m195.2 86)), (87, (m195.2 87)), (88, (m195.2 88)), (89, (m195.2 89)), (90, (m195.2 90)), (91, (m195.2 91)), (92, (m195.2 92)), (101, (m195.2 101)), (102, (m195.2 102)), (103, (m195.2 103)), (104, (m195.2 104)), (105, (m195.2 105)), (106, (m195.2 106)), (107, (m195.2 107)), (108, (m195.2 108)), (109, upI (m.2 109) (m.1 25) (m.1 99))]) 208 50 (m145.2 50) rfl rfl rfl (by omega) (show (m.1 25) < (16 : Int) by omega) rfl rfl ?_
                                    refine T_goto 153 rfl (fun _ => rfl) ?_
                                    exact ih151 (mO m [(7, (m195.1 7)), (8, (m195.1 8)), (9, (m195.1 9)), (10, (m195.1 10)), (11, (m195.1 11)), (12, (m195.1 12)), (13, y37), (25, (m.1 25) + 1), (28, (m195.1 28)), (64, (m.1 25)), (69, (m195.1 69)), (70, (m195.1 70)), (71, (m195.1 71)), (72, (m195.1 72)), (73, (m195.1 73)), (74, (m195.1 74)), (75, (m195.1 75)), (99, (m195.1 99)), (100, (m195.1 100))] [(14, F39), (15, F41), (16, F43), (17, F45), (46, (m90.2 46)), (47, (m90.2 47)), (48, (m90.2 48)), (49, (m90.2 49)), (50, upI (m145.2 50) (m.1 25) (((m145.2 50) (m.1 25)) + 1)), (65, (m195.2 65)), (66, (m195.2 66)), (67, (m195.2 67)), (68, (m195.2 68)), (76, (m195.2 76)), (77, (m195.2 77)), (78, (m195.2 78)), (79, (m195.2 79)), (80, (m195.2 80)), (81, (m195.2 81)), (82, (m195.2 82)), (83, (m195.2 83)), (84, (m195.2 84)), (85, (m195.2 85)), (86, (m195.2 86)), (87, (m195.2 87)), (88, (m195.2 88)), (89, (m195.2 89)), (90, (m195.2 90)), (91, (m195.2 91)), (92, (m195.2 92)), (101, (m195.2 101)), (102, (m195.2 102)), (103, (m195.2 103)), (104, (m195.2 104)), (105, (m195.2 105)), (106, (m195.2 106)), (107, (m195.2 107)), (108, (m195.2 108)), (109, upI (m.2 109) (m.1 25) (m.1 99))]) (Ty_mO hT rfl rfl ⟨(hT196.1 7), (hT196.1 8), (hT196.1 9), (hT196.1 10), (hT196.1 11), (hT196.1 12), g38, g58, (hT196.1 28), g144, (hT196.1 69), (hT196.1 70), (hT196.1 71), (hT196.1 72), (hT196.1 73), (hT196.1 74), (hT196.1 75), (hT196.1 99), (hT196.1 100), trivial⟩ ⟨G40, G42, G44, G46, (q93.2.1 46), (q93.2.1 47), (q93.2.1 48), (q93.2.1 49), G228, (hT196.2.1 65), (hT196.2.1 66), (hT196.2.1 67), (hT196.2.1 68), (hT196.2.1 76), (hT196.2.1 77), (hT196.2.1 78), (hT196.2.1 79), (hT196.2.1 80), (hT196.2.1 81), (hT196.2.1 82), (hT196.2.1 83), (hT196.2.1 84), (hT196.2.1 85), (hT196.2.1 86), (hT196.2.1 87), (hT196.2.1 88), (hT196.2.1 89), (hT196.2.1 90), (hT196.2.1 91), (hT196.2.1 92), (hT196.2.1 101), (hT196.2.1 102), (hT196.2.1 103), (hT196.2.1 104), (hT196.2.1 105), (hT196.2.1 106), (hT196.2.1 107), (hT196.2.1 108), G59, trivial⟩) (show LxP (m195.1 7) (m195.1 8) (m195.1 9) (m.1 6) (m195.1 10) by exact hLx) (show (upI (m145.2 50) (m.1 25) (((m145.2 50) (m.1 25)) + 1)) (m.1 25) ≤ 13 by omega) (fun (h : (m195.1 10) = 0) => absurd h (by omega)) (show 1000000 * (8 - (m195.1 10)) + (4000 - (m195.1 8)) < (n : Int) by omega)
                                · skip
                                  refine T_ld 179 (.ref 189) rfl (fun _ => rfl) ?_
                                  refine T_ld 180 (.int (i32 4)) rfl (fun _ => rfl) ?_
                                  refine T_gf 184 (.int (i32 (m145.1 8))) rfl rfl rfl rfl rfl rfl ?_
                                  refine T_call 187 222 [.ref 189, .int (i32 4), .int (i32 (m145.1 8))] [] rfl (fun _ => rfl) rfl (c_wrong w (mO m [(7, (m145.1 7)), (8, (m145.1 8)), (9, (m145.1 9)), (10, (m145.1 10)), (11, (m145.1 11)), (12, (m145.1 12)), (13, y37), (25, (m.1 25) + 1), (28, (m145.1 28)), (64, (m.1 25)), (69, (m145.1 69)), (70, (m145.1 70)), (71, (m145.1 71)), (72, (m145.1 72)), (73, (m145.1 73)), (74, (m145.1 74)), (75, (m145.1 75)), (99, (m145.1 99)), (100, (m145.1 100))] [(14, F39), (15, F41), (16, F43), (17, F45), (46, (m90.2 46)), (47, (m90.2 47)), (48, (m90.2 48)), (49, (m90.2 49)), (50, (m145.2 50)), (65, (m145.2 65)), (66, (m145.2 66)), (67, (m145.2 67)), (68, (m145.2 68)), (76, (m145.2 76)), (77, (m145.2 77)), (78, (m145.2 78)), (79, (m145.2 79)), (80, (m145.2 80)), (81, (m145.2 81)), (82, (m145.2 82)), (83, (m145.2 83)), (84, (m145.2 84)), (85, (m145.2 85)), (86, (m145.2 86)), (87, (m145.2 87)), (88, (m145.2 88)), (89, (m145.2 89)), (90, (m145.2 90)), (91, (m145.2 91)), (92, (m145.2 92)), (101, (m145.2 101)), (102, (m145.2 102)), (103, (m145.2 103)), (104, (m145.2 104)), (105, (m145.2 105)), (106, (m145.2 106)), (107, (m145.2 107)), (108, (m145.2 108)), (109, upI (m.2 109) (m.1 25) (m.1 99))]) c N D (by omega) (Ty_mO hT rfl rfl ⟨(q147.1 7), (q147.1 8), (q147.1 9), (q147.1 10), (q147.1 11), (q147.1 12), g38, g58, (q147.1 28), g144, (q147.1 69), (q147.1 70), (q147.1 71), (q147.1 72), (q147.1 73), (q147.1 74), (q147.1 75), (q147.1 99), (q147.1 100), trivial⟩ ⟨G40, G42, G44, G46, (q93.2.1 46), (q93.2.1 47), (q93.2.1 48), (q93.2.1 49), (q147.2.1 50), (q147.2.1 65), (q147.2.1 66), (q147.2.1 67), (q147.2.1 68), (q147.2.1 76), (q147.2.1 77), (q147.2.1 78), (q147.2.1 79), (q147.2.1 80), (q147.2.1 81), (q147.2.1 82), (q147.2.1 83), (q147.2.1 84), (q147.2.1 85), (q147.2.1 86), (q147.2.1 87), (q147.2.1 88), (q147.2.1 89), (q147.2.1 90), (q147.2.1 91), (q147.2.1 92), (q147.2.1 101), (q147.2.1 102), (q147.2.1 103), (q147.2.1 104), (q147.2.1 105), (q147.2.1 106), (q147.2.1 107), (q147.2.1 108), G59, trivial⟩) 4 (m145.1 8) ⟨by decide, by decide⟩ (r32 (by omega) (by omega)) (show 1 ≤ (4 : Int) ∧ (4 : Int) ≤ 8 by omega) (show 0 ≤ (m145.1 8) ∧ (m145.1 8) ≤ 4000 by omega)) (fun rr229 k230 => ?_)
                                  obtain ⟨y231, y233, g232, g234, h235, rfl⟩ := k230
                                  refine ⟨_, _, rfl, ?_⟩
                                  refine T_nf2 (st' := []) (l' := [(7, (m145.1 7)), (8, (m145.1 8)), (9, (m145.1 9)), (10, y231), (11, y233), (12, (m145.1 12)), (13, y37), (25, (m.1 25) + 1), (28, (m145.1 28)), (64, (m.1 25)), (69, (m145.1 69)), (70, (m145.1 70)), (71, (m145.1 71)), (72, (m145.1 72)), (73, (m145.1 73)), (74, (m145.1 74)), (75, (m145.1 75)), (99, (m145.1 99)), (100, (m145.1 100))]) (a' := [(14, F39), (15, F41), (16, F43), (17, F45), (46, (m90.2 46)), (47, (m90.2 47)), (48, (m90.2 48)), (49, (m90.2 49)), (50, (m145.2 50)), (65, (m145.2 65)), (66, (m145.2 66)), (67, (m145.2 67)), (68, (m145.2 68)), (76, (m145.2 76)), (77, (m145.2 77)), (78, (m145.2 78)), (79, (m145.2 79)), (80, (m145.2 80)), (81, (m145.2 81)), (82, (m145.2 82)), (83, (m145.2 83)), (84, (m145.2 84)), (85, (m145.2 85)), (86, (m145.2 86)), (87, (m145.2 87)), (88, (m145.2 88)), (89, (m145.2 89)), (90, (m145.2 90)), (91, (m145.2 91)), (92, (m145.2 92)), (101, (m145.2 101)), (102, (m145.2 102)), (103, (m145.2 103)), (104, (m145.2 104)), (105, (m145.2 105)), (106, (m145.2 106)), (107, (m145.2 107)), (108, (m145.2 108)), (109, upI (m.2 109) (m.1 25) (m.1 99))]) [10, 11] [] rfl ⟨rfl, rfl, rfl, rfl, rfl, rfl, rfl, rfl, rfl, rfl, rfl, rfl, rfl, rfl, rfl, rfl, rfl, rfl, rfl, rfl, rfl, rfl, rfl, rfl, rfl, rfl, rfl, rfl, rfl, rfl, rfl, rfl, rfl, rfl, rfl, rfl, rfl, rfl, rfl, rfl, rfl, trivial⟩ ⟨rfl, rfl, rfl, rfl, rfl, rfl, rfl, rfl, rfl, rfl, rfl, rfl, rfl, rfl, rfl, rfl, rfl, rfl, rfl, rfl, rfl, rfl, rfl, rfl, rfl, rfl, rfl, rfl, rfl, rfl, rfl, rfl, rfl, rfl, rfl, rfl, rfl, rfl, rfl, rfl, rfl, rfl, rfl, rfl, rfl, rfl, rfl, rfl, rfl, rfl, rfl, rfl, rfl, rfl, rfl, rfl, rfl, rfl, rfl, rfl, rfl, rfl, rfl, rfl, rfl, rfl, rfl, rfl, rfl, rfl, rfl, rfl, rfl, rfl, rfl, rfl, rfl, rfl, trivial⟩ rfl rfl (by decide) (by decide) ?_
                                  replace h235 : (0 < (m145.1 10) → y231 = (m145.1 10) ∧ y233 = (m145.1 11)) ∧ ((m145.1 10) ≤ 0 → y231 = (4 : Int) ∧ y233 = (m145.1 8)) := h235
                                  have hf236 : 1 ≤ y231 := by omega
                                  clear q147_11 g165a g165b h166 h168 h235
                                  refine T_gf 191 (.int (i32 y231)) rfl rfl rfl rfl rfl rfl ?_
                                  refine T_if 198 194 rfl rfl rfl (r32 (by omega) (by omega)) (fun (h237 : y231 ≠ 0) => ?_) (fun (h237 : ¬ (y231 ≠ 0)) => by exfalso; omega)
                                  refine T_gf 202 (.ref 220) rfl rfl rfl rfl rfl rfl ?_
                                  refine T_ld 203 (.int (i32 (m.1 25))) rfl (fun _ => rfl) ?_
                                  refine T_dup2 204 rfl (fun _ => rfl) ?_
                                  refine T_iald 205 50 (m145.2 50) rfl rfl rfl (by omega) (show (m.1 25) < (16 : Int) by omega) rfl ?_
                                  have e238 : 0 ≤ (m145.2 50) (m.1 25) ∧ (m145.2 50) (m.1 25) ≤ 13 := (q147.2.1 50) (m.1 25)
                                  refine T_ld 206 (.int (i32 1)) rfl (fun _ => rfl) ?_
                                  refine T_iadd 207 rfl rfl ?_
                                  have G239 : ∀ j, 0 ≤ (upI (m145.2 50) (m.1 25) (((m145.2 50) (m.1 25)) + 1)) j ∧ (upI (m145.2 50) (m.1 25) (((m145.2 50) (m.1 25)) + 1)) j ≤ 13 := upI_rg (q147.2.1 50) ⟨by omega, by omega⟩
                                  refine T_iast (a' := [(14, F39), (15, F41), (16, F43), (17, F45), (46, (m90.2 46)), (47, (m90.2 47)), (48, (m90.2 48)), (49, (m90.2 49)), (50, upI (m145.2 50) (m.1 25) (((m145.2 50) (m.1 25)) + 1)), (65, (m145.2 65)), (66, (m145.2 66)), (67, (m145.2 67)), (68, (m145.2 68)), (76, (m145.2 76)), (77, (m145.2 77)), (78, (m145.2 78)), (79, (m145.2 79)), (80, (m145.2 80)), (81, (m145.2 81)), (82, (m145.2 82)), (83, (m145.2 83)), (84, (m145.2 84)), (85, (m145.2 85)), (86, (m145.2 86)), (87, (m145.2 87)), (88, (m145.2 88)), (89, (m145.2 89)), (90, (m145.2 90)), (91, (m145.2 91)), (92, (m145.2 92)), (101, (m145.2 101)), (102, (m145.2 102)), (103, (m145.2 103)), (104, (m145.2 104)), (105, (m145.2 105)), (106, (m145.2 106)), (107, (m145.2 107)), (108, (m145.2 108)), (109, upI (m.2 109) (m.1 25) (m.1 99))]) 208 50 (m145.2 50) rfl rfl rfl (by omega) (show (m.1 25) < (16 : Int) by omega) rfl rfl ?_
                                  refine T_goto 153 rfl (fun _ => rfl) ?_
                                  exact ih151 (mO m [(7, (m145.1 7)), (8, (m145.1 8)), (9, (m145.1 9)), (10, y231), (11, y233), (12, (m145.1 12)), (13, y37), (25, (m.1 25) + 1), (28, (m145.1 28)), (64, (m.1 25)), (69, (m145.1 69)), (70, (m145.1 70)), (71, (m145.1 71)), (72, (m145.1 72)), (73, (m145.1 73)), (74, (m145.1 74)), (75, (m145.1 75)), (99, (m145.1 99)), (100, (m145.1 100))] [(14, F39), (15, F41), (16, F43), (17, F45), (46, (m90.2 46)), (47, (m90.2 47)), (48, (m90.2 48)), (49, (m90.2 49)), (50, upI (m145.2 50) (m.1 25) (((m145.2 50) (m.1 25)) + 1)), (65, (m145.2 65)), (66, (m145.2 66)), (67, (m145.2 67)), (68, (m145.2 68)), (76, (m145.2 76)), (77, (m145.2 77)), (78, (m145.2 78)), (79, (m145.2 79)), (80, (m145.2 80)), (81, (m145.2 81)), (82, (m145.2 82)), (83, (m145.2 83)), (84, (m145.2 84)), (85, (m145.2 85)), (86, (m145.2 86)), (87, (m145.2 87)), (88, (m145.2 88)), (89, (m145.2 89)), (90, (m145.2 90)), (91, (m145.2 91)), (92, (m145.2 92)), (101, (m145.2 101)), (102, (m145.2 102)), (103, (m145.2 103)), (104, (m145.2 104)), (105, (m145.2 105)), (106, (m145.2 106)), (107, (m145.2 107)), (108, (m145.2 108)), (109, upI (m.2 109) (m.1 25) (m.1 99))]) (Ty_mO hT rfl rfl ⟨(q147.1 7), (q147.1 8), (q147.1 9), g232, g234, (q147.1 12), g38, g58, (q147.1 28), g144, (q147.1 69), (q147.1 70), (q147.1 71), (q147.1 72), (q147.1 73), (q147.1 74), (q147.1 75), (q147.1 99), (q147.1 100), trivial⟩ ⟨G40, G42, G44, G46, (q93.2.1 46), (q93.2.1 47), (q93.2.1 48), (q93.2.1 49), G239, (q147.2.1 65), (q147.2.1 66), (q147.2.1 67), (q147.2.1 68), (q147.2.1 76), (q147.2.1 77), (q147.2.1 78), (q147.2.1 79), (q147.2.1 80), (q147.2.1 81), (q147.2.1 82), (q147.2.1 83), (q147.2.1 84), (q147.2.1 85), (q147.2.1 86), (q147.2.1 87), (q147.2.1 88), (q147.2.1 89), (q147.2.1 90), (q147.2.1 91), (q147.2.1 92), (q147.2.1 101), (q147.2.1 102), (q147.2.1 103), (q147.2.1 104), (q147.2.1 105), (q147.2.1 106), (q147.2.1 107), (q147.2.1 108), G59, trivial⟩) (show LxP (m145.1 7) (m145.1 8) (m145.1 9) (m.1 6) y231 by exact hLx) (show (upI (m145.2 50) (m.1 25) (((m145.2 50) (m.1 25)) + 1)) (m.1 25) ≤ 13 by omega) (fun (h : y231 = 0) => absurd h (by omega)) (show 1000000 * (8 - y231) + (4000 - (m145.1 8)) < (n : Int) by omega)
                            · skip
                              clear c150
                              have hf240 : 1 ≤ (m145.1 10) := by omega
                              refine T_gf 157 (.int (i32 (m145.1 10))) rfl rfl rfl rfl rfl rfl ?_
                              refine T_if 211 160 rfl rfl rfl (r32 (by omega) (by omega)) (fun (h241 : (m145.1 10) ≠ 0) => ?_) (fun (h241 : ¬ ((m145.1 10) ≠ 0)) => by exfalso; omega)
                              refine T_ld 212 (.ref 189) rfl (fun _ => rfl) ?_
                              refine T_ld 213 (.int (i32 (-1))) rfl (fun _ => rfl) ?_
                              refine T_pf (l' := [(7, (m145.1 7)), (8, (m145.1 8)), (9, (m145.1 9)), (10, (m145.1 10)), (11, (m145.1 11)), (12, (m145.1 12)), (13, y37), (25, (m.1 25) + 1), (28, (m145.1 28)), (64, (-1)), (69, (m145.1 69)), (70, (m145.1 70)), (71, (m145.1 71)), (72, (m145.1 72)), (73, (m145.1 73)), (74, (m145.1 74)), (75, (m145.1 75)), (99, (m145.1 99)), (100, (m145.1 100))]) 216 (-1) rfl rfl rfl rfl rfl rfl ?_
                              refine T_ld 217 (.ref 189) rfl (fun _ => rfl) ?_
                              refine T_ld 219 (.int (i32 125)) rfl (fun _ => rfl) ?_
                              refine T_call 222 232 [.ref 189, .int (i32 125)] [] rfl (fun _ => rfl) rfl (c_need w (mO m [(7, (m145.1 7)), (8, (m145.1 8)), (9, (m145.1 9)), (10, (m145.1 10)), (11, (m145.1 11)), (12, (m145.1 12)), (13, y37), (25, (m.1 25) + 1), (28, (m145.1 28)), (64, (-1)), (69, (m145.1 69)), (70, (m145.1 70)), (71, (m145.1 71)), (72, (m145.1 72)), (73, (m145.1 73)), (74, (m145.1 74)), (75, (m145.1 75)), (99, (m145.1 99)), (100, (m145.1 100))] [(14, F39), (15, F41), (16, F43), (17, F45), (46, (m90.2 46)), (47, (m90.2 47)), (48, (m90.2 48)), (49, (m90.2 49)), (50, (m145.2 50)), (65, (m145.2 65)), (66, (m145.2 66)), (67, (m145.2 67)), (68, (m145.2 68)), (76, (m145.2 76)), (77, (m145.2 77)), (78, (m145.2 78)), (79, (m145.2 79)), (80, (m145.2 80)), (81, (m145.2 81)), (82, (m145.2 82)), (83, (m145.2 83)), (84, (m145.2 84)), (85, (m145.2 85)), (86, (m145.2 86)), (87, (m145.2 87)), (88, (m145.2 88)), (89, (m145.2 89)), (90, (m145.2 90)), (91, (m145.2 91)), (92, (m145.2 92)), (101, (m145.2 101)), (102, (m145.2 102)), (103, (m145.2 103)), (104, (m145.2 104)), (105, (m145.2 105)), (106, (m145.2 106)), (107, (m145.2 107)), (108, (m145.2 108)), (109, upI (m.2 109) (m.1 25) (m.1 99))]) c N D (by omega) (Ty_mO hT rfl rfl ⟨(q147.1 7), (q147.1 8), (q147.1 9), (q147.1 10), (q147.1 11), (q147.1 12), g38, g58, (q147.1 28), ⟨(by omega : ((-1) : Int) ≤ (-1)), (by omega : ((-1) : Int) ≤ 15)⟩, (q147.1 69), (q147.1 70), (q147.1 71), (q147.1 72), (q147.1 73), (q147.1 74), (q147.1 75), (q147.1 99), (q147.1 100), trivial⟩ ⟨G40, G42, G44, G46, (q93.2.1 46), (q93.2.1 47), (q93.2.1 48), (q93.2.1 49), (q147.2.1 50), (q147.2.1 65), (q147.2.1 66), (q147.2.1 67), (q147.2.1 68), (q147.2.1 76), (q147.2.1 77), (q147.2.1 78), (q147.2.1 79), (q147.2.1 80), (q147.2.1 81), (q147.2.1 82), (q147.2.1 83), (q147.2.1 84), (q147.2.1 85), (q147.2.1 86), (q147.2.1 87), (q147.2.1 88), (q147.2.1 89), (q147.2.1 90), (q147.2.1 91), (q147.2.1 92), (q147.2.1 101), (q147.2.1 102), (q147.2.1 103), (q147.2.1 104), (q147.2.1 105), (q147.2.1 106), (q147.2.1 107), (q147.2.1 108), G59, trivial⟩) 125 ⟨by decide, by decide⟩ (show 1 ≤ (125 : Int) by omega) (show LxP (m145.1 7) (m145.1 8) (m145.1 9) (m.1 6) (m145.1 10) by first | exact hLx | (intro h9; exfalso; omega) | (intro h9; have h8 := hLx (by omega); omega))) (fun rr242 k243 => ?_)
                              obtain ⟨y244, y246, y248, y250, y252, y254, g245, g247, g249, g251, g253, g255, h256, h257, h258, h259, rfl⟩ := k243
                              refine ⟨_, _, rfl, ?_⟩
                              refine T_nf2 (st' := []) (l' := [(7, y244), (8, y246), (9, y248), (10, y250), (11, y252), (12, y254), (13, y37), (25, (m.1 25) + 1), (28, (m145.1 28)), (64, (-1)), (69, (m145.1 69)), (70, (m145.1 70)), (71, (m145.1 71)), (72, (m145.1 72)), (73, (m145.1 73)), (74, (m145.1 74)), (75, (m145.1 75)), (99, (m145.1 99)), (100, (m145.1 100))]) (a' := [(14, F39), (15, F41), (16, F43), (17, F45), (46, (m90.2 46)), (47, (m90.2 47)), (48, (m90.2 48)), (49, (m90.2 49)), (50, (m145.2 50)), (65, (m145.2 65)), (66, (m145.2 66)), (67, (m145.2 67)), (68, (m145.2 68)), (76, (m145.2 76)), (77, (m145.2 77)), (78, (m145.2 78)), (79, (m145.2 79)), (80, (m145.2 80)), (81, (m145.2 81)), (82, (m145.2 82)), (83, (m145.2 83)), (84, (m145.2 84)), (85, (m145.2 85)), (86, (m145.2 86)), (87, (m145.2 87)), (88, (m145.2 88)), (89, (m145.2 89)), (90, (m145.2 90)), (91, (m145.2 91)), (92, (m145.2 92)), (101, (m145.2 101)), (102, (m145.2 102)), (103, (m145.2 103)), (104, (m145.2 104)), (105, (m145.2 105)), (106, (m145.2 106)), (107, (m145.2 107)), (108, (m145.2 108)), (109, upI (m.2 109) (m.1 25) (m.1 99))]) [7, 8, 9, 10, 11, 12] [] rfl ⟨rfl, rfl, rfl, rfl, rfl, rfl, rfl, rfl, rfl, rfl, rfl, rfl, rfl, rfl, rfl, rfl, rfl, rfl, rfl, rfl, rfl, rfl, rfl, rfl, rfl, rfl, rfl, rfl, rfl, rfl, rfl, rfl, rfl, rfl, rfl, rfl, rfl, rfl, trivial⟩ ⟨rfl, rfl, rfl, rfl, rfl, rfl, rfl, rfl, rfl, rfl, rfl, rfl, rfl, rfl, rfl, rfl, rfl, rfl, rfl, rfl, rfl, rfl, rfl, rfl, rfl, rfl, rfl, rfl, rfl, rfl, rfl, rfl, rfl, rfl, rfl, rfl, rfl, rfl, rfl, rfl, rfl, rfl, rfl, rfl, rfl, rfl, rfl, rfl, rfl, rfl, rfl, rfl, rfl, rfl, rfl, rfl, rfl, rfl, rfl, rfl, rfl, rfl, rfl, rfl, rfl, rfl, rfl, rfl, rfl, rfl, rfl, rfl, rfl, rfl, rfl, rfl, rfl, rfl, trivial⟩ rfl rfl (by decide) (by decide) ?_
                              replace h256 : LxP y244 y246 y248 (m.1 6) y250 := h256
                              replace h257 : y250 = 0 → (m145.1 10) = 0 ∧ (m145.1 7) = (125 : Int) := h257
                              replace h258 : (m145.1 8) ≤ y246 := h258
                              replace h259 : y250 = 0 → (m145.1 8) + (m145.1 9) ≤ y246 := h259
                              have hf260 : 1 ≤ y250 := by omega
                              clear h257
                              clear h259
                              have hLx := h256
                              clear g127 g129 g131 g135 g137 h138 u143 q147_7 q147_9 q147_11 q147_12 ic148
                              refine T_ret rfl (fun _ => rfl) ?_
                              exact ⟨(mO m [(7, y244), (8, y246), (9, y248), (10, y250), (11, y252), (12, y254), (13, y37), (25, (m.1 25) + 1), (28, (m145.1 28)), (64, (-1)), (69, (m145.1 69)), (70, (m145.1 70)), (71, (m145.1 71)), (72, (m145.1 72)), (73, (m145.1 73)), (74, (m145.1 74)), (75, (m145.1 75)), (99, (m145.1 99)), (100, (m145.1 100))] [(14, F39), (15, F41), (16, F43), (17, F45), (46, (m90.2 46)), (47, (m90.2 47)), (48, (m90.2 48)), (49, (m90.2 49)), (50, (m145.2 50)), (65, (m145.2 65)), (66, (m145.2 66)), (67, (m145.2 67)), (68, (m145.2 68)), (76, (m145.2 76)), (77, (m145.2 77)), (78, (m145.2 78)), (79, (m145.2 79)), (80, (m145.2 80)), (81, (m145.2 81)), (82, (m145.2 82)), (83, (m145.2 83)), (84, (m145.2 84)), (85, (m145.2 85)), (86, (m145.2 86)), (87, (m145.2 87)), (88, (m145.2 88)), (89, (m145.2 89)), (90, (m145.2 90)), (91, (m145.2 91)), (92, (m145.2 92)), (101, (m145.2 101)), (102, (m145.2 102)), (103, (m145.2 103)), (104, (m145.2 104)), (105, (m145.2 105)), (106, (m145.2 106)), (107, (m145.2 107)), (108, (m145.2 108)), (109, upI (m.2 109) (m.1 25) (m.1 99))]), (Ty_mO hT rfl rfl ⟨g245, g247, g249, g251, g253, g255, g38, g58, (q147.1 28), ⟨(by omega : ((-1) : Int) ≤ (-1)), (by omega : ((-1) : Int) ≤ 15)⟩, (q147.1 69), (q147.1 70), (q147.1 71), (q147.1 72), (q147.1 73), (q147.1 74), (q147.1 75), (q147.1 99), (q147.1 100), trivial⟩ ⟨G40, G42, G44, G46, (q93.2.1 46), (q93.2.1 47), (q93.2.1 48), (q93.2.1 49), (q147.2.1 50), (q147.2.1 65), (q147.2.1 66), (q147.2.1 67), (q147.2.1 68), (q147.2.1 76), (q147.2.1 77), (q147.2.1 78), (q147.2.1 79), (q147.2.1 80), (q147.2.1 81), (q147.2.1 82), (q147.2.1 83), (q147.2.1 84), (q147.2.1 85), (q147.2.1 86), (q147.2.1 87), (q147.2.1 88), (q147.2.1 89), (q147.2.1 90), (q147.2.1 91), (q147.2.1 92), (q147.2.1 101), (q147.2.1 102), (q147.2.1 103), (q147.2.1 104), (q147.2.1 105), (q147.2.1 106), (q147.2.1 107), (q147.2.1 108), G59, trivial⟩), (show y250 = 0 → (m.1 10) = 0 by omega), (show LxP y244 y246 y248 (m.1 6) y250 by first | (first | exact hLx | exact (fun _ => hLx (by omega)) | (intro h9; exfalso; omega)) | (exfalso; omega)), (show ∀ k, F39 k + F41 k ≤ 4000 by first | (exact hNM) | (exfalso; omega)), (show ∀ k, (m90.2 47) k + (m90.2 48) k ≤ 4000 by first | (exact hPA) | (exfalso; omega)), (fun (h : y250 = 0) => absurd h (by omega)), rfl⟩
                        exact L153_146 ((1000000 * (8 - (0 : Int)) + (4000 - y128) : Int) + 1).toNat (mO m [(7, y126), (8, y128), (9, y130), (10, 0), (11, y134), (12, y136), (13, y37), (25, (m.1 25) + 1), (28, (m.1 28)), (64, (m.1 25)), (69, (m.1 69)), (70, (m.1 70)), (71, (m.1 71)), (72, (m.1 72)), (73, (m.1 73)), (74, (m.1 74)), (75, (m.1 75)), (99, (m.1 99)), (100, (m.1 100))] [(14, F39), (15, F41), (16, F43), (17, F45), (46, (m90.2 46)), (47, (m90.2 47)), (48, (m90.2 48)), (49, (m90.2 49)), (50, upI (m.2 50) (m.1 25) 0), (65, (m.2 65)), (66, (m.2 66)), (67, (m.2 67)), (68, (m.2 68)), (76, (m.2 76)), (77, (m.2 77)), (78, (m.2 78)), (79, (m.2 79)), (80, (m.2 80)), (81, (m.2 81)), (82, (m.2 82)), (83, (m.2 83)), (84, (m.2 84)), (85, (m.2 85)), (86, (m.2 86)), (87, (m.2 87)), (88, (m.2 88)), (89, (m.2 89)), (90, (m.2 90)), (91, (m.2 91)), (92, (m.2 92)), (101, (m.2 101)), (102, (m.2 102)), (103, (m.2 103)), (104, (m.2 104)), (105, (m.2 105)), (106, (m.2 106)), (107, (m.2 107)), (108, (m.2 108)), (109, upI (m.2 109) (m.1 25) (m.1 99))]) (Ty_mO hT rfl rfl ⟨g127, g129, g131, ⟨(by omega : (0 : Int) ≤ 0), (by omega : (0 : Int) ≤ 8)⟩, g135, g137, g38, g58, f28, g144, f69, f70, f71, f72, f73, f74, f75, f99, f100, trivial⟩ ⟨G40, G42, G44, G46, (q93.2.1 46), (q93.2.1 47), (q93.2.1 48), (q93.2.1 49), G61, (hT.2.1 65), (hT.2.1 66), (hT.2.1 67), (hT.2.1 68), (hT.2.1 76), (hT.2.1 77), (hT.2.1 78), (hT.2.1 79), (hT.2.1 80), (hT.2.1 81), (hT.2.1 82), (hT.2.1 83), (hT.2.1 84), (hT.2.1 85), (hT.2.1 86), (hT.2.1 87), (hT.2.1 88), (hT.2.1 89), (hT.2.1 90), (hT.2.1 91), (hT.2.1 92), (hT.2.1 101), (hT.2.1 102), (hT.2.1 103), (hT.2.1 104), (hT.2.1 105), (hT.2.1 106), (hT.2.1 107), (hT.2.1 108), G59, trivial⟩) (show LxP y126 y128 y130 (m.1 6) (0 : Int) by exact hLx) (show (upI (m.2 50) (m.1 25) 0) (m.1 25) ≤ 13 by omega) (fun _ => ⟨(show (m.1 8) + 1 ≤ y128 by omega), (show CN (m.2 65) (m.2 67) (m.1 28) by exact hCN), (show (m.1 28) ≤ (m.1 28) by omega), (show agr (m.2 65) (m.2 65) (m.1 28) by exact hAgC), (show TdP (m.2 65) (m.1 28) (m.1 22) (m.1 99) (m.2 101) (m.2 103) (m.2 105) (m.2 106) (m.2 107) (m.2 108) by exact pTd), (show (m.1 99) = (m.1 99) + (upI (m.2 50) (m.1 25) 0) (m.1 25) by omega), (show (upI (m.2 50) (m.1 25) 0) (m.1 25) ≤ 12 by omega), (show agr (m.2 50) (upI (m.2 50) (m.1 25) 0) (m.1 25) by first | exact agr_u (Int.le_refl _) | exact agr_t hS1 (agr_u (Int.le_refl _)) (Int.le_refl _))⟩) (show 1000000 * (8 - (0 : Int)) + (4000 - y128) < ((((1000000 * (8 - (0 : Int)) + (4000 - y128) : Int) + 1).toNat : Nat) : Int) by omega)
                      · skip
                        replace h138 : LxP y126 y128 y130 (m.1 6) y132 := h138
                        have hLx := h138
                        clear h139
                        replace h140 : y108 ≤ y128 := h140
                        clear h141
                        have hf261 : 1 ≤ y132 := by omega
                        clear g107 g109 g111 g115 g117 h118 h120 u123 h140
                        refine T_ld 149 (.ref 189) rfl (fun _ => rfl) ?_
                        refine T_ld 150 (.int (i32 (m.1 25))) rfl (fun _ => rfl) ?_
                        refine T_pf (l' := [(7, y126), (8, y128), (9, y130), (10, y132), (11, y134), (12, y136), (13, y37), (25, (m.1 25) + 1), (28, (m.1 28)), (64, (m.1 25)), (69, (m.1 69)), (70, (m.1 70)), (71, (m.1 71)), (72, (m.1 72)), (73, (m.1 73)), (74, (m.1 74)), (75, (m.1 75)), (99, (m.1 99)), (100, (m.1 100))]) 153 (m.1 25) rfl rfl rfl rfl rfl rfl ?_
                        have g262 : (-1) ≤ (m.1 25) ∧ (m.1 25) ≤ 15 := ⟨by omega, by omega⟩
                        refine T_gf 157 (.int (i32 y132)) rfl rfl rfl rfl rfl rfl ?_
                        refine T_if 211 160 rfl rfl rfl (r32 (by omega) (by omega)) (fun (h263 : y132 ≠ 0) => ?_) (fun (h263 : ¬ (y132 ≠ 0)) => by exfalso; omega)
                        refine T_ld 212 (.ref 189) rfl (fun _ => rfl) ?_
                        refine T_ld 213 (.int (i32 (-1))) rfl (fun _ => rfl) ?_
                        refine T_pf (l' := [(7, y126), (8, y128), (9, y130), (10, y132), (11, y134), (12, y136), (13, y37), (25, (m.1 25) + 1), (28, (m.1 28)), (64, (-1)), (69, (m.1 69)), (70, (m.1 70)), (71, (m.1 71)), (72, (m.1 72)), (73, (m.1 73)), (74, (m.1 74)), (75, (m.1 75)), (99, (m.1 99)), (100, (m.1 100))]) 216 (-1) rfl rfl rfl rfl rfl rfl ?_
                        refine T_ld 217 (.ref 189) rfl (fun _ => rfl) ?_
                        refine T_ld 219 (.int (i32 125)) rfl (fun _ => rfl) ?_
                        refine T_call 222 232 [.ref 189, .int (i32 125)] [] rfl (fun _ => rfl) rfl (c_need w (mO m [(7, y126), (8, y128), (9, y130), (10, y132), (11, y134), (12, y136), (13, y37), (25, (m.1 25) + 1), (28, (m.1 28)), (64, (-1)), (69, (m.1 69)), (70, (m.1 70)), (71, (m.1 71)), (72, (m.1 72)), (73, (m.1 73)), (74, (m.1 74)), (75, (m.1 75)), (99, (m.1 99)), (100, (m.1 100))] [(14, F39), (15, F41), (16, F43), (17, F45), (46, (m90.2 46)), (47, (m90.2 47)), (48, (m90.2 48)), (49, (m90.2 49)), (50, upI (m.2 50) (m.1 25) 0), (65, (m.2 65)), (66, (m.2 66)), (67, (m.2 67)), (68, (m.2 68)), (76, (m.2 76)), (77, (m.2 77)), (78, (m.2 78)), (79, (m.2 79)), (80, (m.2 80)), (81, (m.2 81)), (82, (m.2 82)), (83, (m.2 83)), (84, (m.2 84)), (85, (m.2 85)), (86, (m.2 86)), (87, (m.2 87)), (88, (m.2 88)), (89, (m.2 89)), (90, (m.2 90)), (91, (m.2 91)), (92, (m.2 92)), (101, (m.2 101)), (102, (m.2 102)), (103, (m.2 103)), (104, (m.2 104)), (105, (m.2 105)), (106, (m.2 106)), (107, (m.2 107)), (108, (m.2 108)), (109, upI (m.2 109) (m.1 25) (m.1 99))]) c N D (by omega) (Ty_mO hT rfl rfl ⟨g127, g129, g131, g133, g135, g137, g38, g58, f28, ⟨(by omega : ((-1) : Int) ≤ (-1)), (by omega : ((-1) : Int) ≤ 15)⟩, f69, f70, f71, f72, f73, f74, f75, f99, f100, trivial⟩ ⟨G40, G42, G44, G46, (q93.2.1 46), (q93.2.1 47), (q93.2.1 48), (q93.2.1 49), G61, (hT.2.1 65), (hT.2.1 66), (hT.2.1 67), (hT.2.1 68), (hT.2.1 76), (hT.2.1 77), (hT.2.1 78), (hT.2.1 79), (hT.2.1 80), (hT.2.1 81), (hT.2.1 82), (hT.2.1 83), (hT.2.1 84), (hT.2.1 85), (hT.2.1 86), (hT.2.1 87), (hT.2.1 88), (hT.2.1 89), (hT.2.1 90), (hT.2.1 91), (hT.2.1 92), (hT.2.1 101), (hT.2.1 102), (hT.2.1 103), (hT.2.1 104), (hT.2.1 105), (hT.2.1 106), (hT.2.1 107), (hT.2.1 108), G59, trivial⟩) 125 ⟨by decide, by decide⟩ (show 1 ≤ (125 : Int) by omega) (show LxP y126 y128 y130 (m.1 6) y132 by first | exact hLx | (intro h9; exfalso; omega) | (intro h9; have h8 := hLx (by omega); omega))) (fun rr264 k265 => ?_)
                        obtain ⟨y266, y268, y270, y272, y274, y276, g267, g269, g271, g273, g275, g277, h278, h279, h280, h281, rfl⟩ := k265
                        refine ⟨_, _, rfl, ?_⟩
                        refine T_nf2 (st' := []) (l' := [(7, y266), (8, y268), (9, y270), (10, y272), (11, y274), (12, y276), (13, y37), (25, (m.1 25) + 1), (28, (m.1 28)), (64, (-1)), (69, (m.1 69)), (70, (m.1 70)), (71, (m.1 71)), (72, (m.1 72)), (73, (m.1 73)), (74, (m.1 74)), (75, (m.1 75)), (99, (m.1 99)), (100, (m.1 100))]) (a' := [(14, F39), (15, F41), (16, F43), (17, F45), (46, (m90.2 46)), (47, (m90.2 47)), (48, (m90.2 48)), (49, (m90.2 49)), (50, upI (m.2 50) (m.1 25) 0), (65, (m.2 65)), (66, (m.2 66)), (67, (m.2 67)), (68, (m.2 68)), (76, (m.2 76)), (77, (m.2 77)), (78, (m.2 78)), (79, (m.2 79)), (80, (m.2 80)), (81, (m.2 81)), (82, (m.2 82)), (83, (m.2 83)), (84, (m.2 84)), (85, (m.2 85)), (86, (m.2 86)), (87, (m.2 87)), (88, (m.2 88)), (89, (m.2 89)), (90, (m.2 90)), (91, (m.2 91)), (92, (m.2 92)), (101, (m.2 101)), (102, (m.2 102)), (103, (m.2 103)), (104, (m.2 104)), (105, (m.2 105)), (106, (m.2 106)), (107, (m.2 107)), (108, (m.2 108)), (109, upI (m.2 109) (m.1 25) (m.1 99))]) [7, 8, 9, 10, 11, 12] [] rfl ⟨rfl, rfl, rfl, rfl, rfl, rfl, rfl, rfl, rfl, rfl, rfl, rfl, rfl, rfl, rfl, rfl, rfl, rfl, rfl, rfl, rfl, rfl, rfl, rfl, rfl, rfl, rfl, rfl, rfl, rfl, rfl, rfl, rfl, rfl, rfl, rfl, rfl, rfl, trivial⟩ ⟨rfl, rfl, rfl, rfl, rfl, rfl, rfl, rfl, rfl, rfl, rfl, rfl, rfl, rfl, rfl, rfl, rfl, rfl, rfl, rfl, rfl, rfl, rfl, rfl, rfl, rfl, rfl, rfl, rfl, rfl, rfl, rfl, rfl, rfl, rfl, rfl, rfl, rfl, rfl, rfl, rfl, rfl, rfl, rfl, rfl, rfl, rfl, rfl, rfl, rfl, rfl, rfl, rfl, rfl, rfl, rfl, rfl, rfl, rfl, rfl, rfl, rfl, rfl, rfl, rfl, rfl, rfl, rfl, rfl, rfl, rfl, rfl, rfl, rfl, rfl, rfl, rfl, rfl, trivial⟩ rfl rfl (by decide) (by decide) ?_
                        replace h278 : LxP y266 y268 y270 (m.1 6) y272 := h278
                        replace h279 : y272 = 0 → y132 = 0 ∧ y126 = (125 : Int) := h279
                        replace h280 : y128 ≤ y268 := h280
                        replace h281 : y272 = 0 → y128 + y130 ≤ y268 := h281
                        have hf282 : 1 ≤ y272 := by omega
                        clear h279
                        clear h281
                        have hLx := h278
                        clear g127 g129 g131 g133 g135 g137 h138 hf261 h263 h280
                        refine T_ret rfl (fun _ => rfl) ?_
                        exact ⟨(mO m [(7, y266), (8, y268), (9, y270), (10, y272), (11, y274), (12, y276), (13, y37), (25, (m.1 25) + 1), (28, (m.1 28)), (64, (-1)), (69, (m.1 69)), (70, (m.1 70)), (71, (m.1 71)), (72, (m.1 72)), (73, (m.1 73)), (74, (m.1 74)), (75, (m.1 75)), (99, (m.1 99)), (100, (m.1 100))] [(14, F39), (15, F41), (16, F43), (17, F45), (46, (m90.2 46)), (47, (m90.2 47)), (48, (m90.2 48)), (49, (m90.2 49)), (50, upI (m.2 50) (m.1 25) 0), (65, (m.2 65)), (66, (m.2 66)), (67, (m.2 67)), (68, (m.2 68)), (76, (m.2 76)), (77, (m.2 77)), (78, (m.2 78)), (79, (m.2 79)), (80, (m.2 80)), (81, (m.2 81)), (82, (m.2 82)), (83, (m.2 83)), (84, (m.2 84)), (85, (m.2 85)), (86, (m.2 86)), (87, (m.2 87)), (88, (m.2 88)), (89, (m.2 89)), (90, (m.2 90)), (91, (m.2 91)), (92, (m.2 92)), (101, (m.2 101)), (102, (m.2 102)), (103, (m.2 103)), (104, (m.2 104)), (105, (m.2 105)), (106, (m.2 106)), (107, (m.2 107)), (108, (m.2 108)), (109, upI (m.2 109) (m.1 25) (m.1 99))]), (Ty_mO hT rfl rfl ⟨g267, g269, g271, g273, g275, g277, g38, g58, f28, ⟨(by omega : ((-1) : Int) ≤ (-1)), (by omega : ((-1) : Int) ≤ 15)⟩, f69, f70, f71, f72, f73, f74, f75, f99, f100, trivial⟩ ⟨G40, G42, G44, G46, (q93.2.1 46), (q93.2.1 47), (q93.2.1 48), (q93.2.1 49), G61, (hT.2.1 65), (hT.2.1 66), (hT.2.1 67), (hT.2.1 68), (hT.2.1 76), (hT.2.1 77), (hT.2.1 78), (hT.2.1 79), (hT.2.1 80), (hT.2.1 81), (hT.2.1 82), (hT.2.1 83), (hT.2.1 84), (hT.2.1 85), (hT.2.1 86), (hT.2.1 87), (hT.2.1 88), (hT.2.1 89), (hT.2.1 90), (hT.2.1 91), (hT.2.1 92), (hT.2.1 101), (hT.2.1 102), (hT.2.1 103), (hT.2.1 104), (hT.2.1 105), (hT.2.1 106), (hT.2.1 107), (hT.2.1 108), G59, trivial⟩), (show y272 = 0 → (m.1 10) = 0 by omega), (show LxP y266 y268 y270 (m.1 6) y272 by first | (first | exact hLx | exact (fun _ => hLx (by omega)) | (intro h9; exfalso; omega)) | (exfalso; omega)), (show ∀ k, F39 k + F41 k ≤ 4000 by first | (exact hNM) | (exfalso; omega)), (show ∀ k, (m90.2 47) k + (m90.2 48) k ≤ 4000 by first | (exact hPA) | (exfalso; omega)), (fun (h : y272 = 0) => absurd h (by omega)), rfl⟩
                    · skip
                      replace h118 : LxP y106 y108 y110 (m.1 6) y112 := h118
                      have hLx := h118
                      clear h119
                      replace h120 : (m90.1 8) ≤ y108 := h120
                      clear h121
                      have hf283 : 1 ≤ y112 := by omega
                      clear g65 g67 g69 g73 g75 h76 u81 q85a q85b q85 ic86 ic87 q93_7 q93_9 q93_11 q93_12 ic96
                      refine T_ld 143 (.ref 189) rfl (fun _ => rfl) ?_
                      refine T_ld 145 (.int (i32 123)) rfl (fun _ => rfl) ?_
                      refine T_call 148 232 [.ref 189, .int (i32 123)] [] rfl (fun _ => rfl) rfl (c_need w (mO m [(7, y106), (8, y108), (9, y110), (10, y112), (11, y114), (12, y116), (13, y37), (25, (m.1 25) + 1), (28, (m.1 28)), (64, (m.1 64)), (69, (m.1 69)), (70, (m.1 70)), (71, (m.1 71)), (72, (m.1 72)), (73, (m.1 73)), (74, (m.1 74)), (75, (m.1 75)), (99, (m.1 99)), (100, (m.1 100))] [(14, F39), (15, F41), (16, F43), (17, F45), (46, (m90.2 46)), (47, (m90.2 47)), (48, (m90.2 48)), (49, (m90.2 49)), (50, upI (m.2 50) (m.1 25) 0), (65, (m.2 65)), (66, (m.2 66)), (67, (m.2 67)), (68, (m.2 68)), (76, (m.2 76)), (77, (m.2 77)), (78, (m.2 78)), (79, (m.2 79)), (80, (m.2 80)), (81, (m.2 81)), (82, (m.2 82)), (83, (m.2 83)), (84, (m.2 84)), (85, (m.2 85)), (86, (m.2 86)), (87, (m.2 87)), (88, (m.2 88)), (89, (m.2 89)), (90, (m.2 90)), (91, (m.2 91)), (92, (m.2 92)), (101, (m.2 101)), (102, (m.2 102)), (103, (m.2 103)), (104, (m.2 104)), (105, (m.2 105)), (106, (m.2 106)), (107, (m.2 107)), (108, (m.2 108)), (109, upI (m.2 109) (m.1 25) (m.1 99))]) c N D (by omega) (Ty_mO hT rfl rfl ⟨g107, g109, g111, g113, g115, g117, g38, g58, f28, f64, f69, f70, f71, f72, f73, f74, f75, f99, f100, trivial⟩ ⟨G40, G42, G44, G46, (q93.2.1 46), (q93.2.1 47), (q93.2.1 48), (q93.2.1 49), G61, (hT.2.1 65), (hT.2.1 66), (hT.2.1 67), (hT.2.1 68), (hT.2.1 76), (hT.2.1 77), (hT.2.1 78), (hT.2.1 79), (hT.2.1 80), (hT.2.1 81), (hT.2.1 82), (hT.2.1 83), (hT.2.1 84), (hT.2.1 85), (hT.2.1 86), (hT.2.1 87), (hT.2.1 88), (hT.2.1 89), (hT.2.1 90), (hT.2.1 91), (hT.2.1 92), (hT.2.1 101), (hT.2.1 102), (hT.2.1 103), (hT.2.1 104), (hT.2.1 105), (hT.2.1 106), (hT.2.1 107), (hT.2.1 108), G59, trivial⟩) 123 ⟨by decide, by decide⟩ (show 1 ≤ (123 : Int) by omega) (show LxP y106 y108 y110 (m.1 6) y112 by first | exact hLx | (intro h9; exfalso; omega) | (intro h9; have h8 := hLx (by omega); omega))) (fun rr284 k285 => ?_)
                      obtain ⟨y286, y288, y290, y292, y294, y296, g287, g289, g291, g293, g295, g297, h298, h299, h300, h301, rfl⟩ := k285
                      refine ⟨_, _, rfl, ?_⟩
                      refine T_nf2 (st' := []) (l' := [(7, y286), (8, y288), (9, y290), (10, y292), (11, y294), (12, y296), (13, y37), (25, (m.1 25) + 1), (28, (m.1 28)), (64, (m.1 64)), (69, (m.1 69)), (70, (m.1 70)), (71, (m.1 71)), (72, (m.1 72)), (73, (m.1 73)), (74, (m.1 74)), (75, (m.1 75)), (99, (m.1 99)), (100, (m.1 100))]) (a' := [(14, F39), (15, F41), (16, F43), (17, F45), (46, (m90.2 46)), (47, (m90.2 47)), (48, (m90.2 48)), (49, (m90.2 49)), (50, upI (m.2 50) (m.1 25) 0), (65, (m.2 65)), (66, (m.2 66)), (67, (m.2 67)), (68, (m.2 68)), (76, (m.2 76)), (77, (m.2 77)), (78, (m.2 78)), (79, (m.2 79)), (80, (m.2 80)), (81, (m.2 81)), (82, (m.2 82)), (83, (m.2 83)), (84, (m.2 84)), (85, (m.2 85)), (86, (m.2 86)), (87, (m.2 87)), (88, (m.2 88)), (89, (m.2 89)), (90, (m.2 90)), (91, (m.2 91)), (92, (m.2 92)), (101, (m.2 101)), (102, (m.2 102)), (103, (m.2 103)), (104, (m.2 104)), (105, (m.2 105)), (106, (m.2 106)), (107, (m.2 107)), (108, (m.2 108)), (109, upI (m.2 109) (m.1 25) (m.1 99))]) [7, 8, 9, 10, 11, 12] [] rfl ⟨rfl, rfl, rfl, rfl, rfl, rfl, rfl, rfl, rfl, rfl, rfl, rfl, rfl, rfl, rfl, rfl, rfl, rfl, rfl, rfl, rfl, rfl, rfl, rfl, rfl, rfl, rfl, rfl, rfl, rfl, rfl, rfl, rfl, rfl, rfl, rfl, rfl, rfl, trivial⟩ ⟨rfl, rfl, rfl, rfl, rfl, rfl, rfl, rfl, rfl, rfl, rfl, rfl, rfl, rfl, rfl, rfl, rfl, rfl, rfl, rfl, rfl, rfl, rfl, rfl, rfl, rfl, rfl, rfl, rfl, rfl, rfl, rfl, rfl, rfl, rfl, rfl, rfl, rfl, rfl, rfl, rfl, rfl, rfl, rfl, rfl, rfl, rfl, rfl, rfl, rfl, rfl, rfl, rfl, rfl, rfl, rfl, rfl, rfl, rfl, rfl, rfl, rfl, rfl, rfl, rfl, rfl, rfl, rfl, rfl, rfl, rfl, rfl, rfl, rfl, rfl, rfl, rfl, rfl, trivial⟩ rfl rfl (by decide) (by decide) ?_
                      replace h298 : LxP y286 y288 y290 (m.1 6) y292 := h298
                      replace h299 : y292 = 0 → y112 = 0 ∧ y106 = (123 : Int) := h299
                      replace h300 : y108 ≤ y288 := h300
                      replace h301 : y292 = 0 → y108 + y110 ≤ y288 := h301
                      have hf302 : 1 ≤ y292 := by omega
                      clear h299
                      clear h301
                      have hLx := h298
                      clear g107 g109 g111 g113 g115 g117 h118 h120 hf283 h300
                      refine T_ld 149 (.ref 189) rfl (fun _ => rfl) ?_
                      refine T_ld 150 (.int (i32 (m.1 25))) rfl (fun _ => rfl) ?_
                      refine T_pf (l' := [(7, y286), (8, y288), (9, y290), (10, y292), (11, y294), (12, y296), (13, y37), (25, (m.1 25) + 1), (28, (m.1 28)), (64, (m.1 25)), (69, (m.1 69)), (70, (m.1 70)), (71, (m.1 71)), (72, (m.1 72)), (73, (m.1 73)), (74, (m.1 74)), (75, (m.1 75)), (99, (m.1 99)), (100, (m.1 100))]) 153 (m.1 25) rfl rfl rfl rfl rfl rfl ?_
                      have g303 : (-1) ≤ (m.1 25) ∧ (m.1 25) ≤ 15 := ⟨by omega, by omega⟩
                      refine T_gf 157 (.int (i32 y292)) rfl rfl rfl rfl rfl rfl ?_
                      refine T_if 211 160 rfl rfl rfl (r32 (by omega) (by omega)) (fun (h304 : y292 ≠ 0) => ?_) (fun (h304 : ¬ (y292 ≠ 0)) => by exfalso; omega)
                      refine T_ld 212 (.ref 189) rfl (fun _ => rfl) ?_
                      refine T_ld 213 (.int (i32 (-1))) rfl (fun _ => rfl) ?_
                      refine T_pf (l' := [(7, y286), (8, y288), (9, y290), (10, y292), (11, y294), (12, y296), (13, y37), (25, (m.1 25) + 1), (28, (m.1 28)), (64, (-1)), (69, (m.1 69)), (70, (m.1 70)), (71, (m.1 71)), (72, (m.1 72)), (73, (m.1 73)), (74, (m.1 74)), (75, (m.1 75)), (99, (m.1 99)), (100, (m.1 100))]) 216 (-1) rfl rfl rfl rfl rfl rfl ?_
                      refine T_ld 217 (.ref 189) rfl (fun _ => rfl) ?_
                      refine T_ld 219 (.int (i32 125)) rfl (fun _ => rfl) ?_
                      refine T_call 222 232 [.ref 189, .int (i32 125)] [] rfl (fun _ => rfl) rfl (c_need w (mO m [(7, y286), (8, y288), (9, y290), (10, y292), (11, y294), (12, y296), (13, y37), (25, (m.1 25) + 1), (28, (m.1 28)), (64, (-1)), (69, (m.1 69)), (70, (m.1 70)), (71, (m.1 71)), (72, (m.1 72)), (73, (m.1 73)), (74, (m.1 74)), (75, (m.1 75)), (99, (m.1 99)), (100, (m.1 100))] [(14, F39), (15, F41), (16, F43), (17, F45), (46, (m90.2 46)), (47, (m90.2 47)), (48, (m90.2 48)), (49, (m90.2 49)), (50, upI (m.2 50) (m.1 25) 0), (65, (m.2 65)), (66, (m.2 66)), (67, (m.2 67)), (68, (m.2 68)), (76, (m.2 76)), (77, (m.2 77)), (78, (m.2 78)), (79, (m.2 79)), (80, (m.2 80)), (81, (m.2 81)), (82, (m.2 82)), (83, (m.2 83)), (84, (m.2 84)), (85, (m.2 85)), (86, (m.2 86)), (87, (m.2 87)), (88, (m.2 88)), (89, (m.2 89)), (90, (m.2 90)), (91, (m.2 91)), (92, (m.2 92)), (101, (m.2 101)), (102, (m.2 102)), (103, (m.2 103)), (104, (m.2 104)), (105, (m.2 105)), (106, (m.2 106)), (107, (m.2 107)), (108, (m.2 108)), (109, upI (m.2 109) (m.1 25) (m.1 99))]) c N D (by omega) (Ty_mO hT rfl rfl ⟨g287, g289, g291, g293, g295, g297, g38, g58, f28, ⟨(by omega : ((-1) : Int) ≤ (-1)), (by omega : ((-1) : Int) ≤ 15)⟩, f69, f70, f71, f72, f73, f74, f75, f99, f100, trivial⟩ ⟨G40, G42, G44, G46, (q93.2.1 46), (q93.2.1 47), (q93.2.1 48), (q93.2.1 49), G61, (hT.2.1 65), (hT.2.1 66), (hT.2.1 67), (hT.2.1 68), (hT.2.1 76), (hT.2.1 77), (hT.2.1 78), (hT.2.1 79), (hT.2.1 80), (hT.2.1 81), (hT.2.1 82), (hT.2.1 83), (hT.2.1 84), (hT.2.1 85), (hT.2.1 86), (hT.2.1 87), (hT.2.1 88), (hT.2.1 89), (hT.2.1 90), (hT.2.1 91), (hT.2.1 92), (hT.2.1 101), (hT.2.1 102), (hT.2.1 103), (hT.2.1 104), (hT.2.1 105), (hT.2.1 106), (hT.2.1 107), (hT.2.1 108), G59, trivial⟩) 125 ⟨by decide, by decide⟩ (show 1 ≤ (125 : Int) by omega) (show LxP y286 y288 y290 (m.1 6) y292 by first | exact hLx | (intro h9; exfalso; omega) | (intro h9; have h8 := hLx (by omega); omega))) (fun rr305 k306 => ?_)
                      obtain ⟨y307, y309, y311, y313, y315, y317, g308, g310, g312, g314, g316, g318, h319, h320, h321, h322, rfl⟩ := k306
                      refine ⟨_, _, rfl, ?_⟩
                      refine T_nf2 (st' := []) (l' := [(7, y307), (8, y309), (9, y311), (10, y313), (11, y315), (12, y317), (13, y37), (25, (m.1 25) + 1), (28, (m.1 28)), (64, (-1)), (69, (m.1 69)), (70, (m.1 70)), (71, (m.1 71)), (72, (m.1 72)), (73, (m.1 73)), (74, (m.1 74)), (75, (m.1 75)), (99, (m.1 99)), (100, (m.1 100))]) (a' := [(14, F39), (15, F41), (16, F43), (17, F45), (46, (m90.2 46)), (47, (m90.2 47)), (48, (m90.2 48)), (49, (m90.2 49)), (50, upI (m.2 50) (m.1 25) 0), (65, (m.2 65)), (66, (m.2 66)), (67, (m.2 67)), (68, (m.2 68)), (76, (m.2 76)), (77, (m.2 77)), (78, (m.2 78)), (79, (m.2 79)), (80, (m.2 80)), (81, (m.2 81)), (82, (m.2 82)), (83, (m.2 83)), (84, (m.2 84)), (85, (m.2 85)), (86, (m.2 86)), (87, (m.2 87)), (88, (m.2 88)), (89, (m.2 89)), (90, (m.2 90)), (91, (m.2 91)), (92, (m.2 92)), (101, (m.2 101)), (102, (m.2 102)), (103, (m.2 103)), (104, (m.2 104)), (105, (m.2 105)), (106, (m.2 106)), (107, (m.2 107)), (108, (m.2 108)), (109, upI (m.2 109) (m.1 25) (m.1 99))]) [7, 8, 9, 10, 11, 12] [] rfl ⟨rfl, rfl, rfl, rfl, rfl, rfl, rfl, rfl, rfl, rfl, rfl, rfl, rfl, rfl, rfl, rfl, rfl, rfl, rfl, rfl, rfl, rfl, rfl, rfl, rfl, rfl, rfl, rfl, rfl, rfl, rfl, rfl, rfl, rfl, rfl, rfl, rfl, rfl, trivial⟩ ⟨rfl, rfl, rfl, rfl, rfl, rfl, rfl, rfl, rfl, rfl, rfl, rfl, rfl, rfl, rfl, rfl, rfl, rfl, rfl, rfl, rfl, rfl, rfl, rfl, rfl, rfl, rfl, rfl, rfl, rfl, rfl, rfl, rfl, rfl, rfl, rfl, rfl, rfl, rfl, rfl, rfl, rfl, rfl, rfl, rfl, rfl, rfl, rfl, rfl, rfl, rfl, rfl, rfl, rfl, rfl, rfl, rfl, rfl, rfl, rfl, rfl, rfl, rfl, rfl, rfl, rfl, rfl, rfl, rfl, rfl, rfl, rfl, rfl, rfl, rfl, rfl, rfl, rfl, trivial⟩ rfl rfl (by decide) (by decide) ?_
                      replace h319 : LxP y307 y309 y311 (m.1 6) y313 := h319
                      replace h320 : y313 = 0 → y292 = 0 ∧ y286 = (125 : Int) := h320
                      replace h321 : y288 ≤ y309 := h321
                      replace h322 : y313 = 0 → y288 + y290 ≤ y309 := h322
                      have hf323 : 1 ≤ y313 := by omega
                      clear h320
                      clear h322
                      have hLx := h319
                      clear g287 g289 g291 g293 g295 g297 hf302 h298 h304 h321
                      refine T_ret rfl (fun _ => rfl) ?_
                      exact ⟨(mO m [(7, y307), (8, y309), (9, y311), (10, y313), (11, y315), (12, y317), (13, y37), (25, (m.1 25) + 1), (28, (m.1 28)), (64, (-1)), (69, (m.1 69)), (70, (m.1 70)), (71, (m.1 71)), (72, (m.1 72)), (73, (m.1 73)), (74, (m.1 74)), (75, (m.1 75)), (99, (m.1 99)), (100, (m.1 100))] [(14, F39), (15, F41), (16, F43), (17, F45), (46, (m90.2 46)), (47, (m90.2 47)), (48, (m90.2 48)), (49, (m90.2 49)), (50, upI (m.2 50) (m.1 25) 0), (65, (m.2 65)), (66, (m.2 66)), (67, (m.2 67)), (68, (m.2 68)), (76, (m.2 76)), (77, (m.2 77)), (78, (m.2 78)), (79, (m.2 79)), (80, (m.2 80)), (81, (m.2 81)), (82, (m.2 82)), (83, (m.2 83)), (84, (m.2 84)), (85, (m.2 85)), (86, (m.2 86)), (87, (m.2 87)), (88, (m.2 88)), (89, (m.2 89)), (90, (m.2 90)), (91, (m.2 91)), (92, (m.2 92)), (101, (m.2 101)), (102, (m.2 102)), (103, (m.2 103)), (104, (m.2 104)), (105, (m.2 105)), (106, (m.2 106)), (107, (m.2 107)), (108, (m.2 108)), (109, upI (m.2 109) (m.1 25) (m.1 99))]), (Ty_mO hT rfl rfl ⟨g308, g310, g312, g314, g316, g318, g38, g58, f28, ⟨(by omega : ((-1) : Int) ≤ (-1)), (by omega : ((-1) : Int) ≤ 15)⟩, f69, f70, f71, f72, f73, f74, f75, f99, f100, trivial⟩ ⟨G40, G42, G44, G46, (q93.2.1 46), (q93.2.1 47), (q93.2.1 48), (q93.2.1 49), G61, (hT.2.1 65), (hT.2.1 66), (hT.2.1 67), (hT.2.1 68), (hT.2.1 76), (hT.2.1 77), (hT.2.1 78), (hT.2.1 79), (hT.2.1 80), (hT.2.1 81), (hT.2.1 82), (hT.2.1 83), (hT.2.1 84), (hT.2.1 85), (hT.2.1 86), (hT.2.1 87), (hT.2.1 88), (hT.2.1 89), (hT.2.1 90), (hT.2.1 91), (hT.2.1 92), (hT.2.1 101), (hT.2.1 102), (hT.2.1 103), (hT.2.1 104), (hT.2.1 105), (hT.2.1 106), (hT.2.1 107), (hT.2.1 108), G59, trivial⟩), (show y313 = 0 → (m.1 10) = 0 by omega), (show LxP y307 y309 y311 (m.1 6) y313 by first | (first | exact hLx | exact (fun _ => hLx (by omega)) | (intro h9; exfalso; omega)) | (exfalso; omega)), (show ∀ k, F39 k + F41 k ≤ 4000 by first | (exact hNM) | (exfalso; omega)), (show ∀ k, (m90.2 47) k + (m90.2 48) k ≤ 4000 by first | (exact hPA) | (exfalso; omega)), (fun (h : y313 = 0) => absurd h (by omega)), rfl⟩
                  · skip
                    refine T_gf 95 (.int (i32 (m90.1 10))) rfl rfl rfl rfl rfl rfl ?_
                    refine T_if 136 98 rfl rfl rfl (r32 (by omega) (by omega)) (fun (h324 : (m90.1 10) ≠ 0) => by exfalso; omega) (fun (h324 : ¬ ((m90.1 10) ≠ 0)) => ?_)
                    refine T_ld 99 (.ref 189) rfl (fun _ => rfl) ?_
                    refine T_ld 100 (.int (i32 (m.1 25))) rfl (fun _ => rfl) ?_
                    refine T_call 103 268 [.ref 189, .int (i32 (m.1 25))] [] rfl (fun _ => rfl) rfl (c_takeParameter w (mO m [(7, (m90.1 7)), (8, (m90.1 8)), (9, (m90.1 9)), (10, (m90.1 10)), (11, (m90.1 11)), (12, (m90.1 12)), (13, y37), (25, (m.1 25) + 1), (28, (m.1 28)), (64, (m.1 64)), (69, (m.1 69)), (70, (m.1 70)), (71, (m.1 71)), (72, (m.1 72)), (73, (m.1 73)), (74, (m.1 74)), (75, (m.1 75)), (99, (m.1 99)), (100, (m.1 100))] [(14, F39), (15, F41), (16, F43), (17, F45), (46, (m90.2 46)), (47, (m90.2 47)), (48, (m90.2 48)), (49, (m90.2 49)), (50, upI (m.2 50) (m.1 25) 0), (65, (m.2 65)), (66, (m.2 66)), (67, (m.2 67)), (68, (m.2 68)), (76, (m.2 76)), (77, (m.2 77)), (78, (m.2 78)), (79, (m.2 79)), (80, (m.2 80)), (81, (m.2 81)), (82, (m.2 82)), (83, (m.2 83)), (84, (m.2 84)), (85, (m.2 85)), (86, (m.2 86)), (87, (m.2 87)), (88, (m.2 88)), (89, (m.2 89)), (90, (m.2 90)), (91, (m.2 91)), (92, (m.2 92)), (101, (m.2 101)), (102, (m.2 102)), (103, (m.2 103)), (104, (m.2 104)), (105, (m.2 105)), (106, (m.2 106)), (107, (m.2 107)), (108, (m.2 108)), (109, upI (m.2 109) (m.1 25) (m.1 99))]) c N D (by omega) (Ty_mO hT rfl rfl ⟨(q93.1 7), (q93.1 8), (q93.1 9), (q93.1 10), (q93.1 11), (q93.1 12), g38, g58, f28, f64, f69, f70, f71, f72, f73, f74, f75, f99, f100, trivial⟩ ⟨G40, G42, G44, G46, (q93.2.1 46), (q93.2.1 47), (q93.2.1 48), (q93.2.1 49), G61, (hT.2.1 65), (hT.2.1 66), (hT.2.1 67), (hT.2.1 68), (hT.2.1 76), (hT.2.1 77), (hT.2.1 78), (hT.2.1 79), (hT.2.1 80), (hT.2.1 81), (hT.2.1 82), (hT.2.1 83), (hT.2.1 84), (hT.2.1 85), (hT.2.1 86), (hT.2.1 87), (hT.2.1 88), (hT.2.1 89), (hT.2.1 90), (hT.2.1 91), (hT.2.1 92), (hT.2.1 101), (hT.2.1 102), (hT.2.1 103), (hT.2.1 104), (hT.2.1 105), (hT.2.1 106), (hT.2.1 107), (hT.2.1 108), G59, trivial⟩) (m.1 25) (r32 (by omega) (by omega)) (show LxP (m90.1 7) (m90.1 8) (m90.1 9) (m.1 6) (m90.1 10) by first | exact hLx | exact (fun _ => hLx (by omega)) | (intro h9; exfalso; omega)) (show ∀ k, (m90.2 47) k + (m90.2 48) k ≤ 4000 by assumption) (show 0 ≤ (m.1 25) ∧ (m.1 25) ≤ 15 by omega) (fun _ => trivial)) (fun rr325 k326 => ?_)
                    obtain ⟨m327, hT328, h329, h330, h331, c332, rfl⟩ := k326
                    refine ⟨_, _, rfl, ?_⟩
                    refine T_nf2 (st' := []) (l' := [(7, (m327.1 7)), (8, (m327.1 8)), (9, (m327.1 9)), (10, (m327.1 10)), (11, (m327.1 11)), (12, (m327.1 12)), (13, y37), (25, (m.1 25) + 1), (28, (m.1 28)), (64, (m.1 64)), (69, (m.1 69)), (70, (m.1 70)), (71, (m.1 71)), (72, (m.1 72)), (73, (m.1 73)), (74, (m.1 74)), (75, (m.1 75)), (99, (m.1 99)), (100, (m.1 100))]) (a' := [(14, F39), (15, F41), (16, F43), (17, F45), (46, (m327.2 46)), (47, (m327.2 47)), (48, (m327.2 48)), (49, (m327.2 49)), (50, upI (m.2 50) (m.1 25) 0), (65, (m.2 65)), (66, (m.2 66)), (67, (m.2 67)), (68, (m.2 68)), (76, (m.2 76)), (77, (m.2 77)), (78, (m.2 78)), (79, (m.2 79)), (80, (m.2 80)), (81, (m.2 81)), (82, (m.2 82)), (83, (m.2 83)), (84, (m.2 84)), (85, (m.2 85)), (86, (m.2 86)), (87, (m.2 87)), (88, (m.2 88)), (89, (m.2 89)), (90, (m.2 90)), (91, (m.2 91)), (92, (m.2 92)), (101, (m.2 101)), (102, (m.2 102)), (103, (m.2 103)), (104, (m.2 104)), (105, (m.2 105)), (106, (m.2 106)), (107, (m.2 107)), (108, (m.2 108)), (109, upI (m.2 109) (m.1 25) (m.1 99))]) [7, 8, 9, 10, 11, 12] [46, 47, 48, 49] rfl ⟨rfl, rfl, rfl, rfl, rfl, rfl, rfl, rfl, rfl, rfl, rfl, rfl, rfl, rfl, rfl, rfl, rfl, rfl, rfl, rfl, rfl, rfl, rfl, rfl, rfl, rfl, rfl, rfl, rfl, rfl, rfl, rfl, rfl, rfl, rfl, rfl, rfl, rfl, trivial⟩ ⟨rfl, rfl, rfl, rfl, rfl, rfl, rfl, rfl, rfl, rfl, rfl, rfl, rfl, rfl, rfl, rfl, rfl, rfl, rfl, rfl, rfl, rfl, rfl, rfl, rfl, rfl, rfl, rfl, rfl, rfl, rfl, rfl, rfl, rfl, rfl, rfl, rfl, rfl, rfl, rfl, rfl, rfl, rfl, rfl, rfl, rfl, rfl, rfl, rfl, rfl, rfl, rfl, rfl, rfl, rfl, rfl, rfl, rfl, rfl, rfl, rfl, rfl, rfl, rfl, rfl, rfl, rfl, rfl, rfl, rfl, rfl, rfl, rfl, rfl, rfl, rfl, rfl, rfl, rfl, rfl, rfl, rfl, trivial⟩ rfl rfl (by decide) (by decide) ?_
                    have g333 : 0 ≤ m327.1 7 ∧ m327.1 7 ≤ 330 := hT328.1 7
                    have g334 : 0 ≤ m327.1 8 ∧ m327.1 8 ≤ 4000 := hT328.1 8
                    have g335 : 0 ≤ m327.1 9 ∧ m327.1 9 ≤ 4000 := hT328.1 9
                    have g336 : 0 ≤ m327.1 10 ∧ m327.1 10 ≤ 8 := hT328.1 10
                    have g337 : (-1) ≤ m327.1 11 ∧ m327.1 11 ≤ 4000 := hT328.1 11
                    have g338 : (-9223372036854775808) ≤ m327.1 12 ∧ m327.1 12 ≤ 9223372036854775807 := hT328.1 12
                    by_cases hf339 : (m327.1 10) = 0
                    · skip
                      replace h329 : (m90.1 10) = 0 := h329 hf339
                      replace h330 : LxP (m327.1 7) (m327.1 8) (m327.1 9) (m.1 6) (m327.1 10) := h330
                      have hLx := h330
                      replace h331 : ∀ k, (m327.2 47) k + (m327.2 48) k ≤ 4000 := h331
                      have hPA := h331
                      have c340 := c332 hf339
                      replace c340 : (m90.1 8) + 1 ≤ (m327.1 8) := c340
                      clear c332
                      have u341 : (m.1 8) + 1 ≤ (m327.1 8) := by omega
                      have hAgC : agr (m.2 65) (m.2 65) (m.1 28) := by first | exact agr_r _ _ | exact hAgC | exact agr_t hAgC hAg (by omega)
                      clear g65 g67 g69 g73 g75 h76 u81 q85a q85b q85 ic86 ic87 q93_7 q93_9 q93_11 q93_12 ic96 ic97
                      refine T_gf 107 (.int (i32 (m327.1 10))) rfl rfl rfl rfl rfl rfl ?_
                      refine T_if 123 110 rfl rfl rfl (r32 (by omega) (by omega)) (fun (h342 : (m327.1 10) ≠ 0) => by exfalso; omega) (fun (h342 : ¬ ((m327.1 10) ≠ 0)) => ?_)
                      refine T_gf 114 (.int (i32 (m327.1 7))) rfl rfl rfl rfl rfl rfl ?_
                      refine T_ld 116 (.int (i32 44)) rfl (fun _ => rfl) ?_
                      have J124_344 : ∀ (s343 : Int), (R32 s343) → (0 ≤ s343) → (s343 ≤ 1) → TT w D pm_267 (124, [(0, .ref 189), (1, .int (i32 (m.1 25))), (2, .int (i32 v89))], [.int (i32 s343)], (mhp (mO m [(7, (m327.1 7)), (8, (m327.1 8)), (9, (m327.1 9)), (10, (m327.1 10)), (11, (m327.1 11)), (12, (m327.1 12)), (13, y37), (25, (m.1 25) + 1), (28, (m.1 28)), (64, (m.1 64)), (69, (m.1 69)), (70, (m.1 70)), (71, (m.1 71)), (72, (m.1 72)), (73, (m.1 73)), (74, (m.1 74)), (75, (m.1 75)), (99, (m.1 99)), (100, (m.1 100))] [(14, F39), (15, F41), (16, F43), (17, F45), (46, (m327.2 46)), (47, (m327.2 47)), (48, (m327.2 48)), (49, (m327.2 49)), (50, upI (m.2 50) (m.1 25) 0), (65, (m.2 65)), (66, (m.2 66)), (67, (m.2 67)), (68, (m.2 68)), (76, (m.2 76)), (77, (m.2 77)), (78, (m.2 78)), (79, (m.2 79)), (80, (m.2 80)), (81, (m.2 81)), (82, (m.2 82)), (83, (m.2 83)), (84, (m.2 84)), (85, (m.2 85)), (86, (m.2 86)), (87, (m.2 87)), (88, (m.2 88)), (89, (m.2 89)), (90, (m.2 90)), (91, (m.2 91)), (92, (m.2 92)), (101, (m.2 101)), (102, (m.2 102)), (103, (m.2 103)), (104, (m.2 104)), (105, (m.2 105)), (106, (m.2 106)), (107, (m.2 107)), (108, (m.2 108)), (109, upI (m.2 109) (m.1 25) (m.1 99))]) c, N), 0, 0) (Q_takeAction m c N) := by
                        intro s343 q345 ic346 ic347
                        obtain ⟨q345a, q345b⟩ := id q345
                        refine T_sto 125 [(2, .int (i32 s343)), (0, .ref 189), (1, .int (i32 (m.1 25)))] rfl (fun _ => rfl) ?_
                        refine T_ld 126 (.int (i32 s343)) rfl (fun _ => rfl) ?_
                        refine T_if 87 129 rfl rfl rfl (r32 (by omega) (by omega)) (fun (h349 : s343 = 0) => ?_) (fun (h349 : ¬ (s343 = 0)) => ?_)
                        · skip
                          refine Tm_lv (a := [(0, .ref 189), (1, .int (i32 (m.1 25))), (2, .int (i32 s343))]) rfl rfl ⟨rfl, rfl, rfl, trivial⟩ ?_
                          exact ih100 s343 (mO m [(7, (m327.1 7)), (8, (m327.1 8)), (9, (m327.1 9)), (10, (m327.1 10)), (11, (m327.1 11)), (12, (m327.1 12)), (13, y37), (25, (m.1 25) + 1), (28, (m.1 28)), (64, (m.1 64)), (69, (m.1 69)), (70, (m.1 70)), (71, (m.1 71)), (72, (m.1 72)), (73, (m.1 73)), (74, (m.1 74)), (75, (m.1 75)), (99, (m.1 99)), (100, (m.1 100))] [(14, F39), (15, F41), (16, F43), (17, F45), (46, (m327.2 46)), (47, (m327.2 47)), (48, (m327.2 48)), (49, (m327.2 49)), (50, upI (m.2 50) (m.1 25) 0), (65, (m.2 65)), (66, (m.2 66)), (67, (m.2 67)), (68, (m.2 68)), (76, (m.2 76)), (77, (m.2 77)), (78, (m.2 78)), (79, (m.2 79)), (80, (m.2 80)), (81, (m.2 81)), (82, (m.2 82)), (83, (m.2 83)), (84, (m.2 84)), (85, (m.2 85)), (86, (m.2 86)), (87, (m.2 87)), (88, (m.2 88)), (89, (m.2 89)), (90, (m.2 90)), (91, (m.2 91)), (92, (m.2 92)), (101, (m.2 101)), (102, (m.2 102)), (103, (m.2 103)), (104, (m.2 104)), (105, (m.2 105)), (106, (m.2 106)), (107, (m.2 107)), (108, (m.2 108)), (109, upI (m.2 109) (m.1 25) (m.1 99))]) (r32 (by omega) (by omega)) (Ty_mO hT rfl rfl ⟨(hT328.1 7), (hT328.1 8), (hT328.1 9), (hT328.1 10), (hT328.1 11), (hT328.1 12), g38, g58, f28, f64, f69, f70, f71, f72, f73, f74, f75, f99, f100, trivial⟩ ⟨G40, G42, G44, G46, (hT328.2.1 46), (hT328.2.1 47), (hT328.2.1 48), (hT328.2.1 49), G61, (hT.2.1 65), (hT.2.1 66), (hT.2.1 67), (hT.2.1 68), (hT.2.1 76), (hT.2.1 77), (hT.2.1 78), (hT.2.1 79), (hT.2.1 80), (hT.2.1 81), (hT.2.1 82), (hT.2.1 83), (hT.2.1 84), (hT.2.1 85), (hT.2.1 86), (hT.2.1 87), (hT.2.1 88), (hT.2.1 89), (hT.2.1 90), (hT.2.1 91), (hT.2.1 92), (hT.2.1 101), (hT.2.1 102), (hT.2.1 103), (hT.2.1 104), (hT.2.1 105), (hT.2.1 106), (hT.2.1 107), (hT.2.1 108), G59, trivial⟩) (show 0 ≤ s343 by omega) (show s343 ≤ 1 by omega) (show LxP (m327.1 7) (m327.1 8) (m327.1 9) (m.1 6) (m327.1 10) by exact hLx) (show ∀ k, (m327.2 47) k + (m327.2 48) k ≤ 4000 by exact hPA) (show s343 = 0 ∨ s343 = 1 by omega) (fun _ => (show (m.1 8) + 1 ≤ (m327.1 8) by omega)) (show 1000000 * (8 - (m327.1 10)) + 2 * (4000 - (m327.1 8)) + s343 < (n : Int) by omega)
                        · skip
                          refine T_ld 130 (.ref 189) rfl (fun _ => rfl) ?_
                          refine T_call 133 212 [.ref 189] [] rfl (fun _ => rfl) rfl (c_next w (mO m [(7, (m327.1 7)), (8, (m327.1 8)), (9, (m327.1 9)), (10, (m327.1 10)), (11, (m327.1 11)), (12, (m327.1 12)), (13, y37), (25, (m.1 25) + 1), (28, (m.1 28)), (64, (m.1 64)), (69, (m.1 69)), (70, (m.1 70)), (71, (m.1 71)), (72, (m.1 72)), (73, (m.1 73)), (74, (m.1 74)), (75, (m.1 75)), (99, (m.1 99)), (100, (m.1 100))] [(14, F39), (15, F41), (16, F43), (17, F45), (46, (m327.2 46)), (47, (m327.2 47)), (48, (m327.2 48)), (49, (m327.2 49)), (50, upI (m.2 50) (m.1 25) 0), (65, (m.2 65)), (66, (m.2 66)), (67, (m.2 67)), (68, (m.2 68)), (76, (m.2 76)), (77, (m.2 77)), (78, (m.2 78)), (79, (m.2 79)), (80, (m.2 80)), (81, (m.2 81)), (82, (m.2 82)), (83, (m.2 83)), (84, (m.2 84)), (85, (m.2 85)), (86, (m.2 86)), (87, (m.2 87)), (88, (m.2 88)), (89, (m.2 89)), (90, (m.2 90)), (91, (m.2 91)), (92, (m.2 92)), (101, (m.2 101)), (102, (m.2 102)), (103, (m.2 103)), (104, (m.2 104)), (105, (m.2 105)), (106, (m.2 106)), (107, (m.2 107)), (108, (m.2 108)), (109, upI (m.2 109) (m.1 25) (m.1 99))]) c N D (by omega) (Ty_mO hT rfl rfl ⟨(hT328.1 7), (hT328.1 8), (hT328.1 9), (hT328.1 10), (hT328.1 11), (hT328.1 12), g38, g58, f28, f64, f69, f70, f71, f72, f73, f74, f75, f99, f100, trivial⟩ ⟨G40, G42, G44, G46, (hT328.2.1 46), (hT328.2.1 47), (hT328.2.1 48), (hT328.2.1 49), G61, (hT.2.1 65), (hT.2.1 66), (hT.2.1 67), (hT.2.1 68), (hT.2.1 76), (hT.2.1 77), (hT.2.1 78), (hT.2.1 79), (hT.2.1 80), (hT.2.1 81), (hT.2.1 82), (hT.2.1 83), (hT.2.1 84), (hT.2.1 85), (hT.2.1 86), (hT.2.1 87), (hT.2.1 88), (hT.2.1 89), (hT.2.1 90), (hT.2.1 91), (hT.2.1 92), (hT.2.1 101), (hT.2.1 102), (hT.2.1 103), (hT.2.1 104), (hT.2.1 105), (hT.2.1 106), (hT.2.1 107), (hT.2.1 108), G59, trivial⟩) (show (m327.1 10) = 0 → (m327.1 8) + (m327.1 9) ≤ (m.1 6) by first | omega | (intro h9; have h8 := hLx h9; omega))) (fun rr350 k351 => ?_)
                          obtain ⟨y352, y354, y356, y358, y360, y362, g353, g355, g357, g359, g361, g363, h364, h365, h366, h367, rfl⟩ := k351
                          refine ⟨_, _, rfl, ?_⟩
                          refine T_nf2 (st' := []) (l' := [(7, y352), (8, y354), (9, y356), (10, y358), (11, y360), (12, y362), (13, y37), (25, (m.1 25) + 1), (28, (m.1 28)), (64, (m.1 64)), (69, (m.1 69)), (70, (m.1 70)), (71, (m.1 71)), (72, (m.1 72)), (73, (m.1 73)), (74, (m.1 74)), (75, (m.1 75)), (99, (m.1 99)), (100, (m.1 100))]) (a' := [(14, F39), (15, F41), (16, F43), (17, F45), (46, (m327.2 46)), (47, (m327.2 47)), (48, (m327.2 48)), (49, (m327.2 49)), (50, upI (m.2 50) (m.1 25) 0), (65, (m.2 65)), (66, (m.2 66)), (67, (m.2 67)), (68, (m.2 68)), (76, (m.2 76)), (77, (m.2 77)), (78, (m.2 78)), (79, (m.2 79)), (80, (m.2 80)), (81, (m.2 81)), (82, (m.2 82)), (83, (m.2 83)), (84, (m.2 84)), (85, (m.2 85)), (86, (m.2 86)), (87, (m.2 87)), (88, (m.2 88)), (89, (m.2 89)), (90, (m.2 90)), (91, (m.2 91)), (92, (m.2 92)), (101, (m.2 101)), (102, (m.2 102)), (103, (m.2 103)), (104, (m.2 104)), (105, (m.2 105)), (106, (m.2 106)), (107, (m.2 107)), (108, (m.2 108)), (109, upI (m.2 109) (m.1 25) (m.1 99))]) [7, 8, 9, 10, 11, 12] [] rfl ⟨rfl, rfl, rfl, rfl, rfl, rfl, rfl, rfl, rfl, rfl, rfl, rfl, rfl, rfl, rfl, rfl, rfl, rfl, rfl, rfl, rfl, rfl, rfl, rfl, rfl, rfl, rfl, rfl, rfl, rfl, rfl, rfl, rfl, rfl, rfl, rfl, rfl, rfl, trivial⟩ ⟨rfl, rfl, rfl, rfl, rfl, rfl, rfl, rfl, rfl, rfl, rfl, rfl, rfl, rfl, rfl, rfl, rfl, rfl, rfl, rfl, rfl, rfl, rfl, rfl, rfl, rfl, rfl, rfl, rfl, rfl, rfl, rfl, rfl, rfl, rfl, rfl, rfl, rfl, rfl, rfl, rfl, rfl, rfl, rfl, rfl, rfl, rfl, rfl, rfl, rfl, rfl, rfl, rfl, rfl, rfl, rfl, rfl, rfl, rfl, rfl, rfl, rfl, rfl, rfl, rfl, rfl, rfl, rfl, rfl, rfl, rfl, rfl, rfl, rfl, rfl, rfl, rfl, rfl, trivial⟩ rfl rfl (by decide) (by decide) ?_
                          by_cases hf368 : y358 = 0
                          · skip
                            subst hf368
                            replace h364 : LxP y352 y354 y356 (m.1 6) (0 : Int) := h364
                            have hLx := h364
                            replace h365 : (m327.1 10) = 0 := h365 rfl
                            replace h366 : (m327.1 8) ≤ y354 := h366
                            replace h367 : (m327.1 8) + (m327.1 9) ≤ y354 := h367 rfl
                            have u369 : (m.1 8) + 1 ≤ y354 := by omega
                            have hAgC : agr (m.2 65) (m.2 65) (m.1 28) := by first | exact agr_r _ _ | exact hAgC | exact agr_t hAgC hAg (by omega)
                            clear g333 g334 g335 g336 g337 g338 h330 c340 u341 h342 g359 h365 h366 h367
                            refine T_goto 87 rfl (fun _ => rfl) ?_
                            refine Tm_lv (a := [(0, .ref 189), (1, .int (i32 (m.1 25))), (2, .int (i32 s343))]) rfl rfl ⟨rfl, rfl, rfl, trivial⟩ ?_
                            exact ih100 s343 (mO m [(7, y352), (8, y354), (9, y356), (10, 0), (11, y360), (12, y362), (13, y37), (25, (m.1 25) + 1), (28, (m.1 28)), (64, (m.1 64)), (69, (m.1 69)), (70, (m.1 70)), (71, (m.1 71)), (72, (m.1 72)), (73, (m.1 73)), (74, (m.1 74)), (75, (m.1 75)), (99, (m.1 99)), (100, (m.1 100))] [(14, F39), (15, F41), (16, F43), (17, F45), (46, (m327.2 46)), (47, (m327.2 47)), (48, (m327.2 48)), (49, (m327.2 49)), (50, upI (m.2 50) (m.1 25) 0), (65, (m.2 65)), (66, (m.2 66)), (67, (m.2 67)), (68, (m.2 68)), (76, (m.2 76)), (77, (m.2 77)), (78, (m.2 78)), (79, (m.2 79)), (80, (m.2 80)), (81, (m.2 81)), (82, (m.2 82)), (83, (m.2 83)), (84, (m.2 84)), (85, (m.2 85)), (86, (m.2 86)), (87, (m.2 87)), (88, (m.2 88)), (89, (m.2 89)), (90, (m.2 90)), (91, (m.2 91)), (92, (m.2 92)), (101, (m.2 101)), (102, (m.2 102)), (103, (m.2 103)), (104, (m.2 104)), (105, (m.2 105)), (106, (m.2 106)), (107, (m.2 107)), (108, (m.2 108)), (109, upI (m.2 109) (m.1 25) (m.1 99))]) (r32 (by omega) (by omega)) (Ty_mO hT rfl rfl ⟨g353, g355, g357, ⟨(by omega : (0 : Int) ≤ 0), (by omega : (0 : Int) ≤ 8)⟩, g361, g363, g38, g58, f28, f64, f69, f70, f71, f72, f73, f74, f75, f99, f100, trivial⟩ ⟨G40, G42, G44, G46, (hT328.2.1 46), (hT328.2.1 47), (hT328.2.1 48), (hT328.2.1 49), G61, (hT.2.1 65), (hT.2.1 66), (hT.2.1 67), (hT.2.1 68), (hT.2.1 76), (hT.2.1 77), (hT.2.1 78), (hT.2.1 79), (hT.2.1 80), (hT.2.1 81), (hT.2.1 82), (hT.2.1 83), (hT.2.1 84), (hT.2.1 85), (hT.2.1 86), (hT.2.1 87), (hT.2.1 88), (hT.2.1 89), (hT.2.1 90), (hT.2.1 91), (hT.2.1 92), (hT.2.1 101), (hT.2.1 102), (hT.2.1 103), (hT.2.1 104), (hT.2.1 105), (hT.2.1 106), (hT.2.1 107), (hT.2.1 108), G59, trivial⟩) (show 0 ≤ s343 by omega) (show s343 ≤ 1 by omega) (show LxP y352 y354 y356 (m.1 6) (0 : Int) by exact hLx) (show ∀ k, (m327.2 47) k + (m327.2 48) k ≤ 4000 by exact hPA) (show s343 = 0 ∨ s343 = 1 by omega) (fun _ => (show (m.1 8) + 1 ≤ y354 by omega)) (show 1000000 * (8 - (0 : Int)) + 2 * (4000 - y354) + s343 < (n : Int) by omega)
                          · skip
                            replace h364 : LxP y352 y354 y356 (m.1 6) y358 := h364
                            have hLx := h364
                            clear h365
                            replace h366 : (m327.1 8) ≤ y354 := h366
                            clear h367
                            have hf370 : 1 ≤ y358 := by omega
                            clear g333 g334 g335 g336 g337 g338 h330 c340 u341 h342 h366
                            refine T_goto 87 rfl (fun _ => rfl) ?_
                            refine Tm_lv (a := [(0, .ref 189), (1, .int (i32 (m.1 25))), (2, .int (i32 s343))]) rfl rfl ⟨rfl, rfl, rfl, trivial⟩ ?_
                            exact ih100 s343 (mO m [(7, y352), (8, y354), (9, y356), (10, y358), (11, y360), (12, y362), (13, y37), (25, (m.1 25) + 1), (28, (m.1 28)), (64, (m.1 64)), (69, (m.1 69)), (70, (m.1 70)), (71, (m.1 71)), (72, (m.1 72)), (73, (m.1 73)), (74, (m.1 74)), (75, (m.1 75)), (99, (m.1 99)), (100, (m.1 100))] [(14, F39), (15, F41), (16, F43), (17, F45), (46, (m327.2 46)), (47, (m327.2 47)), (48, (m327.2 48)), (49, (m327.2 49)), (50, upI (m.2 50) (m.1 25) 0), (65, (m.2 65)), (66, (m.2 66)), (67, (m.2 67)), (68, (m.2 68)), (76, (m.2 76)), (77, (m.2 77)), (78, (m.2 78)), (79, (m.2 79)), (80, (m.2 80)), (81, (m.2 81)), (82, (m.2 82)), (83, (m.2 83)), (84, (m.2 84)), (85, (m.2 85)), (86, (m.2 86)), (87, (m.2 87)), (88, (m.2 88)), (89, (m.2 89)), (90, (m.2 90)), (91, (m.2 91)), (92, (m.2 92)), (101, (m.2 101)), (102, (m.2 102)), (103, (m.2 103)), (104, (m.2 104)), (105, (m.2 105)), (106, (m.2 106)), (107, (m.2 107)), (108, (m.2 108)), (109, upI (m.2 109) (m.1 25) (m.1 99))]) (r32 (by omega) (by omega)) (Ty_mO hT rfl rfl ⟨g353, g355, g357, g359, g361, g363, g38, g58, f28, f64, f69, f70, f71, f72, f73, f74, f75, f99, f100, trivial⟩ ⟨G40, G42, G44, G46, (hT328.2.1 46), (hT328.2.1 47), (hT328.2.1 48), (hT328.2.1 49), G61, (hT.2.1 65), (hT.2.1 66), (hT.2.1 67), (hT.2.1 68), (hT.2.1 76), (hT.2.1 77), (hT.2.1 78), (hT.2.1 79), (hT.2.1 80), (hT.2.1 81), (hT.2.1 82), (hT.2.1 83), (hT.2.1 84), (hT.2.1 85), (hT.2.1 86), (hT.2.1 87), (hT.2.1 88), (hT.2.1 89), (hT.2.1 90), (hT.2.1 91), (hT.2.1 92), (hT.2.1 101), (hT.2.1 102), (hT.2.1 103), (hT.2.1 104), (hT.2.1 105), (hT.2.1 106), (hT.2.1 107), (hT.2.1 108), G59, trivial⟩) (show 0 ≤ s343 by omega) (show s343 ≤ 1 by omega) (show LxP y352 y354 y356 (m.1 6) y358 by exact hLx) (show ∀ k, (m327.2 47) k + (m327.2 48) k ≤ 4000 by exact hPA) (show s343 = 0 ∨ s343 = 1 by omega) (fun (h : y358 = 0) => absurd h (by omega)) (show 1000000 * (8 - y358) + 2 * (4000 - y354) + s343 < (n : Int) by omega)
                      refine T_icmp 123 119 rfl rfl rfl (r32 (by omega) (by omega)) ⟨by decide, by decide⟩ (fun (h371 : (m327.1 7) ≠ 44) => ?_) (fun (h371 : ¬ ((m327.1 7) ≠ 44)) => ?_)
                      · skip
                        refine T_ld 124 (.int (i32 0)) rfl (fun _ => rfl) ?_
                        exact J124_344 0 ⟨by decide, by decide⟩ (show 0 ≤ (0 : Int) by omega) (show (0 : Int) ≤ 1 by omega)
                      · skip
                        refine T_ld 120 (.int (i32 1)) rfl (fun _ => rfl) ?_
                        refine T_goto 124 rfl (fun _ => rfl) ?_
                        exact J124_344 1 ⟨by decide, by decide⟩ (show 0 ≤ (1 : Int) by omega) (show (1 : Int) ≤ 1 by omega)
                    · skip
                      clear c332
                      clear h329
                      replace h330 : LxP (m327.1 7) (m327.1 8) (m327.1 9) (m.1 6) (m327.1 10) := h330
                      have hLx := h330
                      replace h331 : ∀ k, (m327.2 47) k + (m327.2 48) k ≤ 4000 := h331
                      have hPA := h331
                      have hf372 : 1 ≤ (m327.1 10) := by omega
                      clear g65 g67 g69 g73 g75 h76 u81 q85a q85b q85 ic86 ic87 q93_7 q93_9 q93_11 q93_12 ic96 ic97
                      refine T_gf 107 (.int (i32 (m327.1 10))) rfl rfl rfl rfl rfl rfl ?_
                      refine T_if 123 110 rfl rfl rfl (r32 (by omega) (by omega)) (fun (h373 : (m327.1 10) ≠ 0) => ?_) (fun (h373 : ¬ ((m327.1 10) ≠ 0)) => by exfalso; omega)
                      refine T_ld 124 (.int (i32 0)) rfl (fun _ => rfl) ?_
                      refine T_sto 125 [(2, .int (i32 0)), (0, .ref 189), (1, .int (i32 (m.1 25)))] rfl (fun _ => rfl) ?_
                      refine T_ld 126 (.int (i32 0)) rfl (fun _ => rfl) ?_
                      refine T_if 87 129 rfl rfl rfl ⟨by decide, by decide⟩ (fun _ => ?_) (fun h374 => absurd (show (0 : Int) = 0 by decide) h374)
                      refine Tm_lv (a := [(0, .ref 189), (1, .int (i32 (m.1 25))), (2, .int (i32 0))]) rfl rfl ⟨rfl, rfl, rfl, trivial⟩ ?_
                      exact ih100 0 (mO m [(7, (m327.1 7)), (8, (m327.1 8)), (9, (m327.1 9)), (10, (m327.1 10)), (11, (m327.1 11)), (12, (m327.1 12)), (13, y37), (25, (m.1 25) + 1), (28, (m.1 28)), (64, (m.1 64)), (69, (m.1 69)), (70, (m.1 70)), (71, (m.1 71)), (72, (m.1 72)), (73, (m.1 73)), (74, (m.1 74)), (75, (m.1 75)), (99, (m.1 99)), (100, (m.1 100))] [(14, F39), (15, F41), (16, F43), (17, F45), (46, (m327.2 46)), (47, (m327.2 47)), (48, (m327.2 48)), (49, (m327.2 49)), (50, upI (m.2 50) (m.1 25) 0), (65, (m.2 65)), (66, (m.2 66)), (67, (m.2 67)), (68, (m.2 68)), (76, (m.2 76)), (77, (m.2 77)), (78, (m.2 78)), (79, (m.2 79)), (80, (m.2 80)), (81, (m.2 81)), (82, (m.2 82)), (83, (m.2 83)), (84, (m.2 84)), (85, (m.2 85)), (86, (m.2 86)), (87, (m.2 87)), (88, (m.2 88)), (89, (m.2 89)), (90, (m.2 90)), (91, (m.2 91)), (92, (m.2 92)), (101, (m.2 101)), (102, (m.2 102)), (103, (m.2 103)), (104, (m.2 104)), (105, (m.2 105)), (106, (m.2 106)), (107, (m.2 107)), (108, (m.2 108)), (109, upI (m.2 109) (m.1 25) (m.1 99))]) ⟨by decide, by decide⟩ (Ty_mO hT rfl rfl ⟨(hT328.1 7), (hT328.1 8), (hT328.1 9), (hT328.1 10), (hT328.1 11), (hT328.1 12), g38, g58, f28, f64, f69, f70, f71, f72, f73, f74, f75, f99, f100, trivial⟩ ⟨G40, G42, G44, G46, (hT328.2.1 46), (hT328.2.1 47), (hT328.2.1 48), (hT328.2.1 49), G61, (hT.2.1 65), (hT.2.1 66), (hT.2.1 67), (hT.2.1 68), (hT.2.1 76), (hT.2.1 77), (hT.2.1 78), (hT.2.1 79), (hT.2.1 80), (hT.2.1 81), (hT.2.1 82), (hT.2.1 83), (hT.2.1 84), (hT.2.1 85), (hT.2.1 86), (hT.2.1 87), (hT.2.1 88), (hT.2.1 89), (hT.2.1 90), (hT.2.1 91), (hT.2.1 92), (hT.2.1 101), (hT.2.1 102), (hT.2.1 103), (hT.2.1 104), (hT.2.1 105), (hT.2.1 106), (hT.2.1 107), (hT.2.1 108), G59, trivial⟩) (show 0 ≤ (0 : Int) by omega) (show (0 : Int) ≤ 1 by omega) (show LxP (m327.1 7) (m327.1 8) (m327.1 9) (m.1 6) (m327.1 10) by exact hLx) (show ∀ k, (m327.2 47) k + (m327.2 48) k ≤ 4000 by exact hPA) (show (0 : Int) = 0 ∨ (0 : Int) = 1 by omega) (fun (h : (m327.1 10) = 0) => absurd h (by omega)) (show 1000000 * (8 - (m327.1 10)) + 2 * (4000 - (m327.1 8)) + (0 : Int) < (n : Int) by omega)
                · skip
                  clear c99
                  have hf375 : 1 ≤ (m90.1 10) := by omega
                  refine T_ld 88 (.int (i32 v89)) rfl (fun _ => rfl) ?_
                  refine T_if 136 91 rfl rfl rfl (r32 (by omega) (by omega)) (fun (h376 : v89 = 0) => ?_) (fun (h376 : ¬ (v89 = 0)) => ?_)
                  · skip
                    refine T_ld 137 (.ref 189) rfl (fun _ => rfl) ?_
                    refine T_ld 139 (.int (i32 41)) rfl (fun _ => rfl) ?_
                    refine T_call 142 232 [.ref 189, .int (i32 41)] [] rfl (fun _ => rfl) rfl (c_need w (mO m [(7, (m90.1 7)), (8, (m90.1 8)), (9, (m90.1 9)), (10, (m90.1 10)), (11, (m90.1 11)), (12, (m90.1 12)), (13, y37), (25, (m.1 25) + 1), (28, (m.1 28)), (64, (m.1 64)), (69, (m.1 69)), (70, (m.1 70)), (71, (m.1 71)), (72, (m.1 72)), (73, (m.1 73)), (74, (m.1 74)), (75, (m.1 75)), (99, (m.1 99)), (100, (m.1 100))] [(14, F39), (15, F41), (16, F43), (17, F45), (46, (m90.2 46)), (47, (m90.2 47)), (48, (m90.2 48)), (49, (m90.2 49)), (50, upI (m.2 50) (m.1 25) 0), (65, (m.2 65)), (66, (m.2 66)), (67, (m.2 67)), (68, (m.2 68)), (76, (m.2 76)), (77, (m.2 77)), (78, (m.2 78)), (79, (m.2 79)), (80, (m.2 80)), (81, (m.2 81)), (82, (m.2 82)), (83, (m.2 83)), (84, (m.2 84)), (85, (m.2 85)), (86, (m.2 86)), (87, (m.2 87)), (88, (m.2 88)), (89, (m.2 89)), (90, (m.2 90)), (91, (m.2 91)), (92, (m.2 92)), (101, (m.2 101)), (102, (m.2 102)), (103, (m.2 103)), (104, (m.2 104)), (105, (m.2 105)), (106, (m.2 106)), (107, (m.2 107)), (108, (m.2 108)), (109, upI (m.2 109) (m.1 25) (m.1 99))]) c N D (by omega) (Ty_mO hT rfl rfl ⟨(q93.1 7), (q93.1 8), (q93.1 9), (q93.1 10), (q93.1 11), (q93.1 12), g38, g58, f28, f64, f69, f70, f71, f72, f73, f74, f75, f99, f100, trivial⟩ ⟨G40, G42, G44, G46, (q93.2.1 46), (q93.2.1 47), (q93.2.1 48), (q93.2.1 49), G61, (hT.2.1 65), (hT.2.1 66), (hT.2.1 67), (hT.2.1 68), (hT.2.1 76), (hT.2.1 77), (hT.2.1 78), (hT.2.1 79), (hT.2.1 80), (hT.2.1 81), (hT.2.1 82), (hT.2.1 83), (hT.2.1 84), (hT.2.1 85), (hT.2.1 86), (hT.2.1 87), (hT.2.1 88), (hT.2.1 89), (hT.2.1 90), (hT.2.1 91), (hT.2.1 92), (hT.2.1 101), (hT.2.1 102), (hT.2.1 103), (hT.2.1 104), (hT.2.1 105), (hT.2.1 106), (hT.2.1 107), (hT.2.1 108), G59, trivial⟩) 41 ⟨by decide, by decide⟩ (show 1 ≤ (41 : Int) by omega) (show LxP (m90.1 7) (m90.1 8) (m90.1 9) (m.1 6) (m90.1 10) by first | exact hLx | (intro h9; exfalso; omega) | (intro h9; have h8 := hLx (by omega); omega))) (fun rr377 k378 => ?_)
                    obtain ⟨y379, y381, y383, y385, y387, y389, g380, g382, g384, g386, g388, g390, h391, h392, h393, h394, rfl⟩ := k378
                    refine ⟨_, _, rfl, ?_⟩
                    refine T_nf2 (st' := []) (l' := [(7, y379), (8, y381), (9, y383), (10, y385), (11, y387), (12, y389), (13, y37), (25, (m.1 25) + 1), (28, (m.1 28)), (64, (m.1 64)), (69, (m.1 69)), (70, (m.1 70)), (71, (m.1 71)), (72, (m.1 72)), (73, (m.1 73)), (74, (m.1 74)), (75, (m.1 75)), (99, (m.1 99)), (100, (m.1 100))]) (a' := [(14, F39), (15, F41), (16, F43), (17, F45), (46, (m90.2 46)), (47, (m90.2 47)), (48, (m90.2 48)), (49, (m90.2 49)), (50, upI (m.2 50) (m.1 25) 0), (65, (m.2 65)), (66, (m.2 66)), (67, (m.2 67)), (68, (m.2 68)), (76, (m.2 76)), (77, (m.2 77)), (78, (m.2 78)), (79, (m.2 79)), (80, (m.2 80)), (81, (m.2 81)), (82, (m.2 82)), (83, (m.2 83)), (84, (m.2 84)), (85, (m.2 85)), (86, (m.2 86)), (87, (m.2 87)), (88, (m.2 88)), (89, (m.2 89)), (90, (m.2 90)), (91, (m.2 91)), (92, (m.2 92)), (101, (m.2 101)), (102, (m.2 102)), (103, (m.2 103)), (104, (m.2 104)), (105, (m.2 105)), (106, (m.2 106)), (107, (m.2 107)), (108, (m.2 108)), (109, upI (m.2 109) (m.1 25) (m.1 99))]) [7, 8, 9, 10, 11, 12] [] rfl ⟨rfl, rfl, rfl, rfl, rfl, rfl, rfl, rfl, rfl, rfl, rfl, rfl, rfl, rfl, rfl, rfl, rfl, rfl, rfl, rfl, rfl, rfl, rfl, rfl, rfl, rfl, rfl, rfl, rfl, rfl, rfl, rfl, rfl, rfl, rfl, rfl, rfl, rfl, trivial⟩ ⟨rfl, rfl, rfl, rfl, rfl, rfl, rfl, rfl, rfl, rfl, rfl, rfl, rfl, rfl, rfl, rfl, rfl, rfl, rfl, rfl, rfl, rfl, rfl, rfl, rfl, rfl, rfl, rfl, rfl, rfl, rfl, rfl, rfl, rfl, rfl, rfl, rfl, rfl, rfl, rfl, rfl, rfl, rfl, rfl, rfl, rfl, rfl, rfl, rfl, rfl, rfl, rfl, rfl, rfl, rfl, rfl, rfl, rfl, rfl, rfl, rfl, rfl, rfl, rfl, rfl, rfl, rfl, rfl, rfl, rfl, rfl, rfl, rfl, rfl, rfl, rfl, rfl, rfl, trivial⟩ rfl rfl (by decide) (by decide) ?_
                    replace h391 : LxP y379 y381 y383 (m.1 6) y385 := h391
                    replace h392 : y385 = 0 → (m90.1 10) = 0 ∧ (m90.1 7) = (41 : Int) := h392
                    replace h393 : (m90.1 8) ≤ y381 := h393
                    replace h394 : y385 = 0 → (m90.1 8) + (m90.1 9) ≤ y381 := h394
                    have hf395 : 1 ≤ y385 := by omega
                    clear h392
                    clear h394
                    have hLx := h391
                    clear g65 g67 g69 g73 g75 h76 u81 q85a q85b q85 ic86 ic87 q93_7 q93_9 q93_11 q93_12 ic96
                    refine T_ld 143 (.ref 189) rfl (fun _ => rfl) ?_
                    refine T_ld 145 (.int (i32 123)) rfl (fun _ => rfl) ?_
                    refine T_call 148 232 [.ref 189, .int (i32 123)] [] rfl (fun _ => rfl) rfl (c_need w (mO m [(7, y379), (8, y381), (9, y383), (10, y385), (11, y387), (12, y389), (13, y37), (25, (m.1 25) + 1), (28, (m.1 28)), (64, (m.1 64)), (69, (m.1 69)), (70, (m.1 70)), (71, (m.1 71)), (72, (m.1 72)), (73, (m.1 73)), (74, (m.1 74)), (75, (m.1 75)), (99, (m.1 99)), (100, (m.1 100))] [(14, F39), (15, F41), (16, F43), (17, F45), (46, (m90.2 46)), (47, (m90.2 47)), (48, (m90.2 48)), (49, (m90.2 49)), (50, upI (m.2 50) (m.1 25) 0), (65, (m.2 65)), (66, (m.2 66)), (67, (m.2 67)), (68, (m.2 68)), (76, (m.2 76)), (77, (m.2 77)), (78, (m.2 78)), (79, (m.2 79)), (80, (m.2 80)), (81, (m.2 81)), (82, (m.2 82)), (83, (m.2 83)), (84, (m.2 84)), (85, (m.2 85)), (86, (m.2 86)), (87, (m.2 87)), (88, (m.2 88)), (89, (m.2 89)), (90, (m.2 90)), (91, (m.2 91)), (92, (m.2 92)), (101, (m.2 101)), (102, (m.2 102)), (103, (m.2 103)), (104, (m.2 104)), (105, (m.2 105)), (106, (m.2 106)), (107, (m.2 107)), (108, (m.2 108)), (109, upI (m.2 109) (m.1 25) (m.1 99))]) c N D (by omega) (Ty_mO hT rfl rfl ⟨g380, g382, g384, g386, g388, g390, g38, g58, f28, f64, f69, f70, f71, f72, f73, f74, f75, f99, f100, trivial⟩ ⟨G40, G42, G44, G46, (q93.2.1 46), (q93.2.1 47), (q93.2.1 48), (q93.2.1 49), G61, (hT.2.1 65), (hT.2.1 66), (hT.2.1 67), (hT.2.1 68), (hT.2.1 76), (hT.2.1 77), (hT.2.1 78), (hT.2.1 79), (hT.2.1 80), (hT.2.1 81), (hT.2.1 82), (hT.2.1 83), (hT.2.1 84), (hT.2.1 85), (hT.2.1 86), (hT.2.1 87), (hT.2.1 88), (hT.2.1 89), (hT.2.1 90), (hT.2.1 91), (hT.2.1 92), (hT.2.1 101), (hT.2.1 102), (hT.2.1 103), (hT.2.1 104), (hT.2.1 105), (hT.2.1 106), (hT.2.1 107), (hT.2.1 108), G59, trivial⟩) 123 ⟨by decide, by decide⟩ (show 1 ≤ (123 : Int) by omega) (show LxP y379 y381 y383 (m.1 6) y385 by first | exact hLx | (intro h9; exfalso; omega) | (intro h9; have h8 := hLx (by omega); omega))) (fun rr396 k397 => ?_)
                    obtain ⟨y398, y400, y402, y404, y406, y408, g399, g401, g403, g405, g407, g409, h410, h411, h412, h413, rfl⟩ := k397
                    refine ⟨_, _, rfl, ?_⟩
                    refine T_nf2 (st' := []) (l' := [(7, y398), (8, y400), (9, y402), (10, y404), (11, y406), (12, y408), (13, y37), (25, (m.1 25) + 1), (28, (m.1 28)), (64, (m.1 64)), (69, (m.1 69)), (70, (m.1 70)), (71, (m.1 71)), (72, (m.1 72)), (73, (m.1 73)), (74, (m.1 74)), (75, (m.1 75)), (99, (m.1 99)), (100, (m.1 100))]) (a' := [(14, F39), (15, F41), (16, F43), (17, F45), (46, (m90.2 46)), (47, (m90.2 47)), (48, (m90.2 48)), (49, (m90.2 49)), (50, upI (m.2 50) (m.1 25) 0), (65, (m.2 65)), (66, (m.2 66)), (67, (m.2 67)), (68, (m.2 68)), (76, (m.2 76)), (77, (m.2 77)), (78, (m.2 78)), (79, (m.2 79)), (80, (m.2 80)), (81, (m.2 81)), (82, (m.2 82)), (83, (m.2 83)), (84, (m.2 84)), (85, (m.2 85)), (86, (m.2 86)), (87, (m.2 87)), (88, (m.2 88)), (89, (m.2 89)), (90, (m.2 90)), (91, (m.2 91)), (92, (m.2 92)), (101, (m.2 101)), (102, (m.2 102)), (103, (m.2 103)), (104, (m.2 104)), (105, (m.2 105)), (106, (m.2 106)), (107, (m.2 107)), (108, (m.2 108)), (109, upI (m.2 109) (m.1 25) (m.1 99))]) [7, 8, 9, 10, 11, 12] [] rfl ⟨rfl, rfl, rfl, rfl, rfl, rfl, rfl, rfl, rfl, rfl, rfl, rfl, rfl, rfl, rfl, rfl, rfl, rfl, rfl, rfl, rfl, rfl, rfl, rfl, rfl, rfl, rfl, rfl, rfl, rfl, rfl, rfl, rfl, rfl, rfl, rfl, rfl, rfl, trivial⟩ ⟨rfl, rfl, rfl, rfl, rfl, rfl, rfl, rfl, rfl, rfl, rfl, rfl, rfl, rfl, rfl, rfl, rfl, rfl, rfl, rfl, rfl, rfl, rfl, rfl, rfl, rfl, rfl, rfl, rfl, rfl, rfl, rfl, rfl, rfl, rfl, rfl, rfl, rfl, rfl, rfl, rfl, rfl, rfl, rfl, rfl, rfl, rfl, rfl, rfl, rfl, rfl, rfl, rfl, rfl, rfl, rfl, rfl, rfl, rfl, rfl, rfl, rfl, rfl, rfl, rfl, rfl, rfl, rfl, rfl, rfl, rfl, rfl, rfl, rfl, rfl, rfl, rfl, rfl, trivial⟩ rfl rfl (by decide) (by decide) ?_
                    replace h410 : LxP y398 y400 y402 (m.1 6) y404 := h410
                    replace h411 : y404 = 0 → y385 = 0 ∧ y379 = (123 : Int) := h411
                    replace h412 : y381 ≤ y400 := h412
                    replace h413 : y404 = 0 → y381 + y383 ≤ y400 := h413
                    have hf414 : 1 ≤ y404 := by omega
                    clear h411
                    clear h413
                    have hLx := h410
                    clear g380 g382 g384 g386 g388 g390 hf395 h391 h393 h412
                    refine T_ld 149 (.ref 189) rfl (fun _ => rfl) ?_
                    refine T_ld 150 (.int (i32 (m.1 25))) rfl (fun _ => rfl) ?_
                    refine T_pf (l' := [(7, y398), (8, y400), (9, y402), (10, y404), (11, y406), (12, y408), (13, y37), (25, (m.1 25) + 1), (28, (m.1 28)), (64, (m.1 25)), (69, (m.1 69)), (70, (m.1 70)), (71, (m.1 71)), (72, (m.1 72)), (73, (m.1 73)), (74, (m.1 74)), (75, (m.1 75)), (99, (m.1 99)), (100, (m.1 100))]) 153 (m.1 25) rfl rfl rfl rfl rfl rfl ?_
                    have g415 : (-1) ≤ (m.1 25) ∧ (m.1 25) ≤ 15 := ⟨by omega, by omega⟩
                    refine T_gf 157 (.int (i32 y404)) rfl rfl rfl rfl rfl rfl ?_
                    refine T_if 211 160 rfl rfl rfl (r32 (by omega) (by omega)) (fun (h416 : y404 ≠ 0) => ?_) (fun (h416 : ¬ (y404 ≠ 0)) => by exfalso; omega)
                    refine T_ld 212 (.ref 189) rfl (fun _ => rfl) ?_
                    refine T_ld 213 (.int (i32 (-1))) rfl (fun _ => rfl) ?_
                    refine T_pf (l' := [(7, y398), (8, y400), (9, y402), (10, y404), (11, y406), (12, y408), (13, y37), (25, (m.1 25) + 1), (28, (m.1 28)), (64, (-1)), (69, (m.1 69)), (70, (m.1 70)), (71, (m.1 71)), (72, (m.1 72)), (73, (m.1 73)), (74, (m.1 74)), (75, (m.1 75)), (99, (m.1 99)), (100, (m.1 100))]) 216 (-1) rfl rfl rfl rfl rfl rfl ?_
                    refine T_ld 217 (.ref 189) rfl (fun _ => rfl) ?_
                    refine T_ld 219 (.int (i32 125)) rfl (fun _ => rfl) ?_
                    refine T_call 222 232 [.ref 189, .int (i32 125)] [] rfl (fun _ => rfl) rfl (c_need w (mO m [(7, y398), (8, y400), (9, y402), (10, y404), (11, y406), (12, y408), (13, y37), (25, (m.1 25) + 1), (28, (m.1 28)), (64, (-1)), (69, (m.1 69)), (70, (m.1 70)), (71, (m.1 71)), (72, (m.1 72)), (73, (m.1 73)), (74, (m.1 74)), (75, (m.1 75)), (99, (m.1 99)), (100, (m.1 100))] [(14, F39), (15, F41), (16, F43), (17, F45), (46, (m90.2 46)), (47, (m90.2 47)), (48, (m90.2 48)), (49, (m90.2 49)), (50, upI (m.2 50) (m.1 25) 0), (65, (m.2 65)), (66, (m.2 66)), (67, (m.2 67)), (68, (m.2 68)), (76, (m.2 76)), (77, (m.2 77)), (78, (m.2 78)), (79, (m.2 79)), (80, (m.2 80)), (81, (m.2 81)), (82, (m.2 82)), (83, (m.2 83)), (84, (m.2 84)), (85, (m.2 85)), (86, (m.2 86)), (87, (m.2 87)), (88, (m.2 88)), (89, (m.2 89)), (90, (m.2 90)), (91, (m.2 91)), (92, (m.2 92)), (101, (m.2 101)), (102, (m.2 102)), (103, (m.2 103)), (104, (m.2 104)), (105, (m.2 105)), (106, (m.2 106)), (107, (m.2 107)), (108, (m.2 108)), (109, upI (m.2 109) (m.1 25) (m.1 99))]) c N D (by omega) (Ty_mO hT rfl rfl ⟨g399, g401, g403, g405, g407, g409, g38, g58, f28, ⟨(by omega : ((-1) : Int) ≤ (-1)), (by omega : ((-1) : Int) ≤ 15)⟩, f69, f70, f71, f72, f73, f74, f75, f99, f100, trivial⟩ ⟨G40, G42, G44, G46, (q93.2.1 46), (q93.2.1 47), (q93.2.1 48), (q93.2.1 49), G61, (hT.2.1 65), (hT.2.1 66), (hT.2.1 67), (hT.2.1 68), (hT.2.1 76), (hT.2.1 77), (hT.2.1 78), (hT.2.1 79), (hT.2.1 80), (hT.2.1 81), (hT.2.1 82), (hT.2.1 83), (hT.2.1 84), (hT.2.1 85), (hT.2.1 86), (hT.2.1 87), (hT.2.1 88), (hT.2.1 89), (hT.2.1 90), (hT.2.1 91), (hT.2.1 92), (hT.2.1 101), (hT.2.1 102), (hT.2.1 103), (hT.2.1 104), (hT.2.1 105), (hT.2.1 106), (hT.2.1 107), (hT.2.1 108), G59, trivial⟩) 125 ⟨by decide, by decide⟩ (show 1 ≤ (125 : Int) by omega) (show LxP y398 y400 y402 (m.1 6) y404 by first | exact hLx | (intro h9; exfalso; omega) | (intro h9; have h8 := hLx (by omega); omega))) (fun rr417 k418 => ?_)
                    obtain ⟨y419, y421, y423, y425, y427, y429, g420, g422, g424, g426, g428, g430, h431, h432, h433, h434, rfl⟩ := k418
                    refine ⟨_, _, rfl, ?_⟩
                    refine T_nf2 (st' := []) (l' := [(7, y419), (8, y421), (9, y423), (10, y425), (11, y427), (12, y429), (13, y37), (25, (m.1 25) + 1), (28, (m.1 28)), (64, (-1)), (69, (m.1 69)), (70, (m.1 70)), (71, (m.1 71)), (72, (m.1 72)), (73, (m.1 73)), (74, (m.1 74)), (75, (m.1 75)), (99, (m.1 99)), (100, (m.1 100))]) (a' := [(14, F39), (15, F41), (16, F43), (17, F45), (46, (m90.2 46)), (47, (m90.2 47)), (48, (m90.2 48)), (49, (m90.2 49)), (50, upI (m.2 50) (m.1 25) 0), (65, (m.2 65)), (66, (m.2 66)), (67, (m.2 67)), (68, (m.2 68)), (76, (m.2 76)), (77, (m.2 77)), (78, (m.2 78)), (79, (m.2 79)), (80, (m.2 80)), (81, (m.2 81)), (82, (m.2 82)), (83, (m.2 83)), (84, (m.2 84)), (85, (m.2 85)), (86, (m.2 86)), (87, (m.2 87)), (88, (m.2 88)), (89, (m.2 89)), (90, (m.2 90)), (91, (m.2 91)), (92, (m.2 92)), (101, (m.2 101)), (102, (m.2 102)), (103, (m.2 103)), (104, (m.2 104)), (105, (m.2 105)), (106, (m.2 106)), (107, (m.2 107)), (108, (m.2 108)), (109, upI (m.2 109) (m.1 25) (m.1 99))]) [7, 8, 9, 10, 11, 12] [] rfl ⟨rfl, rfl, rfl, rfl, rfl, rfl, rfl, rfl, rfl, rfl, rfl, rfl, rfl, rfl, rfl, rfl, rfl, rfl, rfl, rfl, rfl, rfl, rfl, rfl, rfl, rfl, rfl, rfl, rfl, rfl, rfl, rfl, rfl, rfl, rfl, rfl, rfl, rfl, trivial⟩ ⟨rfl, rfl, rfl, rfl, rfl, rfl, rfl, rfl, rfl, rfl, rfl, rfl, rfl, rfl, rfl, rfl, rfl, rfl, rfl, rfl, rfl, rfl, rfl, rfl, rfl, rfl, rfl, rfl, rfl, rfl, rfl, rfl, rfl, rfl, rfl, rfl, rfl, rfl, rfl, rfl, rfl, rfl, rfl, rfl, rfl, rfl, rfl, rfl, rfl, rfl, rfl, rfl, rfl, rfl, rfl, rfl, rfl, rfl, rfl, rfl, rfl, rfl, rfl, rfl, rfl, rfl, rfl, rfl, rfl, rfl, rfl, rfl, rfl, rfl, rfl, rfl, rfl, rfl, trivial⟩ rfl rfl (by decide) (by decide) ?_
                    replace h431 : LxP y419 y421 y423 (m.1 6) y425 := h431
                    replace h432 : y425 = 0 → y404 = 0 ∧ y398 = (125 : Int) := h432
                    replace h433 : y400 ≤ y421 := h433
                    replace h434 : y425 = 0 → y400 + y402 ≤ y421 := h434
                    have hf435 : 1 ≤ y425 := by omega
                    clear h432
                    clear h434
                    have hLx := h431
                    clear g399 g401 g403 g405 g407 g409 hf414 h410 h416 h433
                    refine T_ret rfl (fun _ => rfl) ?_
                    exact ⟨(mO m [(7, y419), (8, y421), (9, y423), (10, y425), (11, y427), (12, y429), (13, y37), (25, (m.1 25) + 1), (28, (m.1 28)), (64, (-1)), (69, (m.1 69)), (70, (m.1 70)), (71, (m.1 71)), (72, (m.1 72)), (73, (m.1 73)), (74, (m.1 74)), (75, (m.1 75)), (99, (m.1 99)), (100, (m.1 100))] [(14, F39), (15, F41), (16, F43), (17, F45), (46, (m90.2 46)), (47, (m90.2 47)), (48, (m90.2 48)), (49, (m90.2 49)), (50, upI (m.2 50) (m.1 25) 0), (65, (m.2 65)), (66, (m.2 66)), (67, (m.2 67)), (68, (m.2 68)), (76, (m.2 76)), (77, (m.2 77)), (78, (m.2 78)), (79, (m.2 79)), (80, (m.2 80)), (81, (m.2 81)), (82, (m.2 82)), (83, (m.2 83)), (84, (m.2 84)), (85, (m.2 85)), (86, (m.2 86)), (87, (m.2 87)), (88, (m.2 88)), (89, (m.2 89)), (90, (m.2 90)), (91, (m.2 91)), (92, (m.2 92)), (101, (m.2 101)), (102, (m.2 102)), (103, (m.2 103)), (104, (m.2 104)), (105, (m.2 105)), (106, (m.2 106)), (107, (m.2 107)), (108, (m.2 108)), (109, upI (m.2 109) (m.1 25) (m.1 99))]), (Ty_mO hT rfl rfl ⟨g420, g422, g424, g426, g428, g430, g38, g58, f28, ⟨(by omega : ((-1) : Int) ≤ (-1)), (by omega : ((-1) : Int) ≤ 15)⟩, f69, f70, f71, f72, f73, f74, f75, f99, f100, trivial⟩ ⟨G40, G42, G44, G46, (q93.2.1 46), (q93.2.1 47), (q93.2.1 48), (q93.2.1 49), G61, (hT.2.1 65), (hT.2.1 66), (hT.2.1 67), (hT.2.1 68), (hT.2.1 76), (hT.2.1 77), (hT.2.1 78), (hT.2.1 79), (hT.2.1 80), (hT.2.1 81), (hT.2.1 82), (hT.2.1 83), (hT.2.1 84), (hT.2.1 85), (hT.2.1 86), (hT.2.1 87), (hT.2.1 88), (hT.2.1 89), (hT.2.1 90), (hT.2.1 91), (hT.2.1 92), (hT.2.1 101), (hT.2.1 102), (hT.2.1 103), (hT.2.1 104), (hT.2.1 105), (hT.2.1 106), (hT.2.1 107), (hT.2.1 108), G59, trivial⟩), (show y425 = 0 → (m.1 10) = 0 by omega), (show LxP y419 y421 y423 (m.1 6) y425 by first | (first | exact hLx | exact (fun _ => hLx (by omega)) | (intro h9; exfalso; omega)) | (exfalso; omega)), (show ∀ k, F39 k + F41 k ≤ 4000 by first | (exact hNM) | (exfalso; omega)), (show ∀ k, (m90.2 47) k + (m90.2 48) k ≤ 4000 by first | (exact hPA) | (exfalso; omega)), (fun (h : y425 = 0) => absurd h (by omega)), rfl⟩
                  · skip
                    refine T_gf 95 (.int (i32 (m90.1 10))) rfl rfl rfl rfl rfl rfl ?_
                    refine T_if 136 98 rfl rfl rfl (r32 (by omega) (by omega)) (fun (h436 : (m90.1 10) ≠ 0) => ?_) (fun (h436 : ¬ ((m90.1 10) ≠ 0)) => by exfalso; omega)
                    refine T_ld 137 (.ref 189) rfl (fun _ => rfl) ?_
                    refine T_ld 139 (.int (i32 41)) rfl (fun _ => rfl) ?_
                    refine T_call 142 232 [.ref 189, .int (i32 41)] [] rfl (fun _ => rfl) rfl (c_need w (mO m [(7, (m90.1 7)), (8, (m90.1 8)), (9, (m90.1 9)), (10, (m90.1 10)), (11, (m90.1 11)), (12, (m90.1 12)), (13, y37), (25, (m.1 25) + 1), (28, (m.1 28)), (64, (m.1 64)), (69, (m.1 69)), (70, (m.1 70)), (71, (m.1 71)), (72, (m.1 72)), (73, (m.1 73)), (74, (m.1 74)), (75, (m.1 75)), (99, (m.1 99)), (100, (m.1 100))] [(14, F39), (15, F41), (16, F43), (17, F45), (46, (m90.2 46)), (47, (m90.2 47)), (48, (m90.2 48)), (49, (m90.2 49)), (50, upI (m.2 50) (m.1 25) 0), (65, (m.2 65)), (66, (m.2 66)), (67, (m.2 67)), (68, (m.2 68)), (76, (m.2 76)), (77, (m.2 77)), (78, (m.2 78)), (79, (m.2 79)), (80, (m.2 80)), (81, (m.2 81)), (82, (m.2 82)), (83, (m.2 83)), (84, (m.2 84)), (85, (m.2 85)), (86, (m.2 86)), (87, (m.2 87)), (88, (m.2 88)), (89, (m.2 89)), (90, (m.2 90)), (91, (m.2 91)), (92, (m.2 92)), (101, (m.2 101)), (102, (m.2 102)), (103, (m.2 103)), (104, (m.2 104)), (105, (m.2 105)), (106, (m.2 106)), (107, (m.2 107)), (108, (m.2 108)), (109, upI (m.2 109) (m.1 25) (m.1 99))]) c N D (by omega) (Ty_mO hT rfl rfl ⟨(q93.1 7), (q93.1 8), (q93.1 9), (q93.1 10), (q93.1 11), (q93.1 12), g38, g58, f28, f64, f69, f70, f71, f72, f73, f74, f75, f99, f100, trivial⟩ ⟨G40, G42, G44, G46, (q93.2.1 46), (q93.2.1 47), (q93.2.1 48), (q93.2.1 49), G61, (hT.2.1 65), (hT.2.1 66), (hT.2.1 67), (hT.2.1 68), (hT.2.1 76), (hT.2.1 77), (hT.2.1 78), (hT.2.1 79), (hT.2.1 80), (hT.2.1 81), (hT.2.1 82), (hT.2.1 83), (hT.2.1 84), (hT.2.1 85), (hT.2.1 86), (hT.2.1 87), (hT.2.1 88), (hT.2.1 89), (hT.2.1 90), (hT.2.1 91), (hT.2.1 92), (hT.2.1 101), (hT.2.1 102), (hT.2.1 103), (hT.2.1 104), (hT.2.1 105), (hT.2.1 106), (hT.2.1 107), (hT.2.1 108), G59, trivial⟩) 41 ⟨by decide, by decide⟩ (show 1 ≤ (41 : Int) by omega) (show LxP (m90.1 7) (m90.1 8) (m90.1 9) (m.1 6) (m90.1 10) by first | exact hLx | (intro h9; exfalso; omega) | (intro h9; have h8 := hLx (by omega); omega))) (fun rr437 k438 => ?_)
                    obtain ⟨y439, y441, y443, y445, y447, y449, g440, g442, g444, g446, g448, g450, h451, h452, h453, h454, rfl⟩ := k438
                    refine ⟨_, _, rfl, ?_⟩
                    refine T_nf2 (st' := []) (l' := [(7, y439), (8, y441), (9, y443), (10, y445), (11, y447), (12, y449), (13, y37), (25, (m.1 25) + 1), (28, (m.1 28)), (64, (m.1 64)), (69, (m.1 69)), (70, (m.1 70)), (71, (m.1 71)), (72, (m.1 72)), (73, (m.1 73)), (74, (m.1 74)), (75, (m.1 75)), (99, (m.1 99)), (100, (m.1 100))]) (a' := [(14, F39), (15, F41), (16, F43), (17, F45), (46, (m90.2 46)), (47, (m90.2 47)), (48, (m90.2 48)), (49, (m90.2 49)), (50, upI (m.2 50) (m.1 25) 0), (65, (m.2 65)), (66, (m.2 66)), (67, (m.2 67)), (68, (m.2 68)), (76, (m.2 76)), (77, (m.2 77)), (78, (m.2 78)), (79, (m.2 79)), (80, (m.2 80)), (81, (m.2 81)), (82, (m.2 82)), (83, (m.2 83)), (84, (m.2 84)), (85, (m.2 85)), (86, (m.2 86)), (87, (m.2 87)), (88, (m.2 88)), (89, (m.2 89)), (90, (m.2 90)), (91, (m.2 91)), (92, (m.2 92)), (101, (m.2 101)), (102, (m.2 102)), (103, (m.2 103)), (104, (m.2 104)), (105, (m.2 105)), (106, (m.2 106)), (107, (m.2 107)), (108, (m.2 108)), (109, upI (m.2 109) (m.1 25) (m.1 99))]) [7, 8, 9, 10, 11, 12] [] rfl ⟨rfl, rfl, rfl, rfl, rfl, rfl, rfl, rfl, rfl, rfl, rfl, rfl, rfl, rfl, rfl, rfl, rfl, rfl, rfl, rfl, rfl, rfl, rfl, rfl, rfl, rfl, rfl, rfl, rfl, rfl, rfl, rfl, rfl, rfl, rfl, rfl, rfl, rfl, trivial⟩ ⟨rfl, rfl, rfl, rfl, rfl, rfl, rfl, rfl, rfl, rfl, rfl, rfl, rfl, rfl, rfl, rfl, rfl, rfl, rfl, rfl, rfl, rfl, rfl, rfl, rfl, rfl, rfl, rfl, rfl, rfl, rfl, rfl, rfl, rfl, rfl, rfl, rfl, rfl, rfl, rfl, rfl, rfl, rfl, rfl, rfl, rfl, rfl, rfl, rfl, rfl, rfl, rfl, rfl, rfl, rfl, rfl, rfl, rfl, rfl, rfl, rfl, rfl, rfl, rfl, rfl, rfl, rfl, rfl, rfl, rfl, rfl, rfl, rfl, rfl, rfl, rfl, rfl, rfl, trivial⟩ rfl rfl (by decide) (by decide) ?_
                    replace h451 : LxP y439 y441 y443 (m.1 6) y445 := h451
                    replace h452 : y445 = 0 → (m90.1 10) = 0 ∧ (m90.1 7) = (41 : Int) := h452
                    replace h453 : (m90.1 8) ≤ y441 := h453
                    replace h454 : y445 = 0 → (m90.1 8) + (m90.1 9) ≤ y441 := h454
                    have hf455 : 1 ≤ y445 := by omega
                    clear h452
                    clear h454
                    have hLx := h451
                    clear g65 g67 g69 g73 g75 h76 u81 q85a q85b q85 ic86 ic87 q93_7 q93_9 q93_11 q93_12 ic96
                    refine T_ld 143 (.ref 189) rfl (fun _ => rfl) ?_
                    refine T_ld 145 (.int (i32 123)) rfl (fun _ => rfl) ?_
                    refine T_call 148 232 [.ref 189, .int (i32 123)] [] rfl (fun _ => rfl) rfl (c_need w (mO m [(7, y439), (8, y441), (9, y443), (10, y445), (11, y447), (12, y449), (13, y37), (25, (m.1 25) + 1), (28, (m.1 28)), (64, (m.1 64)), (69, (m.1 69)), (70, (m.1 70)), (71, (m.1 71)), (72, (m.1 72)), (73, (m.1 73)), (74, (m.1 74)), (75, (m.1 75)), (99, (m.1 99)), (100, (m.1 100))] [(14, F39), (15, F41), (16, F43), (17, F45), (46, (m90.2 46)), (47, (m90.2 47)), (48, (m90.2 48)), (49, (m90.2 49)), (50, upI (m.2 50) (m.1 25) 0), (65, (m.2 65)), (66, (m.2 66)), (67, (m.2 67)), (68, (m.2 68)), (76, (m.2 76)), (77, (m.2 77)), (78, (m.2 78)), (79, (m.2 79)), (80, (m.2 80)), (81, (m.2 81)), (82, (m.2 82)), (83, (m.2 83)), (84, (m.2 84)), (85, (m.2 85)), (86, (m.2 86)), (87, (m.2 87)), (88, (m.2 88)), (89, (m.2 89)), (90, (m.2 90)), (91, (m.2 91)), (92, (m.2 92)), (101, (m.2 101)), (102, (m.2 102)), (103, (m.2 103)), (104, (m.2 104)), (105, (m.2 105)), (106, (m.2 106)), (107, (m.2 107)), (108, (m.2 108)), (109, upI (m.2 109) (m.1 25) (m.1 99))]) c N D (by omega) (Ty_mO hT rfl rfl ⟨g440, g442, g444, g446, g448, g450, g38, g58, f28, f64, f69, f70, f71, f72, f73, f74, f75, f99, f100, trivial⟩ ⟨G40, G42, G44, G46, (q93.2.1 46), (q93.2.1 47), (q93.2.1 48), (q93.2.1 49), G61, (hT.2.1 65), (hT.2.1 66), (hT.2.1 67), (hT.2.1 68), (hT.2.1 76), (hT.2.1 77), (hT.2.1 78), (hT.2.1 79), (hT.2.1 80), (hT.2.1 81), (hT.2.1 82), (hT.2.1 83), (hT.2.1 84), (hT.2.1 85), (hT.2.1 86), (hT.2.1 87), (hT.2.1 88), (hT.2.1 89), (hT.2.1 90), (hT.2.1 91), (hT.2.1 92), (hT.2.1 101), (hT.2.1 102), (hT.2.1 103), (hT.2.1 104), (hT.2.1 105), (hT.2.1 106), (hT.2.1 107), (hT.2.1 108), G59, trivial⟩) 123 ⟨by decide, by decide⟩ (show 1 ≤ (123 : Int) by omega) (show LxP y439 y441 y443 (m.1 6) y445 by first | exact hLx | (intro h9; exfalso; omega) | (intro h9; have h8 := hLx (by omega); omega))) (fun rr456 k457 => ?_)
                    obtain ⟨y458, y460, y462, y464, y466, y468, g459, g461, g463, g465, g467, g469, h470, h471, h472, h473, rfl⟩ := k457
                    refine ⟨_, _, rfl, ?_⟩
                    refine T_nf2 (st' := []) (l' := [(7, y458), (8, y460), (9, y462), (10, y464), (11, y466), (12, y468), (13, y37), (25, (m.1 25) + 1), (28, (m.1 28)), (64, (m.1 64)), (69, (m.1 69)), (70, (m.1 70)), (71, (m.1 71)), (72, (m.1 72)), (73, (m.1 73)), (74, (m.1 74)), (75, (m.1 75)), (99, (m.1 99)), (100, (m.1 100))]) (a' := [(14, F39), (15, F41), (16, F43), (17, F45), (46, (m90.2 46)), (47, (m90.2 47)), (48, (m90.2 48)), (49, (m90.2 49)), (50, upI (m.2 50) (m.1 25) 0), (65, (m.2 65)), (66, (m.2 66)), (67, (m.2 67)), (68, (m.2 68)), (76, (m.2 76)), (77, (m.2 77)), (78, (m.2 78)), (79, (m.2 79)), (80, (m.2 80)), (81, (m.2 81)), (82, (m.2 82)), (83, (m.2 83)), (84, (m.2 84)), (85, (m.2 85)), (86, (m.2 86)), (87, (m.2 87)), (88, (m.2 88)), (89, (m.2 89)), (90, (m.2 90)), (91, (m.2 91)), (92, (m.2 92)), (101, (m.2 101)), (102, (m.2 102)), (103, (m.2 103)), (104, (m.2 104)), (105, (m.2 105)), (106, (m.2 106)), (107, (m.2 107)), (108, (m.2 108)), (109, upI (m.2 109) (m.1 25) (m.1 99))]) [7, 8, 9, 10, 11, 12] [] rfl ⟨rfl, rfl, rfl, rfl, rfl, rfl, rfl, rfl, rfl, rfl, rfl, rfl, rfl, rfl, rfl, rfl, rfl, rfl, rfl, rfl, rfl, rfl, rfl, rfl, rfl, rfl, rfl, rfl, rfl, rfl, rfl, rfl, rfl, rfl, rfl, rfl, rfl, rfl, trivial⟩ ⟨rfl, rfl, rfl, rfl, rfl, rfl, rfl, rfl, rfl, rfl, rfl, rfl, rfl, rfl, rfl, rfl, rfl, rfl, rfl, rfl, rfl, rfl, rfl, rfl, rfl, rfl, rfl, rfl, rfl, rfl, rfl, rfl, rfl, rfl, rfl, rfl, rfl, rfl, rfl, rfl, rfl, rfl, rfl, rfl, rfl, rfl, rfl, rfl, rfl, rfl, rfl, rfl, rfl, rfl, rfl, rfl, rfl, rfl, rfl, rfl, rfl, rfl, rfl, rfl, rfl, rfl, rfl, rfl, rfl, rfl, rfl, rfl, rfl, rfl, rfl, rfl, rfl, rfl, trivial⟩ rfl rfl (by decide) (by decide) ?_
                    replace h470 : LxP y458 y460 y462 (m.1 6) y464 := h470
                    replace h471 : y464 = 0 → y445 = 0 ∧ y439 = (123 : Int) := h471
                    replace h472 : y441 ≤ y460 := h472
                    replace h473 : y464 = 0 → y441 + y443 ≤ y460 := h473
                    have hf474 : 1 ≤ y464 := by omega
                    clear h471
                    clear h473
                    have hLx := h470
                    clear g440 g442 g444 g446 g448 g450 hf455 h451 h453 h472
                    refine T_ld 149 (.ref 189) rfl (fun _ => rfl) ?_
                    refine T_ld 150 (.int (i32 (m.1 25))) rfl (fun _ => rfl) ?_
                    refine T_pf (l' := [(7, y458), (8, y460), (9, y462), (10, y464), (11, y466), (12, y468), (13, y37), (25, (m.1 25) + 1), (28, (m.1 28)), (64, (m.1 25)), (69, (m.1 69)), (70, (m.1 70)), (71, (m.1 71)), (72, (m.1 72)), (73, (m.1 73)), (74, (m.1 74)), (75, (m.1 75)), (99, (m.1 99)), (100, (m.1 100))]) 153 (m.1 25) rfl rfl rfl rfl rfl rfl ?_
                    have g475 : (-1) ≤ (m.1 25) ∧ (m.1 25) ≤ 15 := ⟨by omega, by omega⟩
                    refine T_gf 157 (.int (i32 y464)) rfl rfl rfl rfl rfl rfl ?_
                    refine T_if 211 160 rfl rfl rfl (r32 (by omega) (by omega)) (fun (h476 : y464 ≠ 0) => ?_) (fun (h476 : ¬ (y464 ≠ 0)) => by exfalso; omega)
                    refine T_ld 212 (.ref 189) rfl (fun _ => rfl) ?_
                    refine T_ld 213 (.int (i32 (-1))) rfl (fun _ => rfl) ?_
                    refine T_pf (l' := [(7, y458), (8, y460), (9, y462), (10, y464), (11, y466), (12, y468), (13, y37), (25, (m.1 25) + 1), (28, (m.1 28)), (64, (-1)), (69, (m.1 69)), (70, (m.1 70)), (71, (m.1 71)), (72, (m.1 72)), (73, (m.1 73)), (74, (m.1 74)), (75, (m.1 75)), (99, (m.1 99)), (100, (m.1 100))]) 216 (-1) rfl rfl rfl rfl rfl rfl ?_
                    refine T_ld 217 (.ref 189) rfl (fun _ => rfl) ?_
                    refine T_ld 219 (.int (i32 125)) rfl (fun _ => rfl) ?_
                    refine T_call 222 232 [.ref 189, .int (i32 125)] [] rfl (fun _ => rfl) rfl (c_need w (mO m [(7, y458), (8, y460), (9, y462), (10, y464), (11, y466), (12, y468), (13, y37), (25, (m.1 25) + 1), (28, (m.1 28)), (64, (-1)), (69, (m.1 69)), (70, (m.1 70)), (71, (m.1 71)), (72, (m.1 72)), (73, (m.1 73)), (74, (m.1 74)), (75, (m.1 75)), (99, (m.1 99)), (100, (m.1 100))] [(14, F39), (15, F41), (16, F43), (17, F45), (46, (m90.2 46)), (47, (m90.2 47)), (48, (m90.2 48)), (49, (m90.2 49)), (50, upI (m.2 50) (m.1 25) 0), (65, (m.2 65)), (66, (m.2 66)), (67, (m.2 67)), (68, (m.2 68)), (76, (m.2 76)), (77, (m.2 77)), (78, (m.2 78)), (79, (m.2 79)), (80, (m.2 80)), (81, (m.2 81)), (82, (m.2 82)), (83, (m.2 83)), (84, (m.2 84)), (85, (m.2 85)), (86, (m.2 86)), (87, (m.2 87)), (88, (m.2 88)), (89, (m.2 89)), (90, (m.2 90)), (91, (m.2 91)), (92, (m.2 92)), (101, (m.2 101)), (102, (m.2 102)), (103, (m.2 103)), (104, (m.2 104)), (105, (m.2 105)), (106, (m.2 106)), (107, (m.2 107)), (108, (m.2 108)), (109, upI (m.2 109) (m.1 25) (m.1 99))]) c N D (by omega) (Ty_mO hT rfl rfl ⟨g459, g461, g463, g465, g467, g469, g38, g58, f28, ⟨(by omega : ((-1) : Int) ≤ (-1)), (by omega : ((-1) : Int) ≤ 15)⟩, f69, f70, f71, f72, f73, f74, f75, f99, f100, trivial⟩ ⟨G40, G42, G44, G46, (q93.2.1 46), (q93.2.1 47), (q93.2.1 48), (q93.2.1 49), G61, (hT.2.1 65), (hT.2.1 66), (hT.2.1 67), (hT.2.1 68), (hT.2.1 76), (hT.2.1 77), (hT.2.1 78), (hT.2.1 79), (hT.2.1 80), (hT.2.1 81), (hT.2.1 82), (hT.2.1 83), (hT.2.1 84), (hT.2.1 85), (hT.2.1 86), (hT.2.1 87), (hT.2.1 88), (hT.2.1 89), (hT.2.1 90), (hT.2.1 91), (hT.2.1 92), (hT.2.1 101), (hT.2.1 102), (hT.2.1 103), (hT.2.1 104), (hT.2.1 105), (hT.2.1 106), (hT.2.1 107), (hT.2.1 108), G59, trivial⟩) 125 ⟨by decide, by decide⟩ (show 1 ≤ (125 : Int) by omega) (show LxP y458 y460 y462 (m.1 6) y464 by first | exact hLx | (intro h9; exfalso; omega) | (intro h9; have h8 := hLx (by omega); omega))) (fun rr477 k478 => ?_)
                    obtain ⟨y479, y481, y483, y485, y487, y489, g480, g482, g484, g486, g488, g490, h491, h492, h493, h494, rfl⟩ := k478
                    refine ⟨_, _, rfl, ?_⟩
                    refine T_nf2 (st' := []) (l' := [(7, y479), (8, y481), (9, y483), (10, y485), (11, y487), (12, y489), (13, y37), (25, (m.1 25) + 1), (28, (m.1 28)), (64, (-1)), (69, (m.1 69)), (70, (m.1 70)), (71, (m.1 71)), (72, (m.1 72)), (73, (m.1 73)), (74, (m.1 74)), (75, (m.1 75)), (99, (m.1 99)), (100, (m.1 100))]) (a' := [(14, F39), (15, F41), (16, F43), (17, F45), (46, (m90.2 46)), (47, (m90.2 47)), (48, (m90.2 48)), (49, (m90.2 49)), (50, upI (m.2 50) (m.1 25) 0), (65, (m.2 65)), (66, (m.2 66)), (67, (m.2 67)), (68, (m.2 68)), (76, (m.2 76)), (77, (m.2 77)), (78, (m.2 78)), (79, (m.2 79)), (80, (m.2 80)), (81, (m.2 81)), (82, (m.2 82)), (83, (m.2 83)), (84, (m.2 84)), (85, (m.2 85)), (86, (m.2 86)), (87, (m.2 87)), (88, (m.2 88)), (89, (m.2 89)), (90, (m.2 90)), (91, (m.2 91)), (92, (m.2 92)), (101, (m.2 101)), (102, (m.2 102)), (103, (m.2 103)), (104, (m.2 104)), (105, (m.2 105)), (106, (m.2 106)), (107, (m.2 107)), (108, (m.2 108)), (109, upI (m.2 109) (m.1 25) (m.1 99))]) [7, 8, 9, 10, 11, 12] [] rfl ⟨rfl, rfl, rfl, rfl, rfl, rfl, rfl, rfl, rfl, rfl, rfl, rfl, rfl, rfl, rfl, rfl, rfl, rfl, rfl, rfl, rfl, rfl, rfl, rfl, rfl, rfl, rfl, rfl, rfl, rfl, rfl, rfl, rfl, rfl, rfl, rfl, rfl, rfl, trivial⟩ ⟨rfl, rfl, rfl, rfl, rfl, rfl, rfl, rfl, rfl, rfl, rfl, rfl, rfl, rfl, rfl, rfl, rfl, rfl, rfl, rfl, rfl, rfl, rfl, rfl, rfl, rfl, rfl, rfl, rfl, rfl, rfl, rfl, rfl, rfl, rfl, rfl, rfl, rfl, rfl, rfl, rfl, rfl, rfl, rfl, rfl, rfl, rfl, rfl, rfl, rfl, rfl, rfl, rfl, rfl, rfl, rfl, rfl, rfl, rfl, rfl, rfl, rfl, rfl, rfl, rfl, rfl, rfl, rfl, rfl, rfl, rfl, rfl, rfl, rfl, rfl, rfl, rfl, rfl, trivial⟩ rfl rfl (by decide) (by decide) ?_
                    replace h491 : LxP y479 y481 y483 (m.1 6) y485 := h491
                    replace h492 : y485 = 0 → y464 = 0 ∧ y458 = (125 : Int) := h492
                    replace h493 : y460 ≤ y481 := h493
                    replace h494 : y485 = 0 → y460 + y462 ≤ y481 := h494
                    have hf495 : 1 ≤ y485 := by omega
                    clear h492
                    clear h494
                    have hLx := h491
                    clear g459 g461 g463 g465 g467 g469 hf474 h470 h476 h493
                    refine T_ret rfl (fun _ => rfl) ?_
                    exact ⟨(mO m [(7, y479), (8, y481), (9, y483), (10, y485), (11, y487), (12, y489), (13, y37), (25, (m.1 25) + 1), (28, (m.1 28)), (64, (-1)), (69, (m.1 69)), (70, (m.1 70)), (71, (m.1 71)), (72, (m.1 72)), (73, (m.1 73)), (74, (m.1 74)), (75, (m.1 75)), (99, (m.1 99)), (100, (m.1 100))] [(14, F39), (15, F41), (16, F43), (17, F45), (46, (m90.2 46)), (47, (m90.2 47)), (48, (m90.2 48)), (49, (m90.2 49)), (50, upI (m.2 50) (m.1 25) 0), (65, (m.2 65)), (66, (m.2 66)), (67, (m.2 67)), (68, (m.2 68)), (76, (m.2 76)), (77, (m.2 77)), (78, (m.2 78)), (79, (m.2 79)), (80, (m.2 80)), (81, (m.2 81)), (82, (m.2 82)), (83, (m.2 83)), (84, (m.2 84)), (85, (m.2 85)), (86, (m.2 86)), (87, (m.2 87)), (88, (m.2 88)), (89, (m.2 89)), (90, (m.2 90)), (91, (m.2 91)), (92, (m.2 92)), (101, (m.2 101)), (102, (m.2 102)), (103, (m.2 103)), (104, (m.2 104)), (105, (m.2 105)), (106, (m.2 106)), (107, (m.2 107)), (108, (m.2 108)), (109, upI (m.2 109) (m.1 25) (m.1 99))]), (Ty_mO hT rfl rfl ⟨g480, g482, g484, g486, g488, g490, g38, g58, f28, ⟨(by omega : ((-1) : Int) ≤ (-1)), (by omega : ((-1) : Int) ≤ 15)⟩, f69, f70, f71, f72, f73, f74, f75, f99, f100, trivial⟩ ⟨G40, G42, G44, G46, (q93.2.1 46), (q93.2.1 47), (q93.2.1 48), (q93.2.1 49), G61, (hT.2.1 65), (hT.2.1 66), (hT.2.1 67), (hT.2.1 68), (hT.2.1 76), (hT.2.1 77), (hT.2.1 78), (hT.2.1 79), (hT.2.1 80), (hT.2.1 81), (hT.2.1 82), (hT.2.1 83), (hT.2.1 84), (hT.2.1 85), (hT.2.1 86), (hT.2.1 87), (hT.2.1 88), (hT.2.1 89), (hT.2.1 90), (hT.2.1 91), (hT.2.1 92), (hT.2.1 101), (hT.2.1 102), (hT.2.1 103), (hT.2.1 104), (hT.2.1 105), (hT.2.1 106), (hT.2.1 107), (hT.2.1 108), G59, trivial⟩), (show y485 = 0 → (m.1 10) = 0 by omega), (show LxP y479 y481 y483 (m.1 6) y485 by first | (first | exact hLx | exact (fun _ => hLx (by omega)) | (intro h9; exfalso; omega)) | (exfalso; omega)), (show ∀ k, F39 k + F41 k ≤ 4000 by first | (exact hNM) | (exfalso; omega)), (show ∀ k, (m90.2 47) k + (m90.2 48) k ≤ 4000 by first | (exact hPA) | (exfalso; omega)), (fun (h : y485 = 0) => absurd h (by omega)), rfl⟩
            refine Tm_lv (a := [(0, .ref 189), (1, .int (i32 (m.1 25))), (2, .int (i32 s83))]) rfl rfl ⟨rfl, rfl, rfl, trivial⟩ ?_
            exact L87_91 ((1000000 * (8 - (0 : Int)) + 2 * (4000 - y66) + s83 : Int) + 1).toNat s83 (mO m [(7, y64), (8, y66), (9, y68), (10, 0), (11, y72), (12, y74), (13, y37), (25, (m.1 25) + 1), (28, (m.1 28)), (64, (m.1 64)), (69, (m.1 69)), (70, (m.1 70)), (71, (m.1 71)), (72, (m.1 72)), (73, (m.1 73)), (74, (m.1 74)), (75, (m.1 75)), (99, (m.1 99)), (100, (m.1 100))] [(14, F39), (15, F41), (16, F43), (17, F45), (46, upI (m.2 46) (m.1 25) 0), (47, (m.2 47)), (48, (m.2 48)), (49, (m.2 49)), (50, upI (m.2 50) (m.1 25) 0), (65, (m.2 65)), (66, (m.2 66)), (67, (m.2 67)), (68, (m.2 68)), (76, (m.2 76)), (77, (m.2 77)), (78, (m.2 78)), (79, (m.2 79)), (80, (m.2 80)), (81, (m.2 81)), (82, (m.2 82)), (83, (m.2 83)), (84, (m.2 84)), (85, (m.2 85)), (86, (m.2 86)), (87, (m.2 87)), (88, (m.2 88)), (89, (m.2 89)), (90, (m.2 90)), (91, (m.2 91)), (92, (m.2 92)), (101, (m.2 101)), (102, (m.2 102)), (103, (m.2 103)), (104, (m.2 104)), (105, (m.2 105)), (106, (m.2 106)), (107, (m.2 107)), (108, (m.2 108)), (109, upI (m.2 109) (m.1 25) (m.1 99))]) (r32 (by omega) (by omega)) (Ty_mO hT rfl rfl ⟨g65, g67, g69, ⟨(by omega : (0 : Int) ≤ 0), (by omega : (0 : Int) ≤ 8)⟩, g73, g75, g38, g58, f28, f64, f69, f70, f71, f72, f73, f74, f75, f99, f100, trivial⟩ ⟨G40, G42, G44, G46, G60, (hT.2.1 47), (hT.2.1 48), (hT.2.1 49), G61, (hT.2.1 65), (hT.2.1 66), (hT.2.1 67), (hT.2.1 68), (hT.2.1 76), (hT.2.1 77), (hT.2.1 78), (hT.2.1 79), (hT.2.1 80), (hT.2.1 81), (hT.2.1 82), (hT.2.1 83), (hT.2.1 84), (hT.2.1 85), (hT.2.1 86), (hT.2.1 87), (hT.2.1 88), (hT.2.1 89), (hT.2.1 90), (hT.2.1 91), (hT.2.1 92), (hT.2.1 101), (hT.2.1 102), (hT.2.1 103), (hT.2.1 104), (hT.2.1 105), (hT.2.1 106), (hT.2.1 107), (hT.2.1 108), G59, trivial⟩) (show 0 ≤ s83 by omega) (show s83 ≤ 1 by omega) (show LxP y64 y66 y68 (m.1 6) (0 : Int) by exact hLx) (show ∀ k, (m.2 47) k + (m.2 48) k ≤ 4000 by exact hPA) (show s83 = 0 ∨ s83 = 1 by omega) (fun _ => (show (m.1 8) + 1 ≤ y66 by omega)) (show 1000000 * (8 - (0 : Int)) + 2 * (4000 - y66) + s83 < ((((1000000 * (8 - (0 : Int)) + 2 * (4000 - y66) + s83 : Int) + 1).toNat : Nat) : Int) by omega)
          refine T_icmp 85 81 rfl rfl rfl (r32 (by omega) (by omega)) ⟨by decide, by decide⟩ (fun (h496 : y64 = 41) => ?_) (fun (h496 : ¬ (y64 = 41)) => ?_)
          · skip
            refine T_ld 86 (.int (i32 0)) rfl (fun _ => rfl) ?_
            refine Tm_lv (a := [(0, .ref 189), (1, .int (i32 (m.1 25)))]) rfl rfl ⟨rfl, rfl, trivial⟩ ?_
            exact J86_84 0 ⟨by decide, by decide⟩ (show 0 ≤ (0 : Int) by omega) (show (0 : Int) ≤ 1 by omega)
          · skip
            refine T_ld 82 (.int (i32 1)) rfl (fun _ => rfl) ?_
            refine T_goto 86 rfl (fun _ => rfl) ?_
            refine Tm_lv (a := [(0, .ref 189), (1, .int (i32 (m.1 25)))]) rfl rfl ⟨rfl, rfl, trivial⟩ ?_
            exact J86_84 1 ⟨by decide, by decide⟩ (show 0 ≤ (1 : Int) by omega) (show (1 : Int) ≤ 1 by omega)
        · skip
          replace h76 : LxP y64 y66 y68 (m.1 6) y70 := h76
          have hLx := h76
          clear h77
          replace h78 : y27 ≤ y66 := h78
          clear h79
          have hf497 : 1 ≤ y70 := by omega
          clear g26 g28 g30 g34 g36 g47a g47b h48 h52 u56 h57 h78
          refine T_gf 69 (.int (i32 y70)) rfl rfl rfl rfl rfl rfl ?_
          refine T_if 85 72 rfl rfl rfl (r32 (by omega) (by omega)) (fun (h498 : y70 ≠ 0) => ?_) (fun (h498 : ¬ (y70 ≠ 0)) => by exfalso; omega)
          refine T_ld 86 (.int (i32 0)) rfl (fun _ => rfl) ?_
          refine T_sto 87 [(2, .int (i32 0)), (1, .int (i32 (m.1 25))), (0, .ref 189)] rfl (fun _ => rfl) ?_
          refine T_ld 88 (.int (i32 0)) rfl (fun _ => rfl) ?_
          refine T_if 136 91 rfl rfl rfl ⟨by decide, by decide⟩ (fun _ => ?_) (fun h499 => absurd (show (0 : Int) = 0 by decide) h499)
          refine T_ld 137 (.ref 189) rfl (fun _ => rfl) ?_
          refine T_ld 139 (.int (i32 41)) rfl (fun _ => rfl) ?_
          refine T_call 142 232 [.ref 189, .int (i32 41)] [] rfl (fun _ => rfl) rfl (c_need w (mO m [(7, y64), (8, y66), (9, y68), (10, y70), (11, y72), (12, y74), (13, y37), (25, (m.1 25) + 1), (28, (m.1 28)), (64, (m.1 64)), (69, (m.1 69)), (70, (m.1 70)), (71, (m.1 71)), (72, (m.1 72)), (73, (m.1 73)), (74, (m.1 74)), (75, (m.1 75)), (99, (m.1 99)), (100, (m.1 100))] [(14, F39), (15, F41), (16, F43), (17, F45), (46, upI (m.2 46) (m.1 25) 0), (47, (m.2 47)), (48, (m.2 48)), (49, (m.2 49)), (50, upI (m.2 50) (m.1 25) 0), (65, (m.2 65)), (66, (m.2 66)), (67, (m.2 67)), (68, (m.2 68)), (76, (m.2 76)), (77, (m.2 77)), (78, (m.2 78)), (79, (m.2 79)), (80, (m.2 80)), (81, (m.2 81)), (82, (m.2 82)), (83, (m.2 83)), (84, (m.2 84)), (85, (m.2 85)), (86, (m.2 86)), (87, (m.2 87)), (88, (m.2 88)), (89, (m.2 89)), (90, (m.2 90)), (91, (m.2 91)), (92, (m.2 92)), (101, (m.2 101)), (102, (m.2 102)), (103, (m.2 103)), (104, (m.2 104)), (105, (m.2 105)), (106, (m.2 106)), (107, (m.2 107)), (108, (m.2 108)), (109, upI (m.2 109) (m.1 25) (m.1 99))]) c N D (by omega) (Ty_mO hT rfl rfl ⟨g65, g67, g69, g71, g73, g75, g38, g58, f28, f64, f69, f70, f71, f72, f73, f74, f75, f99, f100, trivial⟩ ⟨G40, G42, G44, G46, G60, (hT.2.1 47), (hT.2.1 48), (hT.2.1 49), G61, (hT.2.1 65), (hT.2.1 66), (hT.2.1 67), (hT.2.1 68), (hT.2.1 76), (hT.2.1 77), (hT.2.1 78), (hT.2.1 79), (hT.2.1 80), (hT.2.1 81), (hT.2.1 82), (hT.2.1 83), (hT.2.1 84), (hT.2.1 85), (hT.2.1 86), (hT.2.1 87), (hT.2.1 88), (hT.2.1 89), (hT.2.1 90), (hT.2.1 91), (hT.2.1 92), (hT.2.1 101), (hT.2.1 102), (hT.2.1 103), (hT.2.1 104), (hT.2.1 105), (hT.2.1 106), (hT.2.1 107), (hT.2.1 108), G59, trivial⟩) 41 ⟨by decide, by decide⟩ (show 1 ≤ (41 : Int) by omega) (show LxP y64 y66 y68 (m.1 6) y70 by first | exact hLx | (intro h9; exfalso; omega) | (intro h9; have h8 := hLx (by omega); omega))) (fun rr500 k501 => ?_)
          obtain ⟨y502, y504, y506, y508, y510, y512, g503, g505, g507, g509, g511, g513, h514, h515, h516, h517, rfl⟩ := k501
          refine ⟨_, _, rfl, ?_⟩
          refine T_nf2 (st' := []) (l' := [(7, y502), (8, y504), (9, y506), (10, y508), (11, y510), (12, y512), (13, y37), (25, (m.1 25) + 1), (28, (m.1 28)), (64, (m.1 64)), (69, (m.1 69)), (70, (m.1 70)), (71, (m.1 71)), (72, (m.1 72)), (73, (m.1 73)), (74, (m.1 74)), (75, (m.1 75)), (99, (m.1 99)), (100, (m.1 100))]) (a' := [(14, F39), (15, F41), (16, F43), (17, F45), (46, upI (m.2 46) (m.1 25) 0), (47, (m.2 47)), (48, (m.2 48)), (49, (m.2 49)), (50, upI (m.2 50) (m.1 25) 0), (65, (m.2 65)), (66, (m.2 66)), (67, (m.2 67)), (68, (m.2 68)), (76, (m.2 76)), (77, (m.2 77)), (78, (m.2 78)), (79, (m.2 79)), (80, (m.2 80)), (81, (m.2 81)), (82, (m.2 82)), (83, (m.2 83)), (84, (m.2 84)), (85, (m.2 85)), (86, (m.2 86)), (87, (m.2 87)), (88, (m.2 88)), (89, (m.2 89)), (90, (m.2 90)), (91, (m.2 91)), (92, (m.2 92)), (101, (m.2 101)), (102, (m.2 102)), (103, (m.2 103)), (104, (m.2 104)), (105, (m.2 105)), (106, (m.2 106)), (107, (m.2 107)), (108, (m.2 108)), (109, upI (m.2 109) (m.1 25) (m.1 99))]) [7, 8, 9, 10, 11, 12] [] rfl ⟨rfl, rfl, rfl, rfl, rfl, rfl, rfl, rfl, rfl, rfl, rfl, rfl, rfl, rfl, rfl, rfl, rfl, rfl, rfl, rfl, rfl, rfl, rfl, rfl, rfl, rfl, rfl, rfl, rfl, rfl, rfl, rfl, rfl, rfl, rfl, rfl, rfl, rfl, trivial⟩ ⟨rfl, rfl, rfl, rfl, rfl, rfl, rfl, rfl, rfl, rfl, rfl, rfl, rfl, rfl, rfl, rfl, rfl, rfl, rfl, rfl, rfl, rfl, rfl, rfl, rfl, rfl, rfl, rfl, rfl, rfl, rfl, rfl, rfl, rfl, rfl, rfl, rfl, rfl, rfl, rfl, rfl, rfl, rfl, rfl, rfl, rfl, rfl, rfl, rfl, rfl, rfl, rfl, rfl, rfl, rfl, rfl, rfl, rfl, rfl, rfl, rfl, rfl, rfl, rfl, rfl, rfl, rfl, rfl, rfl, rfl, rfl, rfl, rfl, rfl, rfl, rfl, rfl, rfl, trivial⟩ rfl rfl (by decide) (by decide) ?_
          replace h514 : LxP y502 y504 y506 (m.1 6) y508 := h514
          replace h515 : y508 = 0 → y70 = 0 ∧ y64 = (41 : Int) := h515
          replace h516 : y66 ≤ y504 := h516
          replace h517 : y508 = 0 → y66 + y68 ≤ y504 := h517
          have hf518 : 1 ≤ y508 := by omega
          clear h515
          clear h517
          have hLx := h514
          clear g65 g67 g69 g71 g73 g75 h76 hf497 h498 h516
          refine T_ld 143 (.ref 189) rfl (fun _ => rfl) ?_
          refine T_ld 145 (.int (i32 123)) rfl (fun _ => rfl) ?_
          refine T_call 148 232 [.ref 189, .int (i32 123)] [] rfl (fun _ => rfl) rfl (c_need w (mO m [(7, y502), (8, y504), (9, y506), (10, y508), (11, y510), (12, y512), (13, y37), (25, (m.1 25) + 1), (28, (m.1 28)), (64, (m.1 64)), (69, (m.1 69)), (70, (m.1 70)), (71, (m.1 71)), (72, (m.1 72)), (73, (m.1 73)), (74, (m.1 74)), (75, (m.1 75)), (99, (m.1 99)), (100, (m.1 100))] [(14, F39), (15, F41), (16, F43), (17, F45), (46, upI (m.2 46) (m.1 25) 0), (47, (m.2 47)), (48, (m.2 48)), (49, (m.2 49)), (50, upI (m.2 50) (m.1 25) 0), (65, (m.2 65)), (66, (m.2 66)), (67, (m.2 67)), (68, (m.2 68)), (76, (m.2 76)), (77, (m.2 77)), (78, (m.2 78)), (79, (m.2 79)), (80, (m.2 80)), (81, (m.2 81)), (82, (m.2 82)), (83, (m.2 83)), (84, (m.2 84)), (85, (m.2 85)), (86, (m.2 86)), (87, (m.2 87)), (88, (m.2 88)), (89, (m.2 89)), (90, (m.2 90)), (91, (m.2 91)), (92, (m.2 92)), (101, (m.2 101)), (102, (m.2 102)), (103, (m.2 103)), (104, (m.2 104)), (105, (m.2 105)), (106, (m.2 106)), (107, (m.2 107)), (108, (m.2 108)), (109, upI (m.2 109) (m.1 25) (m.1 99))]) c N D (by omega) (Ty_mO hT rfl rfl ⟨g503, g505, g507, g509, g511, g513, g38, g58, f28, f64, f69, f70, f71, f72, f73, f74, f75, f99, f100, trivial⟩ ⟨G40, G42, G44, G46, G60, (hT.2.1 47), (hT.2.1 48), (hT.2.1 49), G61, (hT.2.1 65), (hT.2.1 66), (hT.2.1 67), (hT.2.1 68), (hT.2.1 76), (hT.2.1 77), (hT.2.1 78), (hT.2.1 79), (hT.2.1 80), (hT.2.1 81), (hT.2.1 82), (hT.2.1 83), (hT.2.1 84), (hT.2.1 85), (hT.2.1 86), (hT.2.1 87), (hT.2.1 88), (hT.2.1 89), (hT.2.1 90), (hT.2.1 91), (hT.2.1 92), (hT.2.1 101), (hT.2.1 102), (hT.2.1 103), (hT.2.1 104), (hT.2.1 105), (hT.2.1 106), (hT.2.1 107), (hT.2.1 108), G59, trivial⟩) 123 ⟨by decide, by decide⟩ (show 1 ≤ (123 : Int) by omega) (show LxP y502 y504 y506 (m.1 6) y508 by first | exact hLx | (intro h9; exfalso; omega) | (intro h9; have h8 := hLx (by omega); omega))) (fun rr519 k520 => ?_)
          obtain ⟨y521, y523, y525, y527, y529, y531, g522, g524, g526, g528, g530, g532, h533, h534, h535, h536, rfl⟩ := k520
          refine ⟨_, _, rfl, ?_⟩
          refine T_nf2 (st' := []) (l' := [(7, y521), (8, y523), (9, y525), (10, y527), (11, y529), (12, y531), (13, y37), (25, (m.1 25) + 1), (28, (m.1 28)), (64, (m.1 64)), (69, (m.1 69)), (70, (m.1 70)), (71, (m.1 71)), (72, (m.1 72)), (73, (m.1 73)), (74, (m.1 74)), (75, (m.1 75)), (99, (m.1 99)), (100, (m.1 100))]) (a' := [(14, F39), (15, F41), (16, F43), (17, F45), (46, upI (m.2 46) (m.1 25) 0), (47, (m.2 47)), (48, (m.2 48)), (49, (m.2 49)), (50, upI (m.2 50) (m.1 25) 0), (65, (m.2 65)), (66, (m.2 66)), (67, (m.2 67)), (68, (m.2 68)), (76, (m.2 76)), (77, (m.2 77)), (78, (m.2 78)), (79, (m.2 79)), (80, (m.2 80)), (81, (m.2 81)), (82, (m.2 82)), (83, (m.2 83)), (84, (m.2 84)), (85, (m.2 85)), (86, (m.2 86)), (87, (m.2 87)), (88, (m.2 88)), (89, (m.2 89)), (90, (m.2 90)), (91, (m.2 91)), (92, (m.2 92)), (101, (m.2 101)), (102, (m.2 102)), (103, (m.2 103)), (104, (m.2 104)), (105, (m.2 105)), (106, (m.2 106)), (107, (m.2 107)), (108, (m.2 108)), (109, upI (m.2 109) (m.1 25) (m.1 99))]) [7, 8, 9, 10, 11, 12] [] rfl ⟨rfl, rfl, rfl, rfl, rfl, rfl, rfl, rfl, rfl, rfl, rfl, rfl, rfl, rfl, rfl, rfl, rfl, rfl, rfl, rfl, rfl, rfl, rfl, rfl, rfl, rfl, rfl, rfl, rfl, rfl, rfl, rfl, rfl, rfl, rfl, rfl, rfl, rfl, trivial⟩ ⟨rfl, rfl, rfl, rfl, rfl, rfl, rfl, rfl, rfl, rfl, rfl, rfl, rfl, rfl, rfl, rfl, rfl, rfl, rfl, rfl, rfl, rfl, rfl, rfl, rfl, rfl, rfl, rfl, rfl, rfl, rfl, rfl, rfl, rfl, rfl, rfl, rfl, rfl, rfl, rfl, rfl, rfl, rfl, rfl, rfl, rfl, rfl, rfl, rfl, rfl, rfl, rfl, rfl, rfl, rfl, rfl, rfl, rfl, rfl, rfl, rfl, rfl, rfl, rfl, rfl, rfl, rfl, rfl, rfl, rfl, rfl, rfl, rfl, rfl, rfl, rfl, rfl, rfl, trivial⟩ rfl rfl (by decide) (by decide) ?_
          replace h533 : LxP y521 y523 y525 (m.1 6) y527 := h533
          replace h534 : y527 = 0 → y508 = 0 ∧ y502 = (123 : Int) := h534
          replace h535 : y504 ≤ y523 := h535
          replace h536 : y527 = 0 → y504 + y506 ≤ y523 := h536
          have hf537 : 1 ≤ y527 := by omega
          clear h534
          clear h536
          have hLx := h533
          clear g503 g505 g507 g509 g511 g513 hf518 h514 h535
          refine T_ld 149 (.ref 189) rfl (fun _ => rfl) ?_
          refine T_ld 150 (.int (i32 (m.1 25))) rfl (fun _ => rfl) ?_
          refine T_pf (l' := [(7, y521), (8, y523), (9, y525), (10, y527), (11, y529), (12, y531), (13, y37), (25, (m.1 25) + 1), (28, (m.1 28)), (64, (m.1 25)), (69, (m.1 69)), (70, (m.1 70)), (71, (m.1 71)), (72, (m.1 72)), (73, (m.1 73)), (74, (m.1 74)), (75, (m.1 75)), (99, (m.1 99)), (100, (m.1 100))]) 153 (m.1 25) rfl rfl rfl rfl rfl rfl ?_
          have g538 : (-1) ≤ (m.1 25) ∧ (m.1 25) ≤ 15 := ⟨by omega, by omega⟩
          refine T_gf 157 (.int (i32 y527)) rfl rfl rfl rfl rfl rfl ?_
          refine T_if 211 160 rfl rfl rfl (r32 (by omega) (by omega)) (fun (h539 : y527 ≠ 0) => ?_) (fun (h539 : ¬ (y527 ≠ 0)) => by exfalso; omega)
          refine T_ld 212 (.ref 189) rfl (fun _ => rfl) ?_
          refine T_ld 213 (.int (i32 (-1))) rfl (fun _ => rfl) ?_
          refine T_pf (l' := [(7, y521), (8, y523), (9, y525), (10, y527), (11, y529), (12, y531), (13, y37), (25, (m.1 25) + 1), (28, (m.1 28)), (64, (-1)), (69, (m.1 69)), (70, (m.1 70)), (71, (m.1 71)), (72, (m.1 72)), (73, (m.1 73)), (74, (m.1 74)), (75, (m.1 75)), (99, (m.1 99)), (100, (m.1 100))]) 216 (-1) rfl rfl rfl rfl rfl rfl ?_
          refine T_ld 217 (.ref 189) rfl (fun _ => rfl) ?_
          refine T_ld 219 (.int (i32 125)) rfl (fun _ => rfl) ?_
          refine T_call 222 232 [.ref 189, .int (i32 125)] [] rfl (fun _ => rfl) rfl (c_need w (mO m [(7, y521), (8, y523), (9, y525), (10, y527), (11, y529), (12, y531), (13, y37), (25, (m.1 25) + 1), (28, (m.1 28)), (64, (-1)), (69, (m.1 69)), (70, (m.1 70)), (71, (m.1 71)), (72, (m.1 72)), (73, (m.1 73)), (74, (m.1 74)), (75, (m.1 75)), (99, (m.1 99)), (100, (m.1 100))] [(14, F39), (15, F41), (16, F43), (17, F45), (46, upI (m.2 46) (m.1 25) 0), (47, (m.2 47)), (48, (m.2 48)), (49, (m.2 49)), (50, upI (m.2 50) (m.1 25) 0), (65, (m.2 65)), (66, (m.2 66)), (67, (m.2 67)), (68, (m.2 68)), (76, (m.2 76)), (77, (m.2 77)), (78, (m.2 78)), (79, (m.2 79)), (80, (m.2 80)), (81, (m.2 81)), (82, (m.2 82)), (83, (m.2 83)), (84, (m.2 84)), (85, (m.2 85)), (86, (m.2 86)), (87, (m.2 87)), (88, (m.2 88)), (89, (m.2 89)), (90, (m.2 90)), (91, (m.2 91)), (92, (m.2 92)), (101, (m.2 101)), (102, (m.2 102)), (103, (m.2 103)), (104, (m.2 104)), (105, (m.2 105)), (106, (m.2 106)), (107, (m.2 107)), (108, (m.2 108)), (109, upI (m.2 109) (m.1 25) (m.1 99))]) c N D (by omega) (Ty_mO hT rfl rfl ⟨g522, g524, g526, g528, g530, g532, g38, g58, f28, ⟨(by omega : ((-1) : Int) ≤ (-1)), (by omega : ((-1) : Int) ≤ 15)⟩, f69, f70, f71, f72, f73, f74, f75, f99, f100, trivial⟩ ⟨G40, G42, G44, G46, G60, (hT.2.1 47), (hT.2.1 48), (hT.2.1 49), G61, (hT.2.1 65), (hT.2.1 66), (hT.2.1 67), (hT.2.1 68), (hT.2.1 76), (hT.2.1 77), (hT.2.1 78), (hT.2.1 79), (hT.2.1 80), (hT.2.1 81), (hT.2.1 82), (hT.2.1 83), (hT.2.1 84), (hT.2.1 85), (hT.2.1 86), (hT.2.1 87), (hT.2.1 88), (hT.2.1 89), (hT.2.1 90), (hT.2.1 91), (hT.2.1 92), (hT.2.1 101), (hT.2.1 102), (hT.2.1 103), (hT.2.1 104), (hT.2.1 105), (hT.2.1 106), (hT.2.1 107), (hT.2.1 108), G59, trivial⟩) 125 ⟨by decide, by decide⟩ (show 1 ≤ (125 : Int) by omega) (show LxP y521 y523 y525 (m.1 6) y527 by first | exact hLx | (intro h9; exfalso; omega) | (intro h9; have h8 := hLx (by omega); omega))) (fun rr540 k541 => ?_)
          obtain ⟨y542, y544, y546, y548, y550, y552, g543, g545, g547, g549, g551, g553, h554, h555, h556, h557, rfl⟩ := k541
          refine ⟨_, _, rfl, ?_⟩
          refine T_nf2 (st' := []) (l' := [(7, y542), (8, y544), (9, y546), (10, y548), (11, y550), (12, y552), (13, y37), (25, (m.1 25) + 1), (28, (m.1 28)), (64, (-1)), (69, (m.1 69)), (70, (m.1 70)), (71, (m.1 71)), (72, (m.1 72)), (73, (m.1 73)), (74, (m.1 74)), (75, (m.1 75)), (99, (m.1 99)), (100, (m.1 100))]) (a' := [(14, F39), (15, F41), (16, F43), (17, F45), (46, upI (m.2 46) (m.1 25) 0), (47, (m.2 47)), (48, (m.2 48)), (49, (m.2 49)), (50, upI (m.2 50) (m.1 25) 0), (65, (m.2 65)), (66, (m.2 66)), (67, (m.2 67)), (68, (m.2 68)), (76, (m.2 76)), (77, (m.2 77)), (78, (m.2 78)), (79, (m.2 79)), (80, (m.2 80)), (81, (m.2 81)), (82, (m.2 82)), (83, (m.2 83)), (84, (m.2 84)), (85, (m.2 85)), (86, (m.2 86)), (87, (m.2 87)), (88, (m.2 88)), (89, (m.2 89)), (90, (m.2 90)), (91, (m.2 91)), (92, (m.2 92)), (101, (m.2 101)), (102, (m.2 102)), (103, (m.2 103)), (104, (m.2 104)), (105, (m.2 105)), (106, (m.2 106)), (107, (m.2 107)), (108, (m.2 108)), (109, upI (m.2 109) (m.1 25) (m.1 99))]) [7, 8, 9, 10, 11, 12] [] rfl ⟨rfl, rfl, rfl, rfl, rfl, rfl, rfl, rfl, rfl, rfl, rfl, rfl, rfl, rfl, rfl, rfl, rfl, rfl, rfl, rfl, rfl, rfl, rfl, rfl, rfl, rfl, rfl, rfl, rfl, rfl, rfl, rfl, rfl, rfl, rfl, rfl, rfl, rfl, trivial⟩ ⟨rfl, rfl, rfl, rfl, rfl, rfl, rfl, rfl, rfl, rfl, rfl, rfl, rfl, rfl, rfl, rfl, rfl, rfl, rfl, rfl, rfl, rfl, rfl, rfl, rfl, rfl, rfl, rfl, rfl, rfl, rfl, rfl, rfl, rfl, rfl, rfl, rfl, rfl, rfl, rfl, rfl, rfl, rfl, rfl, rfl, rfl, rfl, rfl, rfl, rfl, rfl, rfl, rfl, rfl, rfl, rfl, rfl, rfl, rfl, rfl, rfl, rfl, rfl, rfl, rfl, rfl, rfl, rfl, rfl, rfl, rfl, rfl, rfl, rfl, rfl, rfl, rfl, rfl, trivial⟩ rfl rfl (by decide) (by decide) ?_
          replace h554 : LxP y542 y544 y546 (m.1 6) y548 := h554
          replace h555 : y548 = 0 → y527 = 0 ∧ y521 = (125 : Int) := h555
          replace h556 : y523 ≤ y544 := h556
          replace h557 : y548 = 0 → y523 + y525 ≤ y544 := h557
          have hf558 : 1 ≤ y548 := by omega
          clear h555
          clear h557
          have hLx := h554
          clear g522 g524 g526 g528 g530 g532 hf537 h533 h539 h556
          refine T_ret rfl (fun _ => rfl) ?_
          exact ⟨(mO m [(7, y542), (8, y544), (9, y546), (10, y548), (11, y550), (12, y552), (13, y37), (25, (m.1 25) + 1), (28, (m.1 28)), (64, (-1)), (69, (m.1 69)), (70, (m.1 70)), (71, (m.1 71)), (72, (m.1 72)), (73, (m.1 73)), (74, (m.1 74)), (75, (m.1 75)), (99, (m.1 99)), (100, (m.1 100))] [(14, F39), (15, F41), (16, F43), (17, F45), (46, upI (m.2 46) (m.1 25) 0), (47, (m.2 47)), (48, (m.2 48)), (49, (m.2 49)), (50, upI (m.2 50) (m.1 25) 0), (65, (m.2 65)), (66, (m.2 66)), (67, (m.2 67)), (68, (m.2 68)), (76, (m.2 76)), (77, (m.2 77)), (78, (m.2 78)), (79, (m.2 79)), (80, (m.2 80)), (81, (m.2 81)), (82, (m.2 82)), (83, (m.2 83)), (84, (m.2 84)), (85, (m.2 85)), (86, (m.2 86)), (87, (m.2 87)), (88, (m.2 88)), (89, (m.2 89)), (90, (m.2 90)), (91, (m.2 91)), (92, (m.2 92)), (101, (m.2 101)), (102, (m.2 102)), (103, (m.2 103)), (104, (m.2 104)), (105, (m.2 105)), (106, (m.2 106)), (107, (m.2 107)), (108, (m.2 108)), (109, upI (m.2 109) (m.1 25) (m.1 99))]), (Ty_mO hT rfl rfl ⟨g543, g545, g547, g549, g551, g553, g38, g58, f28, ⟨(by omega : ((-1) : Int) ≤ (-1)), (by omega : ((-1) : Int) ≤ 15)⟩, f69, f70, f71, f72, f73, f74, f75, f99, f100, trivial⟩ ⟨G40, G42, G44, G46, G60, (hT.2.1 47), (hT.2.1 48), (hT.2.1 49), G61, (hT.2.1 65), (hT.2.1 66), (hT.2.1 67), (hT.2.1 68), (hT.2.1 76), (hT.2.1 77), (hT.2.1 78), (hT.2.1 79), (hT.2.1 80), (hT.2.1 81), (hT.2.1 82), (hT.2.1 83), (hT.2.1 84), (hT.2.1 85), (hT.2.1 86), (hT.2.1 87), (hT.2.1 88), (hT.2.1 89), (hT.2.1 90), (hT.2.1 91), (hT.2.1 92), (hT.2.1 101), (hT.2.1 102), (hT.2.1 103), (hT.2.1 104), (hT.2.1 105), (hT.2.1 106), (hT.2.1 107), (hT.2.1 108), G59, trivial⟩), (show y548 = 0 → (m.1 10) = 0 by omega), (show LxP y542 y544 y546 (m.1 6) y548 by first | (first | exact hLx | exact (fun _ => hLx (by omega)) | (intro h9; exfalso; omega)) | (exfalso; omega)), (show ∀ k, F39 k + F41 k ≤ 4000 by first | (exact hNM) | (exfalso; omega)), (show ∀ k, (m.2 47) k + (m.2 48) k ≤ 4000 by first | (exact hPA) | (exfalso; omega)), (fun (h : y548 = 0) => absurd h (by omega)), rfl⟩
      · skip
        replace h48 : LxP y25 y27 y29 (m.1 6) y31 := h48
        have hLx := h48
        replace h49 : y7 ≤ y27 := h49
        clear h50
        clear h51
        replace h52 : nn = 1 → (m.1 25) ≠ (16 : Int) := h52
        replace h53 : ∀ k, F39 k + F41 k ≤ 4000 := h53
        have hNM := h53
        replace h54 : (nn = 1 ∧ (0 : Int) = 0 ∧ y37 = (m.1 13) + 1 ∧ F39 = upI (m.2 14) (m.1 13) y7 ∧ F41 = upI (m.2 15) (m.1 13) y9 ∧ F43 = upI (m.2 16) (m.1 13) (6 : Int) ∧ F45 = upI (m.2 17) (m.1 13) (m.1 25)) ∨ (nn = 0 ∧ 0 < y31 ∧ y37 = (m.1 13) ∧ F39 = (m.2 14) ∧ F41 = (m.2 15) ∧ F43 = (m.2 16) ∧ F45 = (m.2 17)) := h54
        have hN := h54
        have hf559 : 1 ≤ y31 := by omega
        clear g6 g8 g10 g14 g16 h17 h19 h20 u22 h49 h54
        refine T_if 20 19 rfl rfl rfl (r32 (by omega) (by omega)) (fun (h560 : nn ≠ 0) => ?_) (fun (h560 : ¬ (nn ≠ 0)) => ?_)
        · skip
          refine T_gf 24 (.int (i32 (m.1 25))) rfl rfl rfl rfl rfl rfl ?_
          refine T_sto 25 [(1, .int (i32 (m.1 25))), (0, .ref 189)] rfl (fun _ => rfl) ?_
          refine T_ld 26 (.ref 189) rfl (fun _ => rfl) ?_
          refine T_ld 27 (.ref 189) rfl (fun _ => rfl) ?_
          refine T_gf1 30 (.int (i32 (m.1 25))) rfl rfl rfl rfl ?_
          refine T_ld 31 (.int (i32 1)) rfl (fun _ => rfl) ?_
          refine T_iadd 32 rfl rfl ?_
          refine T_pf (l' := [(7, y25), (8, y27), (9, y29), (10, y31), (11, y33), (12, y35), (13, y37), (25, (m.1 25) + 1), (28, (m.1 28)), (64, (m.1 64)), (69, (m.1 69)), (70, (m.1 70)), (71, (m.1 71)), (72, (m.1 72)), (73, (m.1 73)), (74, (m.1 74)), (75, (m.1 75)), (99, (m.1 99)), (100, (m.1 100))]) 35 ((m.1 25) + 1) rfl rfl rfl rfl rfl rfl ?_
          have g561 : 0 ≤ (m.1 25) + 1 ∧ (m.1 25) + 1 ≤ 16 := ⟨by omega, by omega⟩
          refine T_gf 39 (.ref 269) rfl rfl rfl rfl rfl rfl ?_
          refine T_ld 40 (.int (i32 (m.1 25))) rfl (fun _ => rfl) ?_
          refine T_gf 44 (.int (i32 (m.1 99))) rfl rfl rfl rfl rfl rfl ?_
          have G562 : ∀ j, 0 ≤ (upI (m.2 109) (m.1 25) (m.1 99)) j ∧ (upI (m.2 109) (m.1 25) (m.1 99)) j ≤ 192 := upI_rg (hT.2.1 109) ⟨by omega, by omega⟩
          refine T_iast (a' := [(14, F39), (15, F41), (16, F43), (17, F45), (46, (m.2 46)), (47, (m.2 47)), (48, (m.2 48)), (49, (m.2 49)), (50, (m.2 50)), (65, (m.2 65)), (66, (m.2 66)), (67, (m.2 67)), (68, (m.2 68)), (76, (m.2 76)), (77, (m.2 77)), (78, (m.2 78)), (79, (m.2 79)), (80, (m.2 80)), (81, (m.2 81)), (82, (m.2 82)), (83, (m.2 83)), (84, (m.2 84)), (85, (m.2 85)), (86, (m.2 86)), (87, (m.2 87)), (88, (m.2 88)), (89, (m.2 89)), (90, (m.2 90)), (91, (m.2 91)), (92, (m.2 92)), (101, (m.2 101)), (102, (m.2 102)), (103, (m.2 103)), (104, (m.2 104)), (105, (m.2 105)), (106, (m.2 106)), (107, (m.2 107)), (108, (m.2 108)), (109, upI (m.2 109) (m.1 25) (m.1 99))]) 45 109 (m.2 109) rfl rfl rfl (by omega) (show (m.1 25) < (16 : Int) by omega) rfl rfl ?_
          refine T_gf 49 (.ref 216) rfl rfl rfl rfl rfl rfl ?_
          refine T_ld 50 (.int (i32 (m.1 25))) rfl (fun _ => rfl) ?_
          refine T_ld 51 (.int (i32 0)) rfl (fun _ => rfl) ?_
          have G563 : ∀ j, 0 ≤ (upI (m.2 46) (m.1 25) 0) j ∧ (upI (m.2 46) (m.1 25) 0) j ≤ 4 := upI_rg (hT.2.1 46) ⟨by omega, by omega⟩
          refine T_iast (a' := [(14, F39), (15, F41), (16, F43), (17, F45), (46, upI (m.2 46) (m.1 25) 0), (47, (m.2 47)), (48, (m.2 48)), (49, (m.2 49)), (50, (m.2 50)), (65, (m.2 65)), (66, (m.2 66)), (67, (m.2 67)), (68, (m.2 68)), (76, (m.2 76)), (77, (m.2 77)), (78, (m.2 78)), (79, (m.2 79)), (80, (m.2 80)), (81, (m.2 81)), (82, (m.2 82)), (83, (m.2 83)), (84, (m.2 84)), (85, (m.2 85)), (86, (m.2 86)), (87, (m.2 87)), (88, (m.2 88)), (89, (m.2 89)), (90, (m.2 90)), (91, (m.2 91)), (92, (m.2 92)), (101, (m.2 101)), (102, (m.2 102)), (103, (m.2 103)), (104, (m.2 104)), (105, (m.2 105)), (106, (m.2 106)), (107, (m.2 107)), (108, (m.2 108)), (109, upI (m.2 109) (m.1 25) (m.1 99))]) 52 46 (m.2 46) rfl rfl rfl (by omega) (show (m.1 25) < (16 : Int) by omega) rfl rfl ?_
          refine T_gf 56 (.ref 220) rfl rfl rfl rfl rfl rfl ?_
          refine T_ld 57 (.int (i32 (m.1 25))) rfl (fun _ => rfl) ?_
          refine T_ld 58 (.int (i32 0)) rfl (fun _ => rfl) ?_
          have G564 : ∀ j, 0 ≤ (upI (m.2 50) (m.1 25) 0) j ∧ (upI (m.2 50) (m.1 25) 0) j ≤ 13 := upI_rg (hT.2.1 50) ⟨by omega, by omega⟩
          refine T_iast (a' := [(14, F39), (15, F41), (16, F43), (17, F45), (46, upI (m.2 46) (m.1 25) 0), (47, (m.2 47)), (48, (m.2 48)), (49, (m.2 49)), (50, upI (m.2 50) (m.1 25) 0), (65, (m.2 65)), (66, (m.2 66)), (67, (m.2 67)), (68, (m.2 68)), (76, (m.2 76)), (77, (m.2 77)), (78, (m.2 78)), (79, (m.2 79)), (80, (m.2 80)), (81, (m.2 81)), (82, (m.2 82)), (83, (m.2 83)), (84, (m.2 84)), (85, (m.2 85)), (86, (m.2 86)), (87, (m.2 87)), (88, (m.2 88)), (89, (m.2 89)), (90, (m.2 90)), (91, (m.2 91)), (92, (m.2 92)), (101, (m.2 101)), (102, (m.2 102)), (103, (m.2 103)), (104, (m.2 104)), (105, (m.2 105)), (106, (m.2 106)), (107, (m.2 107)), (108, (m.2 108)), (109, upI (m.2 109) (m.1 25) (m.1 99))]) 59 50 (m.2 50) rfl rfl rfl (by omega) (show (m.1 25) < (16 : Int) by omega) rfl rfl ?_
          refine T_ld 60 (.ref 189) rfl (fun _ => rfl) ?_
          refine T_ld 62 (.int (i32 40)) rfl (fun _ => rfl) ?_
          refine T_call 65 232 [.ref 189, .int (i32 40)] [] rfl (fun _ => rfl) rfl (c_need w (mO m [(7, y25), (8, y27), (9, y29), (10, y31), (11, y33), (12, y35), (13, y37), (25, (m.1 25) + 1), (28, (m.1 28)), (64, (m.1 64)), (69, (m.1 69)), (70, (m.1 70)), (71, (m.1 71)), (72, (m.1 72)), (73, (m.1 73)), (74, (m.1 74)), (75, (m.1 75)), (99, (m.1 99)), (100, (m.1 100))] [(14, F39), (15, F41), (16, F43), (17, F45), (46, upI (m.2 46) (m.1 25) 0), (47, (m.2 47)), (48, (m.2 48)), (49, (m.2 49)), (50, upI (m.2 50) (m.1 25) 0), (65, (m.2 65)), (66, (m.2 66)), (67, (m.2 67)), (68, (m.2 68)), (76, (m.2 76)), (77, (m.2 77)), (78, (m.2 78)), (79, (m.2 79)), (80, (m.2 80)), (81, (m.2 81)), (82, (m.2 82)), (83, (m.2 83)), (84, (m.2 84)), (85, (m.2 85)), (86, (m.2 86)), (87, (m.2 87)), (88, (m.2 88)), (89, (m.2 89)), (90, (m.2 90)), (91, (m.2 91)), (92, (m.2 92)), (101, (m.2 101)), (102, (m.2 102)), (103, (m.2 103)), (104, (m.2 104)), (105, (m.2 105)), (106, (m.2 106)), (107, (m.2 107)), (108, (m.2 108)), (109, upI (m.2 109) (m.1 25) (m.1 99))]) c N D (by omega) (Ty_mO hT rfl rfl ⟨g26, g28, g30, g32, g34, g36, g38, g561, f28, f64, f69, f70, f71, f72, f73, f74, f75, f99, f100, trivial⟩ ⟨G40, G42, G44, G46, G563, (hT.2.1 47), (hT.2.1 48), (hT.2.1 49), G564, (hT.2.1 65), (hT.2.1 66), (hT.2.1 67), (hT.2.1 68), (hT.2.1 76), (hT.2.1 77), (hT.2.1 78), (hT.2.1 79), (hT.2.1 80), (hT.2.1 81), (hT.2.1 82), (hT.2.1 83), (hT.2.1 84), (hT.2.1 85), (hT.2.1 86), (hT.2.1 87), (hT.2.1 88), (hT.2.1 89), (hT.2.1 90), (hT.2.1 91), (hT.2.1 92), (hT.2.1 101), (hT.2.1 102), (hT.2.1 103), (hT.2.1 104), (hT.2.1 105), (hT.2.1 106), (hT.2.1 107), (hT.2.1 108), G562, trivial⟩) 40 ⟨by decide, by decide⟩ (show 1 ≤ (40 : Int) by omega) (show LxP y25 y27 y29 (m.1 6) y31 by first | exact hLx | (intro h9; exfalso; omega) | (intro h9; have h8 := hLx (by omega); omega))) (fun rr565 k566 => ?_)
          obtain ⟨y567, y569, y571, y573, y575, y577, g568, g570, g572, g574, g576, g578, h579, h580, h581, h582, rfl⟩ := k566
          refine ⟨_, _, rfl, ?_⟩
          refine T_nf2 (st' := []) (l' := [(7, y567), (8, y569), (9, y571), (10, y573), (11, y575), (12, y577), (13, y37), (25, (m.1 25) + 1), (28, (m.1 28)), (64, (m.1 64)), (69, (m.1 69)), (70, (m.1 70)), (71, (m.1 71)), (72, (m.1 72)), (73, (m.1 73)), (74, (m.1 74)), (75, (m.1 75)), (99, (m.1 99)), (100, (m.1 100))]) (a' := [(14, F39), (15, F41), (16, F43), (17, F45), (46, upI (m.2 46) (m.1 25) 0), (47, (m.2 47)), (48, (m.2 48)), (49, (m.2 49)), (50, upI (m.2 50) (m.1 25) 0), (65, (m.2 65)), (66, (m.2 66)), (67, (m.2 67)), (68, (m.2 68)), (76, (m.2 76)), (77, (m.2 77)), (78, (m.2 78)), (79, (m.2 79)), (80, (m.2 80)), (81, (m.2 81)), (82, (m.2 82)), (83, (m.2 83)), (84, (m.2 84)), (85, (m.2 85)), (86, (m.2 86)), (87, (m.2 87)), (88, (m.2 88)), (89, (m.2 89)), (90, (m.2 90)), (91, (m.2 91)), (92, (m.2 92)), (101, (m.2 101)), (102, (m.2 102)), (103, (m.2 103)), (104, (m.2 104)), (105, (m.2 105)), (106, (m.2 106)), (107, (m.2 107)), (108, (m.2 108)), (109, upI (m.2 109) (m.1 25) (m.1 99))]) [7, 8, 9, 10, 11, 12] [] rfl ⟨rfl, rfl, rfl, rfl, rfl, rfl, rfl, rfl, rfl, rfl, rfl, rfl, rfl, rfl, rfl, rfl, rfl, rfl, rfl, rfl, rfl, rfl, rfl, rfl, rfl, rfl, rfl, rfl, rfl, rfl, rfl, rfl, rfl, rfl, rfl, rfl, rfl, rfl, trivial⟩ ⟨rfl, rfl, rfl, rfl, rfl, rfl, rfl, rfl, rfl, rfl, rfl, rfl, rfl, rfl, rfl, rfl, rfl, rfl, rfl, rfl, rfl, rfl, rfl, rfl, rfl, rfl, rfl, rfl, rfl, rfl, rfl, rfl, rfl, rfl, rfl, rfl, rfl, rfl, rfl, rfl, rfl, rfl, rfl, rfl, rfl, rfl, rfl, rfl, rfl, rfl, rfl, rfl, rfl, rfl, rfl, rfl, rfl, rfl, rfl, rfl, rfl, rfl, rfl, rfl, rfl, rfl, rfl, rfl, rfl, rfl, rfl, rfl, rfl, rfl, rfl, rfl, rfl, rfl, trivial⟩ rfl rfl (by decide) (by decide) ?_
          replace h579 : LxP y567 y569 y571 (m.1 6) y573 := h579
          replace h580 : y573 = 0 → y31 = 0 ∧ y25 = (40 : Int) := h580
          replace h581 : y27 ≤ y569 := h581
          replace h582 : y573 = 0 → y27 + y29 ≤ y569 := h582
          have hf583 : 1 ≤ y573 := by omega
          clear h580
          clear h582
          have hLx := h579
          clear g26 g28 g30 g32 g34 g36 g47a g47b h48 h52 hf559 h560 h581
          refine T_gf 69 (.int (i32 y573)) rfl rfl rfl rfl rfl rfl ?_
          refine T_if 85 72 rfl rfl rfl (r32 (by omega) (by omega)) (fun (h584 : y573 ≠ 0) => ?_) (fun (h584 : ¬ (y573 ≠ 0)) => by exfalso; omega)
          refine T_ld 86 (.int (i32 0)) rfl (fun _ => rfl) ?_
          refine T_sto 87 [(2, .int (i32 0)), (1, .int (i32 (m.1 25))), (0, .ref 189)] rfl (fun _ => rfl) ?_
          refine T_ld 88 (.int (i32 0)) rfl (fun _ => rfl) ?_
          refine T_if 136 91 rfl rfl rfl ⟨by decide, by decide⟩ (fun _ => ?_) (fun h585 => absurd (show (0 : Int) = 0 by decide) h585)
          refine T_ld 137 (.ref 189) rfl (fun _ => rfl) ?_
          refine T_ld 139 (.int (i32 41)) rfl (fun _ => rfl) ?_
          refine T_call 142 232 [.ref 189, .int (i32 41)] [] rfl (fun _ => rfl) rfl (c_need w (mO m [(7, y567), (8, y569), (9, y571), (10, y573), (11, y575), (12, y577), (13, y37), (25, (m.1 25) + 1), (28, (m.1 28)), (64, (m.1 64)), (69, (m.1 69)), (70, (m.1 70)), (71, (m.1 71)), (72, (m.1 72)), (73, (m.1 73)), (74, (m.1 74)), (75, (m.1 75)), (99, (m.1 99)), (100, (m.1 100))] [(14, F39), (15, F41), (16, F43), (17, F45), (46, upI (m.2 46) (m.1 25) 0), (47, (m.2 47)), (48, (m.2 48)), (49, (m.2 49)), (50, upI (m.2 50) (m.1 25) 0), (65, (m.2 65)), (66, (m.2 66)), (67, (m.2 67)), (68, (m.2 68)), (76, (m.2 76)), (77, (m.2 77)), (78, (m.2 78)), (79, (m.2 79)), (80, (m.2 80)), (81, (m.2 81)), (82, (m.2 82)), (83, (m.2 83)), (84, (m.2 84)), (85, (m.2 85)), (86, (m.2 86)), (87, (m.2 87)), (88, (m.2 88)), (89, (m.2 89)), (90, (m.2 90)), (91, (m.2 91)), (92, (m.2 92)), (101, (m.2 101)), (102, (m.2 102)), (103, (m.2 103)), (104, (m.2 104)), (105, (m.2 105)), (106, (m.2 106)), (107, (m.2 107)), (108, (m.2 108)), (109, upI (m.2 109) (m.1 25) (m.1 99))]) c N D (by omega) (Ty_mO hT rfl rfl ⟨g568, g570, g572, g574, g576, g578, g38, g561, f28, f64, f69, f70, f71, f72, f73, f74, f75, f99, f100, trivial⟩ ⟨G40, G42, G44, G46, G563, (hT.2.1 47), (hT.2.1 48), (hT.2.1 49), G564, (hT.2.1 65), (hT.2.1 66), (hT.2.1 67), (hT.2.1 68), (hT.2.1 76), (hT.2.1 77), (hT.2.1 78), (hT.2.1 79), (hT.2.1 80), (hT.2.1 81), (hT.2.1 82), (hT.2.1 83), (hT.2.1 84), (hT.2.1 85), (hT.2.1 86), (hT.2.1 87), (hT.2.1 88), (hT.2.1 89), (hT.2.1 90), (hT.2.1 91), (hT.2.1 92), (hT.2.1 101), (hT.2.1 102), (hT.2.1 103), (hT.2.1 104), (hT.2.1 105), (hT.2.1 106), (hT.2.1 107), (hT.2.1 108), G562, trivial⟩) 41 ⟨by decide, by decide⟩ (show 1 ≤ (41 : Int) by omega) (show LxP y567 y569 y571 (m.1 6) y573 by first | exact hLx | (intro h9; exfalso; omega) | (intro h9; have h8 := hLx (by omega); omega))) (fun rr586 k587 => ?_)
          obtain ⟨y588, y590, y592, y594, y596, y598, g589, g591, g593, g595, g597, g599, h600, h601, h602, h603, rfl⟩ := k587
          refine ⟨_, _, rfl, ?_⟩
          refine T_nf2 (st' := []) (l' := [(7, y588), (8, y590), (9, y592), (10, y594), (11, y596), (12, y598), (13, y37), (25, (m.1 25) + 1), (28, (m.1 28)), (64, (m.1 64)), (69, (m.1 69)), (70, (m.1 70)), (71, (m.1 71)), (72, (m.1 72)), (73, (m.1 73)), (74, (m.1 74)), (75, (m.1 75)), (99, (m.1 99)), (100, (m.1 100))]) (a' := [(14, F39), (15, F41), (16, F43), (17, F45), (46, upI (m.2 46) (m.1 25) 0), (47, (m.2 47)), (48, (m.2 48)), (49, (m.2 49)), (50, upI (m.2 50) (m.1 25) 0), (65, (m.2 65)), (66, (m.2 66)), (67, (m.2 67)), (68, (m.2 68)), (76, (m.2 76)), (77, (m.2 77)), (78, (m.2 78)), (79, (m.2 79)), (80, (m.2 80)), (81, (m.2 81)), (82, (m.2 82)), (83, (m.2 83)), (84, (m.2 84)), (85, (m.2 85)), (86, (m.2 86)), (87, (m.2 87)), (88, (m.2 88)), (89, (m.2 89)), (90, (m.2 90)), (91, (m.2 91)), (92, (m.2 92)), (101, (m.2 101)), (102, (m.2 102)), (103, (m.2 103)), (104, (m.2 104)), (105, (m.2 105)), (106, (m.2 106)), (107, (m.2 107)), (108, (m.2 108)), (109, upI (m.2 109) (m.1 25) (m.1 99))]) [7, 8, 9, 10, 11, 12] [] rfl ⟨rfl, rfl, rfl, rfl, rfl, rfl, rfl, rfl, rfl, rfl, rfl, rfl, rfl, rfl, rfl, rfl, rfl, rfl, rfl, rfl, rfl, rfl, rfl, rfl, rfl, rfl, rfl, rfl, rfl, rfl, rfl, rfl, rfl, rfl, rfl, rfl, rfl, rfl, trivial⟩ ⟨rfl, rfl, rfl, rfl, rfl, rfl, rfl, rfl, rfl, rfl, rfl, rfl, rfl, rfl, rfl, rfl, rfl, rfl, rfl, rfl, rfl, rfl, rfl, rfl, rfl, rfl, rfl, rfl, rfl, rfl, rfl, rfl, rfl, rfl, rfl, rfl, rfl, rfl, rfl, rfl, rfl, rfl, rfl, rfl, rfl, rfl, rfl, rfl, rfl, rfl, rfl, rfl, rfl, rfl, rfl, rfl, rfl, rfl, rfl, rfl, rfl, rfl, rfl, rfl, rfl, rfl, rfl, rfl, rfl, rfl, rfl, rfl, rfl, rfl, rfl, rfl, rfl, rfl, trivial⟩ rfl rfl (by decide) (by decide) ?_
          replace h600 : LxP y588 y590 y592 (m.1 6) y594 := h600
          replace h601 : y594 = 0 → y573 = 0 ∧ y567 = (41 : Int) := h601
          replace h602 : y569 ≤ y590 := h602
          replace h603 : y594 = 0 → y569 + y571 ≤ y590 := h603
          have hf604 : 1 ≤ y594 := by omega
          clear h601
          clear h603
          have hLx := h600
          clear g568 g570 g572 g574 g576 g578 hf583 h579 h584 h602
          refine T_ld 143 (.ref 189) rfl (fun _ => rfl) ?_
          refine T_ld 145 (.int (i32 123)) rfl (fun _ => rfl) ?_
          refine T_call 148 232 [.ref 189, .int (i32 123)] [] rfl (fun _ => rfl) rfl (c_need w (mO m [(7, y588), (8, y590), (9, y592), (10, y594), (11, y596), (12, y598), (13, y37), (25, (m.1 25) + 1), (28, (m.1 28)), (64, (m.1 64)), (69, (m.1 69)), (70, (m.1 70)), (71, (m.1 71)), (72, (m.1 72)), (73, (m.1 73)), (74, (m.1 74)), (75, (m.1 75)), (99, (m.1 99)), (100, (m.1 100))] [(14, F39), (15, F41), (16, F43), (17, F45), (46, upI (m.2 46) (m.1 25) 0), (47, (m.2 47)), (48, (m.2 48)), (49, (m.2 49)), (50, upI (m.2 50) (m.1 25) 0), (65, (m.2 65)), (66, (m.2 66)), (67, (m.2 67)), (68, (m.2 68)), (76, (m.2 76)), (77, (m.2 77)), (78, (m.2 78)), (79, (m.2 79)), (80, (m.2 80)), (81, (m.2 81)), (82, (m.2 82)), (83, (m.2 83)), (84, (m.2 84)), (85, (m.2 85)), (86, (m.2 86)), (87, (m.2 87)), (88, (m.2 88)), (89, (m.2 89)), (90, (m.2 90)), (91, (m.2 91)), (92, (m.2 92)), (101, (m.2 101)), (102, (m.2 102)), (103, (m.2 103)), (104, (m.2 104)), (105, (m.2 105)), (106, (m.2 106)), (107, (m.2 107)), (108, (m.2 108)), (109, upI (m.2 109) (m.1 25) (m.1 99))]) c N D (by omega) (Ty_mO hT rfl rfl ⟨g589, g591, g593, g595, g597, g599, g38, g561, f28, f64, f69, f70, f71, f72, f73, f74, f75, f99, f100, trivial⟩ ⟨G40, G42, G44, G46, G563, (hT.2.1 47), (hT.2.1 48), (hT.2.1 49), G564, (hT.2.1 65), (hT.2.1 66), (hT.2.1 67), (hT.2.1 68), (hT.2.1 76), (hT.2.1 77), (hT.2.1 78), (hT.2.1 79), (hT.2.1 80), (hT.2.1 81), (hT.2.1 82), (hT.2.1 83), (hT.2.1 84), (hT.2.1 85), (hT.2.1 86), (hT.2.1 87), (hT.2.1 88), (hT.2.1 89), (hT.2.1 90), (hT.2.1 91), (hT.2.1 92), (hT.2.1 101), (hT.2.1 102), (hT.2.1 103), (hT.2.1 104), (hT.2.1 105), (hT.2.1 106), (hT.2.1 107), (hT.2.1 108), G562, trivial⟩) 123 ⟨by decide, by decide⟩ (show 1 ≤ (123 : Int) by omega) (show LxP y588 y590 y592 (m.1 6) y594 by first | exact hLx | (intro h9; exfalso; omega) | (intro h9; have h8 := hLx (by omega); omega))) (fun rr605 k606 => ?_)
          obtain ⟨y607, y609, y611, y613, y615, y617, g608, g610, g612, g614, g616, g618, h619, h620, h621, h622, rfl⟩ := k606
          refine ⟨_, _, rfl, ?_⟩
          refine T_nf2 (st' := []) (l' := [(7, y607), (8, y609), (9, y611), (10, y613), (11, y615), (12, y617), (13, y37), (25, (m.1 25) + 1), (28, (m.1 28)), (64, (m.1 64)), (69, (m.1 69)), (70, (m.1 70)), (71, (m.1 71)), (72, (m.1 72)), (73, (m.1 73)), (74, (m.1 74)), (75, (m.1 75)), (99, (m.1 99)), (100, (m.1 100))]) (a' := [(14, F39), (15, F41), (16, F43), (17, F45), (46, upI (m.2 46) (m.1 25) 0), (47, (m.2 47)), (48, (m.2 48)), (49, (m.2 49)), (50, upI (m.2 50) (m.1 25) 0), (65, (m.2 65)), (66, (m.2 66)), (67, (m.2 67)), (68, (m.2 68)), (76, (m.2 76)), (77, (m.2 77)), (78, (m.2 78)), (79, (m.2 79)), (80, (m.2 80)), (81, (m.2 81)), (82, (m.2 82)), (83, (m.2 83)), (84, (m.2 84)), (85, (m.2 85)), (86, (m.2 86)), (87, (m.2 87)), (88, (m.2 88)), (89, (m.2 89)), (90, (m.2 90)), (91, (m.2 91)), (92, (m.2 92)), (101, (m.2 101)), (102, (m.2 102)), (103, (m.2 103)), (104, (m.2 104)), (105, (m.2 105)), (106, (m.2 106)), (107, (m.2 107)), (108, (m.2 108)), (109, upI (m.2 109) (m.1 25) (m.1 99))]) [7, 8, 9, 10, 11, 12] [] rfl ⟨rfl, rfl, rfl, rfl, rfl, rfl, rfl, rfl, rfl, rfl, rfl, rfl, rfl, rfl, rfl, rfl, rfl, rfl, rfl, rfl, rfl, rfl, rfl, rfl, rfl, rfl, rfl, rfl, rfl, rfl, rfl, rfl, rfl, rfl, rfl, rfl, rfl, rfl, trivial⟩ ⟨rfl, rfl, rfl, rfl, rfl, rfl, rfl, rfl, rfl, rfl, rfl, rfl, rfl, rfl, rfl, rfl, rfl, rfl, rfl, rfl, rfl, rfl, rfl, rfl, rfl, rfl, rfl, rfl, rfl, rfl, rfl, rfl, rfl, rfl, rfl, rfl, rfl, rfl, rfl, rfl, rfl, rfl, rfl, rfl, rfl, rfl, rfl, rfl, rfl, rfl, rfl, rfl, rfl, rfl, rfl, rfl, rfl, rfl, rfl, rfl, rfl, rfl, rfl, rfl, rfl, rfl, rfl, rfl, rfl, rfl, rfl, rfl, rfl, rfl, rfl, rfl, rfl, rfl, trivial⟩ rfl rfl (by decide) (by decide) ?_
          replace h619 : LxP y607 y609 y611 (m.1 6) y613 := h619
          replace h620 : y613 = 0 → y594 = 0 ∧ y588 = (123 : Int) := h620
          replace h621 : y590 ≤ y609 := h621
          replace h622 : y613 = 0 → y590 + y592 ≤ y609 := h622
          have hf623 : 1 ≤ y613 := by omega
          clear h620
          clear h622
          have hLx := h619
          clear g589 g591 g593 g595 g597 g599 hf604 h600 h621
          refine T_ld 149 (.ref 189) rfl (fun _ => rfl) ?_
          refine T_ld 150 (.int (i32 (m.1 25))) rfl (fun _ => rfl) ?_
          refine T_pf (l' := [(7, y607), (8, y609), (9, y611), (10, y613), (11, y615), (12, y617), (13, y37), (25, (m.1 25) + 1), (28, (m.1 28)), (64, (m.1 25)), (69, (m.1 69)), (70, (m.1 70)), (71, (m.1 71)), (72, (m.1 72)), (73, (m.1 73)), (74, (m.1 74)), (75, (m.1 75)), (99, (m.1 99)), (100, (m.1 100))]) 153 (m.1 25) rfl rfl rfl rfl rfl rfl ?_
          have g624 : (-1) ≤ (m.1 25) ∧ (m.1 25) ≤ 15 := ⟨by omega, by omega⟩
          refine T_gf 157 (.int (i32 y613)) rfl rfl rfl rfl rfl rfl ?_
          refine T_if 211 160 rfl rfl rfl (r32 (by omega) (by omega)) (fun (h625 : y613 ≠ 0) => ?_) (fun (h625 : ¬ (y613 ≠ 0)) => by exfalso; omega)
          refine T_ld 212 (.ref 189) rfl (fun _ => rfl) ?_
          refine T_ld 213 (.int (i32 (-1))) rfl (fun _ => rfl) ?_
          refine T_pf (l' := [(7, y607), (8, y609), (9, y611), (10, y613), (11, y615), (12, y617), (13, y37), (25, (m.1 25) + 1), (28, (m.1 28)), (64, (-1)), (69, (m.1 69)), (70, (m.1 70)), (71, (m.1 71)), (72, (m.1 72)), (73, (m.1 73)), (74, (m.1 74)), (75, (m.1 75)), (99, (m.1 99)), (100, (m.1 100))]) 216 (-1) rfl rfl rfl rfl rfl rfl ?_
          refine T_ld 217 (.ref 189) rfl (fun _ => rfl) ?_
          refine T_ld 219 (.int (i32 125)) rfl (fun _ => rfl) ?_
          refine T_call 222 232 [.ref 189, .int (i32 125)] [] rfl (fun _ => rfl) rfl (c_need w (mO m [(7, y607), (8, y609), (9, y611), (10, y613), (11, y615), (12, y617), (13, y37), (25, (m.1 25) + 1), (28, (m.1 28)), (64, (-1)), (69, (m.1 69)), (70, (m.1 70)), (71, (m.1 71)), (72, (m.1 72)), (73, (m.1 73)), (74, (m.1 74)), (75, (m.1 75)), (99, (m.1 99)), (100, (m.1 100))] [(14, F39), (15, F41), (16, F43), (17, F45), (46, upI (m.2 46) (m.1 25) 0), (47, (m.2 47)), (48, (m.2 48)), (49, (m.2 49)), (50, upI (m.2 50) (m.1 25) 0), (65, (m.2 65)), (66, (m.2 66)), (67, (m.2 67)), (68, (m.2 68)), (76, (m.2 76)), (77, (m.2 77)), (78, (m.2 78)), (79, (m.2 79)), (80, (m.2 80)), (81, (m.2 81)), (82, (m.2 82)), (83, (m.2 83)), (84, (m.2 84)), (85, (m.2 85)), (86, (m.2 86)), (87, (m.2 87)), (88, (m.2 88)), (89, (m.2 89)), (90, (m.2 90)), (91, (m.2 91)), (92, (m.2 92)), (101, (m.2 101)), (102, (m.2 102)), (103, (m.2 103)), (104, (m.2 104)), (105, (m.2 105)), (106, (m.2 106)), (107, (m.2 107)), (108, (m.2 108)), (109, upI (m.2 109) (m.1 25) (m.1 99))]) c N D (by omega) (Ty_mO hT rfl rfl ⟨g608, g610, g612, g614, g616, g618, g38, g561, f28, ⟨(by omega : ((-1) : Int) ≤ (-1)), (by omega : ((-1) : Int) ≤ 15)⟩, f69, f70, f71, f72, f73, f74, f75, f99, f100, trivial⟩ ⟨G40, G42, G44, G46, G563, (hT.2.1 47), (hT.2.1 48), (hT.2.1 49), G564, (hT.2.1 65), (hT.2.1 66), (hT.2.1 67), (hT.2.1 68), (hT.2.1 76), (hT.2.1 77), (hT.2.1 78), (hT.2.1 79), (hT.2.1 80), (hT.2.1 81), (hT.2.1 82), (hT.2.1 83), (hT.2.1 84), (hT.2.1 85), (hT.2.1 86), (hT.2.1 87), (hT.2.1 88), (hT.2.1 89), (hT.2.1 90), (hT.2.1 91), (hT.2.1 92), (hT.2.1 101), (hT.2.1 102), (hT.2.1 103), (hT.2.1 104), (hT.2.1 105), (hT.2.1 106), (hT.2.1 107), (hT.2.1 108), G562, trivial⟩) 125 ⟨by decide, by decide⟩ (show 1 ≤ (125 : Int) by omega) (show LxP y607 y609 y611 (m.1 6) y613 by first | exact hLx | (intro h9; exfalso; omega) | (intro h9; have h8 := hLx (by omega); omega))) (fun rr626 k627 => ?_)
          obtain ⟨y628, y630, y632, y634, y636, y638, g629, g631, g633, g635, g637, g639, h640, h641, h642, h643, rfl⟩ := k627
          refine ⟨_, _, rfl, ?_⟩
          refine T_nf2 (st' := []) (l' := [(7, y628), (8, y630), (9, y632), (10, y634), (11, y636), (12, y638), (13, y37), (25, (m.1 25) + 1), (28, (m.1 28)), (64, (-1)), (69, (m.1 69)), (70, (m.1 70)), (71, (m.1 71)), (72, (m.1 72)), (73, (m.1 73)), (74, (m.1 74)), (75, (m.1 75)), (99, (m.1 99)), (100, (m.1 100))]) (a' := [(14, F39), (15, F41), (16, F43), (17, F45), (46, upI (m.2 46) (m.1 25) 0), (47, (m.2 47)), (48, (m.2 48)), (49, (m.2 49)), (50, upI (m.2 50) (m.1 25) 0), (65, (m.2 65)), (66, (m.2 66)), (67, (m.2 67)), (68, (m.2 68)), (76, (m.2 76)), (77, (m.2 77)), (78, (m.2 78)), (79, (m.2 79)), (80, (m.2 80)), (81, (m.2 81)), (82, (m.2 82)), (83, (m.2 83)), (84, (m.2 84)), (85, (m.2 85)), (86, (m.2 86)), (87, (m.2 87)), (88, (m.2 88)), (89, (m.2 89)), (90, (m.2 90)), (91, (m.2 91)), (92, (m.2 92)), (101, (m.2 101)), (102, (m.2 102)), (103, (m.2 103)), (104, (m.2 104)), (105, (m.2 105)), (106, (m.2 106)), (107, (m.2 107)), (108, (m.2 108)), (109, upI (m.2 109) (m.1 25) (m.1 99))]) [7, 8, 9, 10, 11, 12] [] rfl ⟨rfl, rfl, rfl, rfl, rfl, rfl, rfl, rfl, rfl, rfl, rfl, rfl, rfl, rfl, rfl, rfl, rfl, rfl, rfl, rfl, rfl, rfl, rfl, rfl, rfl, rfl, rfl, rfl, rfl, rfl, rfl, rfl, rfl, rfl, rfl, rfl, rfl, rfl, trivial⟩ ⟨rfl, rfl, rfl, rfl, rfl, rfl, rfl, rfl, rfl, rfl, rfl, rfl, rfl, rfl, rfl, rfl, rfl, rfl, rfl, rfl, rfl, rfl, rfl, rfl, rfl, rfl, rfl, rfl, rfl, rfl, rfl, rfl, rfl, rfl, rfl, rfl, rfl, rfl, rfl, rfl, rfl, rfl, rfl, rfl, rfl, rfl, rfl, rfl, rfl, rfl, rfl, rfl, rfl, rfl, rfl, rfl, rfl, rfl, rfl, rfl, rfl, rfl, rfl, rfl, rfl, rfl, rfl, rfl, rfl, rfl, rfl, rfl, rfl, rfl, rfl, rfl, rfl, rfl, trivial⟩ rfl rfl (by decide) (by decide) ?_
          replace h640 : LxP y628 y630 y632 (m.1 6) y634 := h640
          replace h641 : y634 = 0 → y613 = 0 ∧ y607 = (125 : Int) := h641
          replace h642 : y609 ≤ y630 := h642
          replace h643 : y634 = 0 → y609 + y611 ≤ y630 := h643
          have hf644 : 1 ≤ y634 := by omega
          clear h641
          clear h643
          have hLx := h640
          clear g608 g610 g612 g614 g616 g618 hf623 h619 h625 h642
          refine T_ret rfl (fun _ => rfl) ?_
          exact ⟨(mO m [(7, y628), (8, y630), (9, y632), (10, y634), (11, y636), (12, y638), (13, y37), (25, (m.1 25) + 1), (28, (m.1 28)), (64, (-1)), (69, (m.1 69)), (70, (m.1 70)), (71, (m.1 71)), (72, (m.1 72)), (73, (m.1 73)), (74, (m.1 74)), (75, (m.1 75)), (99, (m.1 99)), (100, (m.1 100))] [(14, F39), (15, F41), (16, F43), (17, F45), (46, upI (m.2 46) (m.1 25) 0), (47, (m.2 47)), (48, (m.2 48)), (49, (m.2 49)), (50, upI (m.2 50) (m.1 25) 0), (65, (m.2 65)), (66, (m.2 66)), (67, (m.2 67)), (68, (m.2 68)), (76, (m.2 76)), (77, (m.2 77)), (78, (m.2 78)), (79, (m.2 79)), (80, (m.2 80)), (81, (m.2 81)), (82, (m.2 82)), (83, (m.2 83)), (84, (m.2 84)), (85, (m.2 85)), (86, (m.2 86)), (87, (m.2 87)), (88, (m.2 88)), (89, (m.2 89)), (90, (m.2 90)), (91, (m.2 91)), (92, (m.2 92)), (101, (m.2 101)), (102, (m.2 102)), (103, (m.2 103)), (104, (m.2 104)), (105, (m.2 105)), (106, (m.2 106)), (107, (m.2 107)), (108, (m.2 108)), (109, upI (m.2 109) (m.1 25) (m.1 99))]), (Ty_mO hT rfl rfl ⟨g629, g631, g633, g635, g637, g639, g38, g561, f28, ⟨(by omega : ((-1) : Int) ≤ (-1)), (by omega : ((-1) : Int) ≤ 15)⟩, f69, f70, f71, f72, f73, f74, f75, f99, f100, trivial⟩ ⟨G40, G42, G44, G46, G563, (hT.2.1 47), (hT.2.1 48), (hT.2.1 49), G564, (hT.2.1 65), (hT.2.1 66), (hT.2.1 67), (hT.2.1 68), (hT.2.1 76), (hT.2.1 77), (hT.2.1 78), (hT.2.1 79), (hT.2.1 80), (hT.2.1 81), (hT.2.1 82), (hT.2.1 83), (hT.2.1 84), (hT.2.1 85), (hT.2.1 86), (hT.2.1 87), (hT.2.1 88), (hT.2.1 89), (hT.2.1 90), (hT.2.1 91), (hT.2.1 92), (hT.2.1 101), (hT.2.1 102), (hT.2.1 103), (hT.2.1 104), (hT.2.1 105), (hT.2.1 106), (hT.2.1 107), (hT.2.1 108), G562, trivial⟩), (show y634 = 0 → (m.1 10) = 0 by omega), (show LxP y628 y630 y632 (m.1 6) y634 by first | (first | exact hLx | exact (fun _ => hLx (by omega)) | (intro h9; exfalso; omega)) | (exfalso; omega)), (show ∀ k, F39 k + F41 k ≤ 4000 by first | (exact hNM) | (exfalso; omega)), (show ∀ k, (m.2 47) k + (m.2 48) k ≤ 4000 by first | (exact hPA) | (exfalso; omega)), (fun (h : y634 = 0) => absurd h (by omega)), rfl⟩
        · skip
          refine T_ret rfl (fun _ => rfl) ?_
          exact ⟨(mO m [(7, y25), (8, y27), (9, y29), (10, y31), (11, y33), (12, y35), (13, y37), (25, (m.1 25)), (28, (m.1 28)), (64, (m.1 64)), (69, (m.1 69)), (70, (m.1 70)), (71, (m.1 71)), (72, (m.1 72)), (73, (m.1 73)), (74, (m.1 74)), (75, (m.1 75)), (99, (m.1 99)), (100, (m.1 100))] [(14, F39), (15, F41), (16, F43), (17, F45), (46, (m.2 46)), (47, (m.2 47)), (48, (m.2 48)), (49, (m.2 49)), (50, (m.2 50)), (65, (m.2 65)), (66, (m.2 66)), (67, (m.2 67)), (68, (m.2 68)), (76, (m.2 76)), (77, (m.2 77)), (78, (m.2 78)), (79, (m.2 79)), (80, (m.2 80)), (81, (m.2 81)), (82, (m.2 82)), (83, (m.2 83)), (84, (m.2 84)), (85, (m.2 85)), (86, (m.2 86)), (87, (m.2 87)), (88, (m.2 88)), (89, (m.2 89)), (90, (m.2 90)), (91, (m.2 91)), (92, (m.2 92)), (101, (m.2 101)), (102, (m.2 102)), (103, (m.2 103)), (104, (m.2 104)), (105, (m.2 105)), (106, (m.2 106)), (107, (m.2 107)), (108, (m.2 108)), (109, (m.2 109))]), (Ty_mO hT rfl rfl ⟨g26, g28, g30, g32, g34, g36, g38, f25, f28, f64, f69, f70, f71, f72, f73, f74, f75, f99, f100, trivial⟩ ⟨G40, G42, G44, G46, (hT.2.1 46), (hT.2.1 47), (hT.2.1 48), (hT.2.1 49), (hT.2.1 50), (hT.2.1 65), (hT.2.1 66), (hT.2.1 67), (hT.2.1 68), (hT.2.1 76), (hT.2.1 77), (hT.2.1 78), (hT.2.1 79), (hT.2.1 80), (hT.2.1 81), (hT.2.1 82), (hT.2.1 83), (hT.2.1 84), (hT.2.1 85), (hT.2.1 86), (hT.2.1 87), (hT.2.1 88), (hT.2.1 89), (hT.2.1 90), (hT.2.1 91), (hT.2.1 92), (hT.2.1 101), (hT.2.1 102), (hT.2.1 103), (hT.2.1 104), (hT.2.1 105), (hT.2.1 106), (hT.2.1 107), (hT.2.1 108), (hT.2.1 109), trivial⟩), (show y31 = 0 → (m.1 10) = 0 by omega), (show LxP y25 y27 y29 (m.1 6) y31 by first | (first | exact hLx | exact (fun _ => hLx (by omega)) | (intro h9; exfalso; omega)) | (exfalso; omega)), (show ∀ k, F39 k + F41 k ≤ 4000 by first | (exact hNM) | (exfalso; omega)), (show ∀ k, (m.2 47) k + (m.2 48) k ≤ 4000 by first | (exact hPA) | (exfalso; omega)), (fun (h : y31 = 0) => absurd h (by omega)), rfl⟩
    · skip
      replace h17 : LxP y5 y7 y9 (m.1 6) y11 := h17
      have hLx := h17
      clear h18
      replace h19 : (m.1 8) ≤ y7 := h19
      clear h20
      have hf645 : 1 ≤ y11 := by omega
      refine T_ld 5 (.ref 189) rfl (fun _ => rfl) ?_
      refine T_ld 7 (.int (i32 6)) rfl (fun _ => rfl) ?_
      refine T_gf 11 (.int (i32 (m.1 25))) rfl rfl rfl rfl rfl rfl ?_
      refine T_ld 13 (.int (i32 16)) rfl (fun _ => rfl) ?_
      refine T_call 16 225 [.ref 189, .int (i32 6), .int (i32 (m.1 25)), .int (i32 16)] [] rfl (fun _ => rfl) rfl (c_newName w (mO m [(7, y5), (8, y7), (9, y9), (10, y11), (11, y13), (12, y15), (13, (m.1 13)), (25, (m.1 25)), (28, (m.1 28)), (64, (m.1 64)), (69, (m.1 69)), (70, (m.1 70)), (71, (m.1 71)), (72, (m.1 72)), (73, (m.1 73)), (74, (m.1 74)), (75, (m.1 75)), (99, (m.1 99)), (100, (m.1 100))] [(14, (m.2 14)), (15, (m.2 15)), (16, (m.2 16)), (17, (m.2 17)), (46, (m.2 46)), (47, (m.2 47)), (48, (m.2 48)), (49, (m.2 49)), (50, (m.2 50)), (65, (m.2 65)), (66, (m.2 66)), (67, (m.2 67)), (68, (m.2 68)), (76, (m.2 76)), (77, (m.2 77)), (78, (m.2 78)), (79, (m.2 79)), (80, (m.2 80)), (81, (m.2 81)), (82, (m.2 82)), (83, (m.2 83)), (84, (m.2 84)), (85, (m.2 85)), (86, (m.2 86)), (87, (m.2 87)), (88, (m.2 88)), (89, (m.2 89)), (90, (m.2 90)), (91, (m.2 91)), (92, (m.2 92)), (101, (m.2 101)), (102, (m.2 102)), (103, (m.2 103)), (104, (m.2 104)), (105, (m.2 105)), (106, (m.2 106)), (107, (m.2 107)), (108, (m.2 108)), (109, (m.2 109))]) c N D (by omega) (Ty_mO hT rfl rfl ⟨g6, g8, g10, g12, g14, g16, f13, f25, f28, f64, f69, f70, f71, f72, f73, f74, f75, f99, f100, trivial⟩ ⟨(hT.2.1 14), (hT.2.1 15), (hT.2.1 16), (hT.2.1 17), (hT.2.1 46), (hT.2.1 47), (hT.2.1 48), (hT.2.1 49), (hT.2.1 50), (hT.2.1 65), (hT.2.1 66), (hT.2.1 67), (hT.2.1 68), (hT.2.1 76), (hT.2.1 77), (hT.2.1 78), (hT.2.1 79), (hT.2.1 80), (hT.2.1 81), (hT.2.1 82), (hT.2.1 83), (hT.2.1 84), (hT.2.1 85), (hT.2.1 86), (hT.2.1 87), (hT.2.1 88), (hT.2.1 89), (hT.2.1 90), (hT.2.1 91), (hT.2.1 92), (hT.2.1 101), (hT.2.1 102), (hT.2.1 103), (hT.2.1 104), (hT.2.1 105), (hT.2.1 106), (hT.2.1 107), (hT.2.1 108), (hT.2.1 109), trivial⟩) 6 (m.1 25) 16 ⟨by decide, by decide⟩ (r32 (by omega) (by omega)) ⟨by decide, by decide⟩ (show LxP y5 y7 y9 (m.1 6) y11 by first | exact hLx | (intro h9; exfalso; omega) | (intro h9; have h8 := hLx (by omega); omega)) (show ∀ k, (m.2 14) k + (m.2 15) k ≤ 4000 by first | exact p1 | exact hNM) (show y11 = 0 → (m.1 13) ≤ 119 by omega) (show 1 ≤ (6 : Int) ∧ (6 : Int) ≤ 7 by omega) (show 0 ≤ (m.1 25) ∧ ((m.1 25) ≠ (16 : Int) → (m.1 25) ≤ 15) by omega)) (fun rr646 k647 => ?_)
      obtain ⟨y648, y650, y652, y654, y656, y658, y660, F662, F664, F666, F668, nn, g649, g651, g653, g655, g657, g659, g661, G663, G665, G667, G669, g670, h671, h672, h673, h674, h675, h676, h677, rfl⟩ := k647
      refine ⟨_, _, rfl, ?_⟩
      refine T_nf2 (st' := [.int (i32 nn)]) (l' := [(7, y648), (8, y650), (9, y652), (10, y654), (11, y656), (12, y658), (13, y660), (25, (m.1 25)), (28, (m.1 28)), (64, (m.1 64)), (69, (m.1 69)), (70, (m.1 70)), (71, (m.1 71)), (72, (m.1 72)), (73, (m.1 73)), (74, (m.1 74)), (75, (m.1 75)), (99, (m.1 99)), (100, (m.1 100))]) (a' := [(14, F662), (15, F664), (16, F666), (17, F668), (46, (m.2 46)), (47, (m.2 47)), (48, (m.2 48)), (49, (m.2 49)), (50, (m.2 50)), (65, (m.2 65)), (66, (m.2 66)), (67, (m.2 67)), (68, (m.2 68)), (76, (m.2 76)), (77, (m.2 77)), (78, (m.2 78)), (79, (m.2 79)), (80, (m.2 80)), (81, (m.2 81)), (82, (m.2 82)), (83, (m.2 83)), (84, (m.2 84)), (85, (m.2 85)), (86, (m.2 86)), (87, (m.2 87)), (88, (m.2 88)), (89, (m.2 89)), (90, (m.2 90)), (91, (m.2 91)), (92, (m.2 92)), (101, (m.2 101)), (102, (m.2 102)), (103, (m.2 103)), (104, (m.2 104)), (105, (m.2 105)), (106, (m.2 106)), (107, (m.2 107)), (108, (m.2 108)), (109, (m.2 109))]) [7, 8, 9, 10, 11, 12, 13] [14, 15, 16, 17] rfl ⟨rfl, rfl, rfl, rfl, rfl, rfl, rfl, rfl, rfl, rfl, rfl, rfl, rfl, rfl, rfl, rfl, rfl, rfl, rfl, rfl, rfl, rfl, rfl, rfl, rfl, rfl, rfl, rfl, rfl, rfl, rfl, rfl, rfl, rfl, rfl, rfl, rfl, rfl, trivial⟩ ⟨rfl, rfl, rfl, rfl, rfl, rfl, rfl, rfl, rfl, rfl, rfl, rfl, rfl, rfl, rfl, rfl, rfl, rfl, rfl, rfl, rfl, rfl, rfl, rfl, rfl, rfl, rfl, rfl, rfl, rfl, rfl, rfl, rfl, rfl, rfl, rfl, rfl, rfl, rfl, rfl, rfl, rfl, rfl, rfl, rfl, rfl, rfl, rfl, rfl, rfl, rfl, rfl, rfl, rfl, rfl, rfl, rfl, rfl, rfl, rfl, rfl, rfl, rfl, rfl, rfl, rfl, rfl, rfl, rfl, rfl, rfl, rfl, rfl, rfl, rfl, rfl, rfl, rfl, trivial⟩ rfl rfl (by decide) (by decide) ?_
      obtain ⟨g670a, g670b⟩ := g670
      replace h671 : LxP y648 y650 y652 (m.1 6) y654 := h671
      replace h672 : y7 ≤ y650 := h672
      replace h673 : y654 = 0 → y11 = 0 ∧ y7 + y9 ≤ y650 := h673
      replace h674 : y654 = 0 → nn = 1 ∧ y5 = 1 := h674
      replace h675 : nn = 1 → (m.1 25) ≠ (16 : Int) := h675
      replace h676 : ∀ k, F662 k + F664 k ≤ 4000 := h676
      replace h677 : (nn = 1 ∧ y11 = 0 ∧ y660 = (m.1 13) + 1 ∧ F662 = upI (m.2 14) (m.1 13) y7 ∧ F664 = upI (m.2 15) (m.1 13) y9 ∧ F666 = upI (m.2 16) (m.1 13) (6 : Int) ∧ F668 = upI (m.2 17) (m.1 13) (m.1 25)) ∨ (nn = 0 ∧ 0 < y654 ∧ y660 = (m.1 13) ∧ F662 = (m.2 14) ∧ F664 = (m.2 15) ∧ F666 = (m.2 16) ∧ F668 = (m.2 17)) := h677
      have hf678 : 1 ≤ y654 := by omega
      clear h673
      clear h674
      have hLx := h671
      have hNM := h676
      have hN := h677
      clear g6 g8 g10 g12 g14 g16 h17 h19 hf645 h672 h677
      refine T_if 20 19 rfl rfl rfl (r32 (by omega) (by omega)) (fun (h679 : nn ≠ 0) => ?_) (fun (h679 : ¬ (nn ≠ 0)) => ?_)
      · skip
        refine T_gf 24 (.int (i32 (m.1 25))) rfl rfl rfl rfl rfl rfl ?_
        refine T_sto 25 [(1, .int (i32 (m.1 25))), (0, .ref 189)] rfl (fun _ => rfl) ?_
        refine T_ld 26 (.ref 189) rfl (fun _ => rfl) ?_
        refine T_ld 27 (.ref 189) rfl (fun _ => rfl) ?_
        refine T_gf1 30 (.int (i32 (m.1 25))) rfl rfl rfl rfl ?_
        refine T_ld 31 (.int (i32 1)) rfl (fun _ => rfl) ?_
        refine T_iadd 32 rfl rfl ?_
        refine T_pf (l' := [(7, y648), (8, y650), (9, y652), (10, y654), (11, y656), (12, y658), (13, y660), (25, (m.1 25) + 1), (28, (m.1 28)), (64, (m.1 64)), (69, (m.1 69)), (70, (m.1 70)), (71, (m.1 71)), (72, (m.1 72)), (73, (m.1 73)), (74, (m.1 74)), (75, (m.1 75)), (99, (m.1 99)), (100, (m.1 100))]) 35 ((m.1 25) + 1) rfl rfl rfl rfl rfl rfl ?_
        have g680 : 0 ≤ (m.1 25) + 1 ∧ (m.1 25) + 1 ≤ 16 := ⟨by omega, by omega⟩
        refine T_gf 39 (.ref 269) rfl rfl rfl rfl rfl rfl ?_
        refine T_ld 40 (.int (i32 (m.1 25))) rfl (fun _ => rfl) ?_
        refine T_gf 44 (.int (i32 (m.1 99))) rfl rfl rfl rfl rfl rfl ?_
        have G681 : ∀ j, 0 ≤ (upI (m.2 109) (m.1 25) (m.1 99)) j ∧ (upI (m.2 109) (m.1 25) (m.1 99)) j ≤ 192 := upI_rg (hT.2.1 109) ⟨by omega, by omega⟩
        refine T_iast (a' := [(14, F662), (15, F664), (16, F666), (17, F668), (46, (m.2 46)), (47, (m.2 47)), (48, (m.2 48)), (49, (m.2 49)), (50, (m.2 50)), (65, (m.2 65)), (66, (m.2 66)), (67, (m.2 67)), (68, (m.2 68)), (76, (m.2 76)), (77, (m.2 77)), (78, (m.2 78)), (79, (m.2 79)), (80, (m.2 80)), (81, (m.2 81)), (82, (m.2 82)), (83, (m.2 83)), (84, (m.2 84)), (85, (m.2 85)), (86, (m.2 86)), (87, (m.2 87)), (88, (m.2 88)), (89, (m.2 89)), (90, (m.2 90)), (91, (m.2 91)), (92, (m.2 92)), (101, (m.2 101)), (102, (m.2 102)), (103, (m.2 103)), (104, (m.2 104)), (105, (m.2 105)), (106, (m.2 106)), (107, (m.2 107)), (108, (m.2 108)), (109, upI (m.2 109) (m.1 25) (m.1 99))]) 45 109 (m.2 109) rfl rfl rfl (by omega) (show (m.1 25) < (16 : Int) by omega) rfl rfl ?_
        refine T_gf 49 (.ref 216) rfl rfl rfl rfl rfl rfl ?_
        refine T_ld 50 (.int (i32 (m.1 25))) rfl (fun _ => rfl) ?_
        refine T_ld 51 (.int (i32 0)) rfl (fun _ => rfl) ?_
        have G682 : ∀ j, 0 ≤ (upI (m.2 46) (m.1 25) 0) j ∧ (upI (m.2 46) (m.1 25) 0) j ≤ 4 := upI_rg (hT.2.1 46) ⟨by omega, by omega⟩
        refine T_iast (a' := [(14, F662), (15, F664), (16, F666), (17, F668), (46, upI (m.2 46) (m.1 25) 0), (47, (m.2 47)), (48, (m.2 48)), (49, (m.2 49)), (50, (m.2 50)), (65, (m.2 65)), (66, (m.2 66)), (67, (m.2 67)), (68, (m.2 68)), (76, (m.2 76)), (77, (m.2 77)), (78, (m.2 78)), (79, (m.2 79)), (80, (m.2 80)), (81, (m.2 81)), (82, (m.2 82)), (83, (m.2 83)), (84, (m.2 84)), (85, (m.2 85)), (86, (m.2 86)), (87, (m.2 87)), (88, (m.2 88)), (89, (m.2 89)), (90, (m.2 90)), (91, (m.2 91)), (92, (m.2 92)), (101, (m.2 101)), (102, (m.2 102)), (103, (m.2 103)), (104, (m.2 104)), (105, (m.2 105)), (106, (m.2 106)), (107, (m.2 107)), (108, (m.2 108)), (109, upI (m.2 109) (m.1 25) (m.1 99))]) 52 46 (m.2 46) rfl rfl rfl (by omega) (show (m.1 25) < (16 : Int) by omega) rfl rfl ?_
        refine T_gf 56 (.ref 220) rfl rfl rfl rfl rfl rfl ?_
        refine T_ld 57 (.int (i32 (m.1 25))) rfl (fun _ => rfl) ?_
        refine T_ld 58 (.int (i32 0)) rfl (fun _ => rfl) ?_
        have G683 : ∀ j, 0 ≤ (upI (m.2 50) (m.1 25) 0) j ∧ (upI (m.2 50) (m.1 25) 0) j ≤ 13 := upI_rg (hT.2.1 50) ⟨by omega, by omega⟩
        refine T_iast (a' := [(14, F662), (15, F664), (16, F666), (17, F668), (46, upI (m.2 46) (m.1 25) 0), (47, (m.2 47)), (48, (m.2 48)), (49, (m.2 49)), (50, upI (m.2 50) (m.1 25) 0), (65, (m.2 65)), (66, (m.2 66)), (67, (m.2 67)), (68, (m.2 68)), (76, (m.2 76)), (77, (m.2 77)), (78, (m.2 78)), (79, (m.2 79)), (80, (m.2 80)), (81, (m.2 81)), (82, (m.2 82)), (83, (m.2 83)), (84, (m.2 84)), (85, (m.2 85)), (86, (m.2 86)), (87, (m.2 87)), (88, (m.2 88)), (89, (m.2 89)), (90, (m.2 90)), (91, (m.2 91)), (92, (m.2 92)), (101, (m.2 101)), (102, (m.2 102)), (103, (m.2 103)), (104, (m.2 104)), (105, (m.2 105)), (106, (m.2 106)), (107, (m.2 107)), (108, (m.2 108)), (109, upI (m.2 109) (m.1 25) (m.1 99))]) 59 50 (m.2 50) rfl rfl rfl (by omega) (show (m.1 25) < (16 : Int) by omega) rfl rfl ?_
        refine T_ld 60 (.ref 189) rfl (fun _ => rfl) ?_
        refine T_ld 62 (.int (i32 40)) rfl (fun _ => rfl) ?_
        refine T_call 65 232 [.ref 189, .int (i32 40)] [] rfl (fun _ => rfl) rfl (c_need w (mO m [(7, y648), (8, y650), (9, y652), (10, y654), (11, y656), (12, y658), (13, y660), (25, (m.1 25) + 1), (28, (m.1 28)), (64, (m.1 64)), (69, (m.1 69)), (70, (m.1 70)), (71, (m.1 71)), (72, (m.1 72)), (73, (m.1 73)), (74, (m.1 74)), (75, (m.1 75)), (99, (m.1 99)), (100, (m.1 100))] [(14, F662), (15, F664), (16, F666), (17, F668), (46, upI (m.2 46) (m.1 25) 0), (47, (m.2 47)), (48, (m.2 48)), (49, (m.2 49)), (50, upI (m.2 50) (m.1 25) 0), (65, (m.2 65)), (66, (m.2 66)), (67, (m.2 67)), (68, (m.2 68)), (76, (m.2 76)), (77, (m.2 77)), (78, (m.2 78)), (79, (m.2 79)), (80, (m.2 80)), (81, (m.2 81)), (82, (m.2 82)), (83, (m.2 83)), (84, (m.2 84)), (85, (m.2 85)), (86, (m.2 86)), (87, (m.2 87)), (88, (m.2 88)), (89, (m.2 89)), (90, (m.2 90)), (91, (m.2 91)), (92, (m.2 92)), (101, (m.2 101)), (102, (m.2 102)), (103, (m.2 103)), (104, (m.2 104)), (105, (m.2 105)), (106, (m.2 106)), (107, (m.2 107)), (108, (m.2 108)), (109, upI (m.2 109) (m.1 25) (m.1 99))]) c N D (by omega) (Ty_mO hT rfl rfl ⟨g649, g651, g653, g655, g657, g659, g661, g680, f28, f64, f69, f70, f71, f72, f73, f74, f75, f99, f100, trivial⟩ ⟨G663, G665, G667, G669, G682, (hT.2.1 47), (hT.2.1 48), (hT.2.1 49), G683, (hT.2.1 65), (hT.2.1 66), (hT.2.1 67), (hT.2.1 68), (hT.2.1 76), (hT.2.1 77), (hT.2.1 78), (hT.2.1 79), (hT.2.1 80), (hT.2.1 81), (hT.2.1 82), (hT.2.1 83), (hT.2.1 84), (hT.2.1 85), (hT.2.1 86), (hT.2.1 87), (hT.2.1 88), (hT.2.1 89), (hT.2.1 90), (hT.2.1 91), (hT.2.1 92), (hT.2.1 101), (hT.2.1 102), (hT.2.1 103), (hT.2.1 104), (hT.2.1 105), (hT.2.1 106), (hT.2.1 107), (hT.2.1 108), G681, trivial⟩) 40 ⟨by decide, by decide⟩ (show 1 ≤ (40 : Int) by omega) (show LxP y648 y650 y652 (m.1 6) y654 by first | exact hLx | (intro h9; exfalso; omega) | (intro h9; have h8 := hLx (by omega); omega))) (fun rr684 k685 => ?_)
        obtain ⟨y686, y688, y690, y692, y694, y696, g687, g689, g691, g693, g695, g697, h698, h699, h700, h701, rfl⟩ := k685
        refine ⟨_, _, rfl, ?_⟩
        refine T_nf2 (st' := []) (l' := [(7, y686), (8, y688), (9, y690), (10, y692), (11, y694), (12, y696), (13, y660), (25, (m.1 25) + 1), (28, (m.1 28)), (64, (m.1 64)), (69, (m.1 69)), (70, (m.1 70)), (71, (m.1 71)), (72, (m.1 72)), (73, (m.1 73)), (74, (m.1 74)), (75, (m.1 75)), (99, (m.1 99)), (100, (m.1 100))]) (a' := [(14, F662), (15, F664), (16, F666), (17, F668), (46, upI (m.2 46) (m.1 25) 0), (47, (m.2 47)), (48, (m.2 48)), (49, (m.2 49)), (50, upI (m.2 50) (m.1 25) 0), (65, (m.2 65)), (66, (m.2 66)), (67, (m.2 67)), (68, (m.2 68)), (76, (m.2 76)), (77, (m.2 77)), (78, (m.2 78)), (79, (m.2 79)), (80, (m.2 80)), (81, (m.2 81)), (82, (m.2 82)), (83, (m.2 83)), (84, (m.2 84)), (85, (m.2 85)), (86, (m.2 86)), (87, (m.2 87)), (88, (m.2 88)), (89, (m.2 89)), (90, (m.2 90)), (91, (m.2 91)), (92, (m.2 92)), (101, (m.2 101)), (102, (m.2 102)), (103, (m.2 103)), (104, (m.2 104)), (105, (m.2 105)), (106, (m.2 106)), (107, (m.2 107)), (108, (m.2 108)), (109, upI (m.2 109) (m.1 25) (m.1 99))]) [7, 8, 9, 10, 11, 12] [] rfl ⟨rfl, rfl, rfl, rfl, rfl, rfl, rfl, rfl, rfl, rfl, rfl, rfl, rfl, rfl, rfl, rfl, rfl, rfl, rfl, rfl, rfl, rfl, rfl, rfl, rfl, rfl, rfl, rfl, rfl, rfl, rfl, rfl, rfl, rfl, rfl, rfl, rfl, rfl, trivial⟩ ⟨rfl, rfl, rfl, rfl, rfl, rfl, rfl, rfl, rfl, rfl, rfl, rfl, rfl, rfl, rfl, rfl, rfl, rfl, rfl, rfl, rfl, rfl, rfl, rfl, rfl, rfl, rfl, rfl, rfl, rfl, rfl, rfl, rfl, rfl, rfl, rfl, rfl, rfl, rfl, rfl, rfl, rfl, rfl, rfl, rfl, rfl, rfl, rfl, rfl, rfl, rfl, rfl, rfl, rfl, rfl, rfl, rfl, rfl, rfl, rfl, rfl, rfl, rfl, rfl, rfl, rfl, rfl, rfl, rfl, rfl, rfl, rfl, rfl, rfl, rfl, rfl, rfl, rfl, trivial⟩ rfl rfl (by decide) (by decide) ?_
        replace h698 : LxP y686 y688 y690 (m.1 6) y692 := h698
        replace h699 : y692 = 0 → y654 = 0 ∧ y648 = (40 : Int) := h699
        replace h700 : y650 ≤ y688 := h700
        replace h701 : y692 = 0 → y650 + y652 ≤ y688 := h701
        have hf702 : 1 ≤ y692 := by omega
        clear h699
        clear h701
        have hLx := h698
        clear g649 g651 g653 g655 g657 g659 g670a g670b hf678 h671 h675 h679 h700
        refine T_gf 69 (.int (i32 y692)) rfl rfl rfl rfl rfl rfl ?_
        refine T_if 85 72 rfl rfl rfl (r32 (by omega) (by omega)) (fun (h703 : y692 ≠ 0) => ?_) (fun (h703 : ¬ (y692 ≠ 0)) => by exfalso; omega)
        refine T_ld 86 (.int (i32 0)) rfl (fun _ => rfl) ?_
        refine T_sto 87 [(2, .int (i32 0)), (1, .int (i32 (m.1 25))), (0, .ref 189)] rfl (fun _ => rfl) ?_
        refine T_ld 88 (.int (i32 0)) rfl (fun _ => rfl) ?_
        refine T_if 136 91 rfl rfl rfl ⟨by decide, by decide⟩ (fun _ => ?_) (fun h704 => absurd (show (0 : Int) = 0 by decide) h704)
        refine T_ld 137 (.ref 189) rfl (fun _ => rfl) ?_
        refine T_ld 139 (.int (i32 41)) rfl (fun _ => rfl) ?_
        refine T_call 142 232 [.ref 189, .int (i32 41)] [] rfl (fun _ => rfl) rfl (c_need w (mO m [(7, y686), (8, y688), (9, y690), (10, y692), (11, y694), (12, y696), (13, y660), (25, (m.1 25) + 1), (28, (m.1 28)), (64, (m.1 64)), (69, (m.1 69)), (70, (m.1 70)), (71, (m.1 71)), (72, (m.1 72)), (73, (m.1 73)), (74, (m.1 74)), (75, (m.1 75)), (99, (m.1 99)), (100, (m.1 100))] [(14, F662), (15, F664), (16, F666), (17, F668), (46, upI (m.2 46) (m.1 25) 0), (47, (m.2 47)), (48, (m.2 48)), (49, (m.2 49)), (50, upI (m.2 50) (m.1 25) 0), (65, (m.2 65)), (66, (m.2 66)), (67, (m.2 67)), (68, (m.2 68)), (76, (m.2 76)), (77, (m.2 77)), (78, (m.2 78)), (79, (m.2 79)), (80, (m.2 80)), (81, (m.2 81)), (82, (m.2 82)), (83, (m.2 83)), (84, (m.2 84)), (85, (m.2 85)), (86, (m.2 86)), (87, (m.2 87)), (88, (m.2 88)), (89, (m.2 89)), (90, (m.2 90)), (91, (m.2 91)), (92, (m.2 92)), (101, (m.2 101)), (102, (m.2 102)), (103, (m.2 103)), (104, (m.2 104)), (105, (m.2 105)), (106, (m.2 106)), (107, (m.2 107)), (108, (m.2 108)), (109, upI (m.2 109) (m.1 25) (m.1 99))]) c N D (by omega) (Ty_mO hT rfl rfl ⟨g687, g689, g691, g693, g695, g697, g661, g680, f28, f64, f69, f70, f71, f72, f73, f74, f75, f99, f100, trivial⟩ ⟨G663, G665, G667, G669, G682, (hT.2.1 47), (hT.2.1 48), (hT.2.1 49), G683, (hT.2.1 65), (hT.2.1 66), (hT.2.1 67), (hT.2.1 68), (hT.2.1 76), (hT.2.1 77), (hT.2.1 78), (hT.2.1 79), (hT.2.1 80), (hT.2.1 81), (hT.2.1 82), (hT.2.1 83), (hT.2.1 84), (hT.2.1 85), (hT.2.1 86), (hT.2.1 87), (hT.2.1 88), (hT.2.1 89), (hT.2.1 90), (hT.2.1 91), (hT.2.1 92), (hT.2.1 101), (hT.2.1 102), (hT.2.1 103), (hT.2.1 104), (hT.2.1 105), (hT.2.1 106), (hT.2.1 107), (hT.2.1 108), G681, trivial⟩) 41 ⟨by decide, by decide⟩ (show 1 ≤ (41 : Int) by omega) (show LxP y686 y688 y690 (m.1 6) y692 by first | exact hLx | (intro h9; exfalso; omega) | (intro h9; have h8 := hLx (by omega); omega))) (fun rr705 k706 => ?_)
        obtain ⟨y707, y709, y711, y713, y715, y717, g708, g710, g712, g714, g716, g718, h719, h720, h721, h722, rfl⟩ := k706
        refine ⟨_, _, rfl, ?_⟩
        refine T_nf2 (st' := []) (l' := [(7, y707), (8, y709), (9, y711), (10, y713), (11, y715), (12, y717), (13, y660), (25, (m.1 25) + 1), (28, (m.1 28)), (64, (m.1 64)), (69, (m.1 69)), (70, (m.1 70)), (71, (m.1 71)), (72, (m.1 72)), (73, (m.1 73)), (74, (m.1 74)), (75, (m.1 75)), (99, (m.1 99)), (100, (m.1 100))]) (a' := [(14, F662), (15, F664), (16, F666), (17, F668), (46, upI (m.2 46) (m.1 25) 0), (47, (m.2 47)), (48, (m.2 48)), (49, (m.2 49)), (50, upI (m.2 50) (m.1 25) 0), (65, (m.2 65)), (66, (m.2 66)), (67, (m.2 67)), (68, (m.2 68)), (76, (m.2 76)), (77, (m.2 77)), (78, (m.2 78)), (79, (m.2 79)), (80, (m.2 80)), (81, (m.2 81)), (82, (m.2 82)), (83, (m.2 83)), (84, (m.2 84)), (85, (m.2 85)), (86, (m.2 86)), (87, (m.2 87)), (88, (m.2 88)), (89, (m.2 89)), (90, (m.2 90)), (91, (m.2 91)), (92, (m.2 92)), (101, (m.2 101)), (102, (m.2 102)), (103, (m.2 103)), (104, (m.2 104)), (105, (m.2 105)), (106, (m.2 106)), (107, (m.2 107)), (108, (m.2 108)), (109, upI (m.2 109) (m.1 25) (m.1 99))]) [7, 8, 9, 10, 11, 12] [] rfl ⟨rfl, rfl, rfl, rfl, rfl, rfl, rfl, rfl, rfl, rfl, rfl, rfl, rfl, rfl, rfl, rfl, rfl, rfl, rfl, rfl, rfl, rfl, rfl, rfl, rfl, rfl, rfl, rfl, rfl, rfl, rfl, rfl, rfl, rfl, rfl, rfl, rfl, rfl, trivial⟩ ⟨rfl, rfl, rfl, rfl, rfl, rfl, rfl, rfl, rfl, rfl, rfl, rfl, rfl, rfl, rfl, rfl, rfl, rfl, rfl, rfl, rfl, rfl, rfl, rfl, rfl, rfl, rfl, rfl, rfl, rfl, rfl, rfl, rfl, rfl, rfl, rfl, rfl, rfl, rfl, rfl, rfl, rfl, rfl, rfl, rfl, rfl, rfl, rfl, rfl, rfl, rfl, rfl, rfl, rfl, rfl, rfl, rfl, rfl, rfl, rfl, rfl, rfl, rfl, rfl, rfl, rfl, rfl, rfl, rfl, rfl, rfl, rfl, rfl, rfl, rfl, rfl, rfl, rfl, trivial⟩ rfl rfl (by decide) (by decide) ?_
        replace h719 : LxP y707 y709 y711 (m.1 6) y713 := h719
        replace h720 : y713 = 0 → y692 = 0 ∧ y686 = (41 : Int) := h720
        replace h721 : y688 ≤ y709 := h721
        replace h722 : y713 = 0 → y688 + y690 ≤ y709 := h722
        have hf723 : 1 ≤ y713 := by omega
        clear h720
        clear h722
        have hLx := h719
        clear g687 g689 g691 g693 g695 g697 hf702 h698 h703 h721
        refine T_ld 143 (.ref 189) rfl (fun _ => rfl) ?_
        refine T_ld 145 (.int (i32 123)) rfl (fun _ => rfl) ?_
        refine T_call 148 232 [.ref 189, .int (i32 123)] [] rfl (fun _ => rfl) rfl (c_need w (mO m [(7, y707), (8, y709), (9, y711), (10, y713), (11, y715), (12, y717), (13, y660), (25, (m.1 25) + 1), (28, (m.1 28)), (64, (m.1 64)), (69, (m.1 69)), (70, (m.1 70)), (71, (m.1 71)), (72, (m.1 72)), (73, (m.1 73)), (74, (m.1 74)), (75, (m.1 75)), (99, (m.1 99)), (100, (m.1 100))] [(14, F662), (15, F664), (16, F666), (17, F668), (46, upI (m.2 46) (m.1 25) 0), (47, (m.2 47)), (48, (m.2 48)), (49, (m.2 49)), (50, upI (m.2 50) (m.1 25) 0), (65, (m.2 65)), (66, (m.2 66)), (67, (m.2 67)), (68, (m.2 68)), (76, (m.2 76)), (77, (m.2 77)), (78, (m.2 78)), (79, (m.2 79)), (80, (m.2 80)), (81, (m.2 81)), (82, (m.2 82)), (83, (m.2 83)), (84, (m.2 84)), (85, (m.2 85)), (86, (m.2 86)), (87, (m.2 87)), (88, (m.2 88)), (89, (m.2 89)), (90, (m.2 90)), (91, (m.2 91)), (92, (m.2 92)), (101, (m.2 101)), (102, (m.2 102)), (103, (m.2 103)), (104, (m.2 104)), (105, (m.2 105)), (106, (m.2 106)), (107, (m.2 107)), (108, (m.2 108)), (109, upI (m.2 109) (m.1 25) (m.1 99))]) c N D (by omega) (Ty_mO hT rfl rfl ⟨g708, g710, g712, g714, g716, g718, g661, g680, f28, f64, f69, f70, f71, f72, f73, f74, f75, f99, f100, trivial⟩ ⟨G663, G665, G667, G669, G682, (hT.2.1 47), (hT.2.1 48), (hT.2.1 49), G683, (hT.2.1 65), (hT.2.1 66), (hT.2.1 67), (hT.2.1 68), (hT.2.1 76), (hT.2.1 77), (hT.2.1 78), (hT.2.1 79), (hT.2.1 80), (hT.2.1 81), (hT.2.1 82), (hT.2.1 83), (hT.2.1 84), (hT.2.1 85), (hT.2.1 86), (hT.2.1 87), (hT.2.1 88), (hT.2.1 89), (hT.2.1 90), (hT.2.1 91), (hT.2.1 92), (hT.2.1 101), (hT.2.1 102), (hT.2.1 103), (hT.2.1 104), (hT.2.1 105), (hT.2.1 106), (hT.2.1 107), (hT.2.1 108), G681, trivial⟩) 123 ⟨by decide, by decide⟩ (show 1 ≤ (123 : Int) by omega) (show LxP y707 y709 y711 (m.1 6) y713 by first | exact hLx | (intro h9; exfalso; omega) | (intro h9; have h8 := hLx (by omega); omega))) (fun rr724 k725 => ?_)
        obtain ⟨y726, y728, y730, y732, y734, y736, g727, g729, g731, g733, g735, g737, h738, h739, h740, h741, rfl⟩ := k725
        refine ⟨_, _, rfl, ?_⟩
        refine T_nf2 (st' := []) (l' := [(7, y726), (8, y728), (9, y730), (10, y732), (11, y734), (12, y736), (13, y660), (25, (m.1 25) + 1), (28, (m.1 28)), (64, (m.1 64)), (69, (m.1 69)), (70, (m.1 70)), (71, (m.1 71)), (72, (m.1 72)), (73, (m.1 73)), (74, (m.1 74)), (75, (m.1 75)), (99, (m.1 99)), (100, (m.1 100))]) (a' := [(14, F662), (15, F664), (16, F666), (17, F668), (46, upI (m.2 46) (m.1 25) 0), (47, (m.2 47)), (48, (m.2 48)), (49, (m.2 49)), (50, upI (m.2 50) (m.1 25) 0), (65, (m.2 65)), (66, (m.2 66)), (67, (m.2 67)), (68, (m.2 68)), (76, (m.2 76)), (77, (m.2 77)), (78, (m.2 78)), (79, (m.2 79)), (80, (m.2 80)), (81, (m.2 81)), (82, (m.2 82)), (83, (m.2 83)), (84, (m.2 84)), (85, (m.2 85)), (86, (m.2 86)), (87, (m.2 87)), (88, (m.2 88)), (89, (m.2 89)), (90, (m.2 90)), (91, (m.2 91)), (92, (m.2 92)), (101, (m.2 101)), (102, (m.2 102)), (103, (m.2 103)), (104, (m.2 104)), (105, (m.2 105)), (106, (m.2 106)), (107, (m.2 107)), (108, (m.2 108)), (109, upI (m.2 109) (m.1 25) (m.1 99))]) [7, 8, 9, 10, 11, 12] [] rfl ⟨rfl, rfl, rfl, rfl, rfl, rfl, rfl, rfl, rfl, rfl, rfl, rfl, rfl, rfl, rfl, rfl, rfl, rfl, rfl, rfl, rfl, rfl, rfl, rfl, rfl, rfl, rfl, rfl, rfl, rfl, rfl, rfl, rfl, rfl, rfl, rfl, rfl, rfl, trivial⟩ ⟨rfl, rfl, rfl, rfl, rfl, rfl, rfl, rfl, rfl, rfl, rfl, rfl, rfl, rfl, rfl, rfl, rfl, rfl, rfl, rfl, rfl, rfl, rfl, rfl, rfl, rfl, rfl, rfl, rfl, rfl, rfl, rfl, rfl, rfl, rfl, rfl, rfl, rfl, rfl, rfl, rfl, rfl, rfl, rfl, rfl, rfl, rfl, rfl, rfl, rfl, rfl, rfl, rfl, rfl, rfl, rfl, rfl, rfl, rfl, rfl, rfl, rfl, rfl, rfl, rfl, rfl, rfl, rfl, rfl, rfl, rfl, rfl, rfl, rfl, rfl, rfl, rfl, rfl, trivial⟩ rfl rfl (by decide) (by decide) ?_
        replace h738 : LxP y726 y728 y730 (m.1 6) y732 := h738
        replace h739 : y732 = 0 → y713 = 0 ∧ y707 = (123 : Int) := h739
        replace h740 : y709 ≤ y728 := h740
        replace h741 : y732 = 0 → y709 + y711 ≤ y728 := h741
        have hf742 : 1 ≤ y732 := by omega
        clear h739
        clear h741
        have hLx := h738
        clear g708 g710 g712 g714 g716 g718 hf723 h719 h740
        refine T_ld 149 (.ref 189) rfl (fun _ => rfl) ?_
        refine T_ld 150 (.int (i32 (m.1 25))) rfl (fun _ => rfl) ?_
        refine T_pf (l' := [(7, y726), (8, y728), (9, y730), (10, y732), (11, y734), (12, y736), (13, y660), (25, (m.1 25) + 1), (28, (m.1 28)), (64, (m.1 25)), (69, (m.1 69)), (70, (m.1 70)), (71, (m.1 71)), (72, (m.1 72)), (73, (m.1 73)), (74, (m.1 74)), (75, (m.1 75)), (99, (m.1 99)), (100, (m.1 100))]) 153 (m.1 25) rfl rfl rfl rfl rfl rfl ?_
        have g743 : (-1) ≤ (m.1 25) ∧ (m.1 25) ≤ 15 := ⟨by omega, by omega⟩
        refine T_gf 157 (.int (i32 y732)) rfl rfl rfl rfl rfl rfl ?_
        refine T_if 211 160 rfl rfl rfl (r32 (by omega) (by omega)) (fun (h744 : y732 ≠ 0) => ?_) (fun (h744 : ¬ (y732 ≠ 0)) => by exfalso; omega)
        refine T_ld 212 (.ref 189) rfl (fun _ => rfl) ?_
        refine T_ld 213 (.int (i32 (-1))) rfl (fun _ => rfl) ?_
        refine T_pf (l' := [(7, y726), (8, y728), (9, y730), (10, y732), (11, y734), (12, y736), (13, y660), (25, (m.1 25) + 1), (28, (m.1 28)), (64, (-1)), (69, (m.1 69)), (70, (m.1 70)), (71, (m.1 71)), (72, (m.1 72)), (73, (m.1 73)), (74, (m.1 74)), (75, (m.1 75)), (99, (m.1 99)), (100, (m.1 100))]) 216 (-1) rfl rfl rfl rfl rfl rfl ?_
        refine T_ld 217 (.ref 189) rfl (fun _ => rfl) ?_
        refine T_ld 219 (.int (i32 125)) rfl (fun _ => rfl) ?_
        refine T_call 222 232 [.ref 189, .int (i32 125)] [] rfl (fun _ => rfl) rfl (c_need w (mO m [(7, y726), (8, y728), (9, y730), (10, y732), (11, y734), (12, y736), (13, y660), (25, (m.1 25) + 1), (28, (m.1 28)), (64, (-1)), (69, (m.1 69)), (70, (m.1 70)), (71, (m.1 71)), (72, (m.1 72)), (73, (m.1 73)), (74, (m.1 74)), (75, (m.1 75)), (99, (m.1 99)), (100, (m.1 100))] [(14, F662), (15, F664), (16, F666), (17, F668), (46, upI (m.2 46) (m.1 25) 0), (47, (m.2 47)), (48, (m.2 48)), (49, (m.2 49)), (50, upI (m.2 50) (m.1 25) 0), (65, (m.2 65)), (66, (m.2 66)), (67, (m.2 67)), (68, (m.2 68)), (76, (m.2 76)), (77, (m.2 77)), (78, (m.2 78)), (79, (m.2 79)), (80, (m.2 80)), (81, (m.2 81)), (82, (m.2 82)), (83, (m.2 83)), (84, (m.2 84)), (85, (m.2 85)), (86, (m.2 86)), (87, (m.2 87)), (88, (m.2 88)), (89, (m.2 89)), (90, (m.2 90)), (91, (m.2 91)), (92, (m.2 92)), (101, (m.2 101)), (102, (m.2 102)), (103, (m.2 103)), (104, (m.2 104)), (105, (m.2 105)), (106, (m.2 106)), (107, (m.2 107)), (108, (m.2 108)), (109, upI (m.2 109) (m.1 25) (m.1 99))]) c N D (by omega) (Ty_mO hT rfl rfl ⟨g727, g729, g731, g733, g735, g737, g661, g680, f28, ⟨(by omega : ((-1) : Int) ≤ (-1)), (by omega : ((-1) : Int) ≤ 15)⟩, f69, f70, f71, f72, f73, f74, f75, f99, f100, trivial⟩ ⟨G663, G665, G667, G669, G682, (hT.2.1 47), (hT.2.1 48), (hT.2.1 49), G683, (hT.2.1 65), (hT.2.1 66), (hT.2.1 67), (hT.2.1 68), (hT.2.1 76), (hT.2.1 77), (hT.2.1 78), (hT.2.1 79), (hT.2.1 80), (hT.2.1 81), (hT.2.1 82), (hT.2.1 83), (hT.2.1 84), (hT.2.1 85), (hT.2.1 86), (hT.2.1 87), (hT.2.1 88), (hT.2.1 89), (hT.2.1 90), (hT.2.1 91), (hT.2.1 92), (hT.2.1 101), (hT.2.1 102), (hT.2.1 103), (hT.2.1 104), (hT.2.1 105), (hT.2.1 106), (hT.2.1 107), (hT.2.1 108), G681, trivial⟩) 125 ⟨by decide, by decide⟩ (show 1 ≤ (125 : Int) by omega) (show LxP y726 y728 y730 (m.1 6) y732 by first | exact hLx | (intro h9; exfalso; omega) | (intro h9; have h8 := hLx (by omega); omega))) (fun rr745 k746 => ?_)
        obtain ⟨y747, y749, y751, y753, y755, y757, g748, g750, g752, g754, g756, g758, h759, h760, h761, h762, rfl⟩ := k746
        refine ⟨_, _, rfl, ?_⟩
        refine T_nf2 (st' := []) (l' := [(7, y747), (8, y749), (9, y751), (10, y753), (11, y755), (12, y757), (13, y660), (25, (m.1 25) + 1), (28, (m.1 28)), (64, (-1)), (69, (m.1 69)), (70, (m.1 70)), (71, (m.1 71)), (72, (m.1 72)), (73, (m.1 73)), (74, (m.1 74)), (75, (m.1 75)), (99, (m.1 99)), (100, (m.1 100))]) (a' := [(14, F662), (15, F664), (16, F666), (17, F668), (46, upI (m.2 46) (m.1 25) 0), (47, (m.2 47)), (48, (m.2 48)), (49, (m.2 49)), (50, upI (m.2 50) (m.1 25) 0), (65, (m.2 65)), (66, (m.2 66)), (67, (m.2 67)), (68, (m.2 68)), (76, (m.2 76)), (77, (m.2 77)), (78, (m.2 78)), (79, (m.2 79)), (80, (m.2 80)), (81, (m.2 81)), (82, (m.2 82)), (83, (m.2 83)), (84, (m.2 84)), (85, (m.2 85)), (86, (m.2 86)), (87, (m.2 87)), (88, (m.2 88)), (89, (m.2 89)), (90, (m.2 90)), (91, (m.2 91)), (92, (m.2 92)), (101, (m.2 101)), (102, (m.2 102)), (103, (m.2 103)), (104, (m.2 104)), (105, (m.2 105)), (106, (m.2 106)), (107, (m.2 107)), (108, (m.2 108)), (109, upI (m.2 109) (m.1 25) (m.1 99))]) [7, 8, 9, 10, 11, 12] [] rfl ⟨rfl, rfl, rfl, rfl, rfl, rfl, rfl, rfl, rfl, rfl, rfl, rfl, rfl, rfl, rfl, rfl, rfl, rfl, rfl, rfl, rfl, rfl, rfl, rfl, rfl, rfl, rfl, rfl, rfl, rfl, rfl, rfl, rfl, rfl, rfl, rfl, rfl, rfl, trivial⟩ ⟨rfl, rfl, rfl, rfl, rfl, rfl, rfl, rfl, rfl, rfl, rfl, rfl, rfl, rfl, rfl, rfl, rfl, rfl, rfl, rfl, rfl, rfl, rfl, rfl, rfl, rfl, rfl, rfl, rfl, rfl, rfl, rfl, rfl, rfl, rfl, rfl, rfl, rfl, rfl, rfl, rfl, rfl, rfl, rfl, rfl, rfl, rfl, rfl, rfl, rfl, rfl, rfl, rfl, rfl, rfl, rfl, rfl, rfl, rfl, rfl, rfl, rfl, rfl, rfl, rfl, rfl, rfl, rfl, rfl, rfl, rfl, rfl, rfl, rfl, rfl, rfl, rfl, rfl, trivial⟩ rfl rfl (by decide) (by decide) ?_
        replace h759 : LxP y747 y749 y751 (m.1 6) y753 := h759
        replace h760 : y753 = 0 → y732 = 0 ∧ y726 = (125 : Int) := h760
        replace h761 : y728 ≤ y749 := h761
        replace h762 : y753 = 0 → y728 + y730 ≤ y749 := h762
        have hf763 : 1 ≤ y753 := by omega
        clear h760
        clear h762
        have hLx := h759
        clear g727 g729 g731 g733 g735 g737 hf742 h738 h744 h761
        refine T_ret rfl (fun _ => rfl) ?_
        exact ⟨(mO m [(7, y747), (8, y749), (9, y751), (10, y753), (11, y755), (12, y757), (13, y660), (25, (m.1 25) + 1), (28, (m.1 28)), (64, (-1)), (69, (m.1 69)), (70, (m.1 70)), (71, (m.1 71)), (72, (m.1 72)), (73, (m.1 73)), (74, (m.1 74)), (75, (m.1 75)), (99, (m.1 99)), (100, (m.1 100))] [(14, F662), (15, F664), (16, F666), (17, F668), (46, upI (m.2 46) (m.1 25) 0), (47, (m.2 47)), (48, (m.2 48)), (49, (m.2 49)), (50, upI (m.2 50) (m.1 25) 0), (65, (m.2 65)), (66, (m.2 66)), (67, (m.2 67)), (68, (m.2 68)), (76, (m.2 76)), (77, (m.2 77)), (78, (m.2 78)), (79, (m.2 79)), (80, (m.2 80)), (81, (m.2 81)), (82, (m.2 82)), (83, (m.2 83)), (84, (m.2 84)), (85, (m.2 85)), (86, (m.2 86)), (87, (m.2 87)), (88, (m.2 88)), (89, (m.2 89)), (90, (m.2 90)), (91, (m.2 91)), (92, (m.2 92)), (101, (m.2 101)), (102, (m.2 102)), (103, (m.2 103)), (104, (m.2 104)), (105, (m.2 105)), (106, (m.2 106)), (107, (m.2 107)), (108, (m.2 108)), (109, upI (m.2 109) (m.1 25) (m.1 99))]), (Ty_mO hT rfl rfl ⟨g748, g750, g752, g754, g756, g758, g661, g680, f28, ⟨(by omega : ((-1) : Int) ≤ (-1)), (by omega : ((-1) : Int) ≤ 15)⟩, f69, f70, f71, f72, f73, f74, f75, f99, f100, trivial⟩ ⟨G663, G665, G667, G669, G682, (hT.2.1 47), (hT.2.1 48), (hT.2.1 49), G683, (hT.2.1 65), (hT.2.1 66), (hT.2.1 67), (hT.2.1 68), (hT.2.1 76), (hT.2.1 77), (hT.2.1 78), (hT.2.1 79), (hT.2.1 80), (hT.2.1 81), (hT.2.1 82), (hT.2.1 83), (hT.2.1 84), (hT.2.1 85), (hT.2.1 86), (hT.2.1 87), (hT.2.1 88), (hT.2.1 89), (hT.2.1 90), (hT.2.1 91), (hT.2.1 92), (hT.2.1 101), (hT.2.1 102), (hT.2.1 103), (hT.2.1 104), (hT.2.1 105), (hT.2.1 106), (hT.2.1 107), (hT.2.1 108), G681, trivial⟩), (show y753 = 0 → (m.1 10) = 0 by omega), (show LxP y747 y749 y751 (m.1 6) y753 by first | (first | exact hLx | exact (fun _ => hLx (by omega)) | (intro h9; exfalso; omega)) | (exfalso; omega)), (show ∀ k, F662 k + F664 k ≤ 4000 by first | (exact hNM) | (exfalso; omega)), (show ∀ k, (m.2 47) k + (m.2 48) k ≤ 4000 by first | (exact hPA) | (exfalso; omega)), (fun (h : y753 = 0) => absurd h (by omega)), rfl⟩
      · skip
        refine T_ret rfl (fun _ => rfl) ?_
        exact ⟨(mO m [(7, y648), (8, y650), (9, y652), (10, y654), (11, y656), (12, y658), (13, y660), (25, (m.1 25)), (28, (m.1 28)), (64, (m.1 64)), (69, (m.1 69)), (70, (m.1 70)), (71, (m.1 71)), (72, (m.1 72)), (73, (m.1 73)), (74, (m.1 74)), (75, (m.1 75)), (99, (m.1 99)), (100, (m.1 100))] [(14, F662), (15, F664), (16, F666), (17, F668), (46, (m.2 46)), (47, (m.2 47)), (48, (m.2 48)), (49, (m.2 49)), (50, (m.2 50)), (65, (m.2 65)), (66, (m.2 66)), (67, (m.2 67)), (68, (m.2 68)), (76, (m.2 76)), (77, (m.2 77)), (78, (m.2 78)), (79, (m.2 79)), (80, (m.2 80)), (81, (m.2 81)), (82, (m.2 82)), (83, (m.2 83)), (84, (m.2 84)), (85, (m.2 85)), (86, (m.2 86)), (87, (m.2 87)), (88, (m.2 88)), (89, (m.2 89)), (90, (m.2 90)), (91, (m.2 91)), (92, (m.2 92)), (101, (m.2 101)), (102, (m.2 102)), (103, (m.2 103)), (104, (m.2 104)), (105, (m.2 105)), (106, (m.2 106)), (107, (m.2 107)), (108, (m.2 108)), (109, (m.2 109))]), (Ty_mO hT rfl rfl ⟨g649, g651, g653, g655, g657, g659, g661, f25, f28, f64, f69, f70, f71, f72, f73, f74, f75, f99, f100, trivial⟩ ⟨G663, G665, G667, G669, (hT.2.1 46), (hT.2.1 47), (hT.2.1 48), (hT.2.1 49), (hT.2.1 50), (hT.2.1 65), (hT.2.1 66), (hT.2.1 67), (hT.2.1 68), (hT.2.1 76), (hT.2.1 77), (hT.2.1 78), (hT.2.1 79), (hT.2.1 80), (hT.2.1 81), (hT.2.1 82), (hT.2.1 83), (hT.2.1 84), (hT.2.1 85), (hT.2.1 86), (hT.2.1 87), (hT.2.1 88), (hT.2.1 89), (hT.2.1 90), (hT.2.1 91), (hT.2.1 92), (hT.2.1 101), (hT.2.1 102), (hT.2.1 103), (hT.2.1 104), (hT.2.1 105), (hT.2.1 106), (hT.2.1 107), (hT.2.1 108), (hT.2.1 109), trivial⟩), (show y654 = 0 → (m.1 10) = 0 by omega), (show LxP y648 y650 y652 (m.1 6) y654 by first | (first | exact hLx | exact (fun _ => hLx (by omega)) | (intro h9; exfalso; omega)) | (exfalso; omega)), (show ∀ k, F662 k + F664 k ≤ 4000 by first | (exact hNM) | (exfalso; omega)), (show ∀ k, (m.2 47) k + (m.2 48) k ≤ 4000 by first | (exact hPA) | (exfalso; omega)), (fun (h : y654 = 0) => absurd h (by omega)), rfl⟩
  · skip
    clear hC
    refine T_ld 1 (.ref 189) rfl (fun _ => rfl) ?_
    refine T_call 4 212 [.ref 189] [] rfl (fun _ => rfl) rfl (c_next w (mO m [(7, (m.1 7)), (8, (m.1 8)), (9, (m.1 9)), (10, (m.1 10)), (11, (m.1 11)), (12, (m.1 12)), (13, (m.1 13)), (25, (m.1 25)), (28, (m.1 28)), (64, (m.1 64)), (69, (m.1 69)), (70, (m.1 70)), (71, (m.1 71)), (72, (m.1 72)), (73, (m.1 73)), (74, (m.1 74)), (75, (m.1 75)), (99, (m.1 99)), (100, (m.1 100))] [(14, (m.2 14)), (15, (m.2 15)), (16, (m.2 16)), (17, (m.2 17)), (46, (m.2 46)), (47, (m.2 47)), (48, (m.2 48)), (49, (m.2 49)), (50, (m.2 50)), (65, (m.2 65)), (66, (m.2 66)), (67, (m.2 67)), (68, (m.2 68)), (76, (m.2 76)), (77, (m.2 77)), (78, (m.2 78)), (79, (m.2 79)), (80, (m.2 80)), (81, (m.2 81)), (82, (m.2 82)), (83, (m.2 83)), (84, (m.2 84)), (85, (m.2 85)), (86, (m.2 86)), (87, (m.2 87)), (88, (m.2 88)), (89, (m.2 89)), (90, (m.2 90)), (91, (m.2 91)), (92, (m.2 92)), (101, (m.2 101)), (102, (m.2 102)), (103, (m.2 103)), (104, (m.2 104)), (105, (m.2 105)), (106, (m.2 106)), (107, (m.2 107)), (108, (m.2 108)), (109, (m.2 109))]) c N D (by omega) (Ty_mO hT rfl rfl ⟨f7, f8, f9, f10, f11, f12, f13, f25, f28, f64, f69, f70, f71, f72, f73, f74, f75, f99, f100, trivial⟩ ⟨(hT.2.1 14), (hT.2.1 15), (hT.2.1 16), (hT.2.1 17), (hT.2.1 46), (hT.2.1 47), (hT.2.1 48), (hT.2.1 49), (hT.2.1 50), (hT.2.1 65), (hT.2.1 66), (hT.2.1 67), (hT.2.1 68), (hT.2.1 76), (hT.2.1 77), (hT.2.1 78), (hT.2.1 79), (hT.2.1 80), (hT.2.1 81), (hT.2.1 82), (hT.2.1 83), (hT.2.1 84), (hT.2.1 85), (hT.2.1 86), (hT.2.1 87), (hT.2.1 88), (hT.2.1 89), (hT.2.1 90), (hT.2.1 91), (hT.2.1 92), (hT.2.1 101), (hT.2.1 102), (hT.2.1 103), (hT.2.1 104), (hT.2.1 105), (hT.2.1 106), (hT.2.1 107), (hT.2.1 108), (hT.2.1 109), trivial⟩) (show (m.1 10) = 0 → (m.1 8) + (m.1 9) ≤ (m.1 6) by first | omega | (intro h9; have h8 := hLx h9; omega))) (fun rr764 k765 => ?_)
    obtain ⟨y766, y768, y770, y772, y774, y776, g767, g769, g771, g773, g775, g777, h778, h779, h780, h781, rfl⟩ := k765
    refine ⟨_, _, rfl, ?_⟩
    refine T_nf2 (st' := []) (l' := [(7, y766), (8, y768), (9, y770), (10, y772), (11, y774), (12, y776), (13, (m.1 13)), (25, (m.1 25)), (28, (m.1 28)), (64, (m.1 64)), (69, (m.1 69)), (70, (m.1 70)), (71, (m.1 71)), (72, (m.1 72)), (73, (m.1 73)), (74, (m.1 74)), (75, (m.1 75)), (99, (m.1 99)), (100, (m.1 100))]) (a' := [(14, (m.2 14)), (15, (m.2 15)), (16, (m.2 16)), (17, (m.2 17)), (46, (m.2 46)), (47, (m.2 47)), (48, (m.2 48)), (49, (m.2 49)), (50, (m.2 50)), (65, (m.2 65)), (66, (m.2 66)), (67, (m.2 67)), (68, (m.2 68)), (76, (m.2 76)), (77, (m.2 77)), (78, (m.2 78)), (79, (m.2 79)), (80, (m.2 80)), (81, (m.2 81)), (82, (m.2 82)), (83, (m.2 83)), (84, (m.2 84)), (85, (m.2 85)), (86, (m.2 86)), (87, (m.2 87)), (88, (m.2 88)), (89, (m.2 89)), (90, (m.2 90)), (91, (m.2 91)), (92, (m.2 92)), (101, (m.2 101)), (102, (m.2 102)), (103, (m.2 103)), (104, (m.2 104)), (105, (m.2 105)), (106, (m.2 106)), (107, (m.2 107)), (108, (m.2 108)), (109, (m.2 109))]) [7, 8, 9, 10, 11, 12] [] rfl ⟨rfl, rfl, rfl, rfl, rfl, rfl, rfl, rfl, rfl, rfl, rfl, rfl, rfl, rfl, rfl, rfl, rfl, rfl, rfl, rfl, rfl, rfl, rfl, rfl, rfl, rfl, rfl, rfl, rfl, rfl, rfl, rfl, rfl, rfl, rfl, rfl, rfl, rfl, trivial⟩ ⟨rfl, rfl, rfl, rfl, rfl, rfl, rfl, rfl, rfl, rfl, rfl, rfl, rfl, rfl, rfl, rfl, rfl, rfl, rfl, rfl, rfl, rfl, rfl, rfl, rfl, rfl, rfl, rfl, rfl, rfl, rfl, rfl, rfl, rfl, rfl, rfl, rfl, rfl, rfl, rfl, rfl, rfl, rfl, rfl, rfl, rfl, rfl, rfl, rfl, rfl, rfl, rfl, rfl, rfl, rfl, rfl, rfl, rfl, rfl, rfl, rfl, rfl, rfl, rfl, rfl, rfl, rfl, rfl, rfl, rfl, rfl, rfl, rfl, rfl, rfl, rfl, rfl, rfl, trivial⟩ rfl rfl (by decide) (by decide) ?_
    replace h778 : LxP y766 y768 y770 (m.1 6) y772 := h778
    replace h779 : y772 = 0 → (m.1 10) = 0 := h779
    replace h780 : (m.1 8) ≤ y768 := h780
    replace h781 : y772 = 0 → (m.1 8) + (m.1 9) ≤ y768 := h781
    have hf782 : 1 ≤ y772 := by omega
    clear h779
    clear h781
    have hLx := h778
    refine T_ld 5 (.ref 189) rfl (fun _ => rfl) ?_
    refine T_ld 7 (.int (i32 6)) rfl (fun _ => rfl) ?_
    refine T_gf 11 (.int (i32 (m.1 25))) rfl rfl rfl rfl rfl rfl ?_
    refine T_ld 13 (.int (i32 16)) rfl (fun _ => rfl) ?_
    refine T_call 16 225 [.ref 189, .int (i32 6), .int (i32 (m.1 25)), .int (i32 16)] [] rfl (fun _ => rfl) rfl (c_newName w (mO m [(7, y766), (8, y768), (9, y770), (10, y772), (11, y774), (12, y776), (13, (m.1 13)), (25, (m.1 25)), (28, (m.1 28)), (64, (m.1 64)), (69, (m.1 69)), (70, (m.1 70)), (71, (m.1 71)), (72, (m.1 72)), (73, (m.1 73)), (74, (m.1 74)), (75, (m.1 75)), (99, (m.1 99)), (100, (m.1 100))] [(14, (m.2 14)), (15, (m.2 15)), (16, (m.2 16)), (17, (m.2 17)), (46, (m.2 46)), (47, (m.2 47)), (48, (m.2 48)), (49, (m.2 49)), (50, (m.2 50)), (65, (m.2 65)), (66, (m.2 66)), (67, (m.2 67)), (68, (m.2 68)), (76, (m.2 76)), (77, (m.2 77)), (78, (m.2 78)), (79, (m.2 79)), (80, (m.2 80)), (81, (m.2 81)), (82, (m.2 82)), (83, (m.2 83)), (84, (m.2 84)), (85, (m.2 85)), (86, (m.2 86)), (87, (m.2 87)), (88, (m.2 88)), (89, (m.2 89)), (90, (m.2 90)), (91, (m.2 91)), (92, (m.2 92)), (101, (m.2 101)), (102, (m.2 102)), (103, (m.2 103)), (104, (m.2 104)), (105, (m.2 105)), (106, (m.2 106)), (107, (m.2 107)), (108, (m.2 108)), (109, (m.2 109))]) c N D (by omega) (Ty_mO hT rfl rfl ⟨g767, g769, g771, g773, g775, g777, f13, f25, f28, f64, f69, f70, f71, f72, f73, f74, f75, f99, f100, trivial⟩ ⟨(hT.2.1 14), (hT.2.1 15), (hT.2.1 16), (hT.2.1 17), (hT.2.1 46), (hT.2.1 47), (hT.2.1 48), (hT.2.1 49), (hT.2.1 50), (hT.2.1 65), (hT.2.1 66), (hT.2.1 67), (hT.2.1 68), (hT.2.1 76), (hT.2.1 77), (hT.2.1 78), (hT.2.1 79), (hT.2.1 80), (hT.2.1 81), (hT.2.1 82), (hT.2.1 83), (hT.2.1 84), (hT.2.1 85), (hT.2.1 86), (hT.2.1 87), (hT.2.1 88), (hT.2.1 89), (hT.2.1 90), (hT.2.1 91), (hT.2.1 92), (hT.2.1 101), (hT.2.1 102), (hT.2.1 103), (hT.2.1 104), (hT.2.1 105), (hT.2.1 106), (hT.2.1 107), (hT.2.1 108), (hT.2.1 109), trivial⟩) 6 (m.1 25) 16 ⟨by decide, by decide⟩ (r32 (by omega) (by omega)) ⟨by decide, by decide⟩ (show LxP y766 y768 y770 (m.1 6) y772 by first | exact hLx | (intro h9; exfalso; omega) | (intro h9; have h8 := hLx (by omega); omega)) (show ∀ k, (m.2 14) k + (m.2 15) k ≤ 4000 by first | exact p1 | exact hNM) (show y772 = 0 → (m.1 13) ≤ 119 by omega) (show 1 ≤ (6 : Int) ∧ (6 : Int) ≤ 7 by omega) (show 0 ≤ (m.1 25) ∧ ((m.1 25) ≠ (16 : Int) → (m.1 25) ≤ 15) by omega)) (fun rr783 k784 => ?_)
    obtain ⟨y785, y787, y789, y791, y793, y795, y797, F799, F801, F803, F805, nn, g786, g788, g790, g792, g794, g796, g798, G800, G802, G804, G806, g807, h808, h809, h810, h811, h812, h813, h814, rfl⟩ := k784
    refine ⟨_, _, rfl, ?_⟩
    refine T_nf2 (st' := [.int (i32 nn)]) (l' := [(7, y785), (8, y787), (9, y789), (10, y791), (11, y793), (12, y795), (13, y797), (25, (m.1 25)), (28, (m.1 28)), (64, (m.1 64)), (69, (m.1 69)), (70, (m.1 70)), (71, (m.1 71)), (72, (m.1 72)), (73, (m.1 73)), (74, (m.1 74)), (75, (m.1 75)), (99, (m.1 99)), (100, (m.1 100))]) (a' := [(14, F799), (15, F801), (16, F803), (17, F805), (46, (m.2 46)), (47, (m.2 47)), (48, (m.2 48)), (49, (m.2 49)), (50, (m.2 50)), (65, (m.2 65)), (66, (m.2 66)), (67, (m.2 67)), (68, (m.2 68)), (76, (m.2 76)), (77, (m.2 77)), (78, (m.2 78)), (79, (m.2 79)), (80, (m.2 80)), (81, (m.2 81)), (82, (m.2 82)), (83, (m.2 83)), (84, (m.2 84)), (85, (m.2 85)), (86, (m.2 86)), (87, (m.2 87)), (88, (m.2 88)), (89, (m.2 89)), (90, (m.2 90)), (91, (m.2 91)), (92, (m.2 92)), (101, (m.2 101)), (102, (m.2 102)), (103, (m.2 103)), (104, (m.2 104)), (105, (m.2 105)), (106, (m.2 106)), (107, (m.2 107)), (108, (m.2 108)), (109, (m.2 109))]) [7, 8, 9, 10, 11, 12, 13] [14, 15, 16, 17] rfl ⟨rfl, rfl, rfl, rfl, rfl, rfl, rfl, rfl, rfl, rfl, rfl, rfl, rfl, rfl, rfl, rfl, rfl, rfl, rfl, rfl, rfl, rfl, rfl, rfl, rfl, rfl, rfl, rfl, rfl, rfl, rfl, rfl, rfl, rfl, rfl, rfl, rfl, rfl, trivial⟩ ⟨rfl, rfl, rfl, rfl, rfl, rfl, rfl, rfl, rfl, rfl, rfl, rfl, rfl, rfl, rfl, rfl, rfl, rfl, rfl, rfl, rfl, rfl, rfl, rfl, rfl, rfl, rfl, rfl, rfl, rfl, rfl, rfl, rfl, rfl, rfl, rfl, rfl, rfl, rfl, rfl, rfl, rfl, rfl, rfl, rfl, rfl, rfl, rfl, rfl, rfl, rfl, rfl, rfl, rfl, rfl, rfl, rfl, rfl, rfl, rfl, rfl, rfl, rfl, rfl, rfl, rfl, rfl, rfl, rfl, rfl, rfl, rfl, rfl, rfl, rfl, rfl, rfl, rfl, trivial⟩ rfl rfl (by decide) (by decide) ?_
    obtain ⟨g807a, g807b⟩ := g807
    replace h808 : LxP y785 y787 y789 (m.1 6) y791 := h808
    replace h809 : y768 ≤ y787 := h809
    replace h810 : y791 = 0 → y772 = 0 ∧ y768 + y770 ≤ y787 := h810
    replace h811 : y791 = 0 → nn = 1 ∧ y766 = 1 := h811
    replace h812 : nn = 1 → (m.1 25) ≠ (16 : Int) := h812
    replace h813 : ∀ k, F799 k + F801 k ≤ 4000 := h813
    replace h814 : (nn = 1 ∧ y772 = 0 ∧ y797 = (m.1 13) + 1 ∧ F799 = upI (m.2 14) (m.1 13) y768 ∧ F801 = upI (m.2 15) (m.1 13) y770 ∧ F803 = upI (m.2 16) (m.1 13) (6 : Int) ∧ F805 = upI (m.2 17) (m.1 13) (m.1 25)) ∨ (nn = 0 ∧ 0 < y791 ∧ y797 = (m.1 13) ∧ F799 = (m.2 14) ∧ F801 = (m.2 15) ∧ F803 = (m.2 16) ∧ F805 = (m.2 17)) := h814
    have hf815 : 1 ≤ y791 := by omega
    clear h810
    clear h811
    have hLx := h808
    have hNM := h813
    have hN := h814
    clear g767 g769 g771 g773 g775 g777 hf782 h778 h780 h809 h814
    refine T_if 20 19 rfl rfl rfl (r32 (by omega) (by omega)) (fun (h816 : nn ≠ 0) => ?_) (fun (h816 : ¬ (nn ≠ 0)) => ?_)
    · skip
      refine T_gf 24 (.int (i32 (m.1 25))) rfl rfl rfl rfl rfl rfl ?_
      refine T_sto 25 [(1, .int (i32 (m.1 25))), (0, .ref 189)] rfl (fun _ => rfl) ?_
      refine T_ld 26 (.ref 189) rfl (fun _ => rfl) ?_
      refine T_ld 27 (.ref 189) rfl (fun _ => rfl) ?_
      refine T_gf1 30 (.int (i32 (m.1 25))) rfl rfl rfl rfl ?_
      refine T_ld 31 (.int (i32 1)) rfl (fun _ => rfl) ?_
      refine T_iadd 32 rfl rfl ?_
      refine T_pf (l' := [(7, y785), (8, y787), (9, y789), (10, y791), (11, y793), (12, y795), (13, y797), (25, (m.1 25) + 1), (28, (m.1 28)), (64, (m.1 64)), (69, (m.1 69)), (70, (m.1 70)), (71, (m.1 71)), (72, (m.1 72)), (73, (m.1 73)), (74, (m.1 74)), (75, (m.1 75)), (99, (m.1 99)), (100, (m.1 100))]) 35 ((m.1 25) + 1) rfl rfl rfl rfl rfl rfl ?_
      have g817 : 0 ≤ (m.1 25) + 1 ∧ (m.1 25) + 1 ≤ 16 := ⟨by omega, by omega⟩
      refine T_gf 39 (.ref 269) rfl rfl rfl rfl rfl rfl ?_
      refine T_ld 40 (.int (i32 (m.1 25))) rfl (fun _ => rfl) ?_
      refine T_gf 44 (.int (i32 (m.1 99))) rfl rfl rfl rfl rfl rfl ?_
      have G818 : ∀ j, 0 ≤ (upI (m.2 109) (m.1 25) (m.1 99)) j ∧ (upI (m.2 109) (m.1 25) (m.1 99)) j ≤ 192 := upI_rg (hT.2.1 109) ⟨by omega, by omega⟩
      refine T_iast (a' := [(14, F799), (15, F801), (16, F803), (17, F805), (46, (m.2 46)), (47, (m.2 47)), (48, (m.2 48)), (49, (m.2 49)), (50, (m.2 50)), (65, (m.2 65)), (66, (m.2 66)), (67, (m.2 67)), (68, (m.2 68)), (76, (m.2 76)), (77, (m.2 77)), (78, (m.2 78)), (79, (m.2 79)), (80, (m.2 80)), (81, (m.2 81)), (82, (m.2 82)), (83, (m.2 83)), (84, (m.2 84)), (85, (m.2 85)), (86, (m.2 86)), (87, (m.2 87)), (88, (m.2 88)), (89, (m.2 89)), (90, (m.2 90)), (91, (m.2 91)), (92, (m.2 92)), (101, (m.2 101)), (102, (m.2 102)), (103, (m.2 103)), (104, (m.2 104)), (105, (m.2 105)), (106, (m.2 106)), (107, (m.2 107)), (108, (m.2 108)), (109, upI (m.2 109) (m.1 25) (m.1 99))]) 45 109 (m.2 109) rfl rfl rfl (by omega) (show (m.1 25) < (16 : Int) by omega) rfl rfl ?_
      refine T_gf 49 (.ref 216) rfl rfl rfl rfl rfl rfl ?_
      refine T_ld 50 (.int (i32 (m.1 25))) rfl (fun _ => rfl) ?_
      refine T_ld 51 (.int (i32 0)) rfl (fun _ => rfl) ?_
      have G819 : ∀ j, 0 ≤ (upI (m.2 46) (m.1 25) 0) j ∧ (upI (m.2 46) (m.1 25) 0) j ≤ 4 := upI_rg (hT.2.1 46) ⟨by omega, by omega⟩
      refine T_iast (a' := [(14, F799), (15, F801), (16, F803), (17, F805), (46, upI (m.2 46) (m.1 25) 0), (47, (m.2 47)), (48, (m.2 48)), (49, (m.2 49)), (50, (m.2 50)), (65, (m.2 65)), (66, (m.2 66)), (67, (m.2 67)), (68, (m.2 68)), (76, (m.2 76)), (77, (m.2 77)), (78, (m.2 78)), (79, (m.2 79)), (80, (m.2 80)), (81, (m.2 81)), (82, (m.2 82)), (83, (m.2 83)), (84, (m.2 84)), (85, (m.2 85)), (86, (m.2 86)), (87, (m.2 87)), (88, (m.2 88)), (89, (m.2 89)), (90, (m.2 90)), (91, (m.2 91)), (92, (m.2 92)), (101, (m.2 101)), (102, (m.2 102)), (103, (m.2 103)), (104, (m.2 104)), (105, (m.2 105)), (106, (m.2 106)), (107, (m.2 107)), (108, (m.2 108)), (109, upI (m.2 109) (m.1 25) (m.1 99))]) 52 46 (m.2 46) rfl rfl rfl (by omega) (show (m.1 25) < (16 : Int) by omega) rfl rfl ?_
      refine T_gf 56 (.ref 220) rfl rfl rfl rfl rfl rfl ?_
      refine T_ld 57 (.int (i32 (m.1 25))) rfl (fun _ => rfl) ?_
      refine T_ld 58 (.int (i32 0)) rfl (fun _ => rfl) ?_
      have G820 : ∀ j, 0 ≤ (upI (m.2 50) (m.1 25) 0) j ∧ (upI (m.2 50) (m.1 25) 0) j ≤ 13 := upI_rg (hT.2.1 50) ⟨by omega, by omega⟩
      refine T_iast (a' := [(14, F799), (15, F801), (16, F803), (17, F805), (46, upI (m.2 46) (m.1 25) 0), (47, (m.2 47)), (48, (m.2 48)), (49, (m.2 49)), (50, upI (m.2 50) (m.1 25) 0), (65, (m.2 65)), (66, (m.2 66)), (67, (m.2 67)), (68, (m.2 68)), (76, (m.2 76)), (77, (m.2 77)), (78, (m.2 78)), (79, (m.2 79)), (80, (m.2 80)), (81, (m.2 81)), (82, (m.2 82)), (83, (m.2 83)), (84, (m.2 84)), (85, (m.2 85)), (86, (m.2 86)), (87, (m.2 87)), (88, (m.2 88)), (89, (m.2 89)), (90, (m.2 90)), (91, (m.2 91)), (92, (m.2 92)), (101, (m.2 101)), (102, (m.2 102)), (103, (m.2 103)), (104, (m.2 104)), (105, (m.2 105)), (106, (m.2 106)), (107, (m.2 107)), (108, (m.2 108)), (109, upI (m.2 109) (m.1 25) (m.1 99))]) 59 50 (m.2 50) rfl rfl rfl (by omega) (show (m.1 25) < (16 : Int) by omega) rfl rfl ?_
      refine T_ld 60 (.ref 189) rfl (fun _ => rfl) ?_
      refine T_ld 62 (.int (i32 40)) rfl (fun _ => rfl) ?_
      refine T_call 65 232 [.ref 189, .int (i32 40)] [] rfl (fun _ => rfl) rfl (c_need w (mO m [(7, y785), (8, y787), (9, y789), (10, y791), (11, y793), (12, y795), (13, y797), (25, (m.1 25) + 1), (28, (m.1 28)), (64, (m.1 64)), (69, (m.1 69)), (70, (m.1 70)), (71, (m.1 71)), (72, (m.1 72)), (73, (m.1 73)), (74, (m.1 74)), (75, (m.1 75)), (99, (m.1 99)), (100, (m.1 100))] [(14, F799), (15, F801), (16, F803), (17, F805), (46, upI (m.2 46) (m.1 25) 0), (47, (m.2 47)), (48, (m.2 48)), (49, (m.2 49)), (50, upI (m.2 50) (m.1 25) 0), (65, (m.2 65)), (66, (m.2 66)), (67, (m.2 67)), (68, (m.2 68)), (76, (m.2 76)), (77, (m.2 77)), (78, (m.2 78)), (79, (m.2 79)), (80, (m.2 80)), (81, (m.2 81)), (82, (m.2 82)), (83, (m.2 83)), (84, (m.2 84)), (85, (m.2 85)), (86, (m.2 86)), (87, (m.2 87)), (88, (m.2 88)), (89, (m.2 89)), (90, (m.2 90)), (91, (m.2 91)), (92, (m.2 92)), (101, (m.2 101)), (102, (m.2 102)), (103, (m.2 103)), (104, (m.2 104)), (105, (m.2 105)), (106, (m.2 106)), (107, (m.2 107)), (108, (m.2 108)), (109, upI (m.2 109) (m.1 25) (m.1 99))]) c N D (by omega) (Ty_mO hT rfl rfl ⟨g786, g788, g790, g792, g794, g796, g798, g817, f28, f64, f69, f70, f71, f72, f73, f74, f75, f99, f100, trivial⟩ ⟨G800, G802, G804, G806, G819, (hT.2.1 47), (hT.2.1 48), (hT.2.1 49), G820, (hT.2.1 65), (hT.2.1 66), (hT.2.1 67), (hT.2.1 68), (hT.2.1 76), (hT.2.1 77), (hT.2.1 78), (hT.2.1 79), (hT.2.1 80), (hT.2.1 81), (hT.2.1 82), (hT.2.1 83), (hT.2.1 84), (hT.2.1 85), (hT.2.1 86), (hT.2.1 87), (hT.2.1 88), (hT.2.1 89), (hT.2.1 90), (hT.2.1 91), (hT.2.1 92), (hT.2.1 101), (hT.2.1 102), (hT.2.1 103), (hT.2.1 104), (hT.2.1 105), (hT.2.1 106), (hT.2.1 107), (hT.2.1 108), G818, trivial⟩) 40 ⟨by decide, by decide⟩ (show 1 ≤ (40 : Int) by omega) (show LxP y785 y787 y789 (m.1 6) y791 by first | exact hLx | (intro h9; exfalso; omega) | (intro h9; have h8 := hLx (by omega); omega))) (fun rr821 k822 => ?_)
      obtain ⟨y823, y825, y827, y829, y831, y833, g824, g826, g828, g830, g832, g834, h835, h836, h837, h838, rfl⟩ := k822
      refine ⟨_, _, rfl, ?_⟩
      refine T_nf2 (st' := []) (l' := [(7, y823), (8, y825), (9, y827), (10, y829), (11, y831), (12, y833), (13, y797), (25, (m.1 25) + 1), (28, (m.1 28)), (64, (m.1 64)), (69, (m.1 69)), (70, (m.1 70)), (71, (m.1 71)), (72, (m.1 72)), (73, (m.1 73)), (74, (m.1 74)), (75, (m.1 75)), (99, (m.1 99)), (100, (m.1 100))]) (a' := [(14, F799), (15, F801), (16, F803), (17, F805), (46, upI (m.2 46) (m.1 25) 0), (47, (m.2 47)), (48, (m.2 48)), (49, (m.2 49)), (50, upI (m.2 50) (m.1 25) 0), (65, (m.2 65)), (66, (m.2 66)), (67, (m.2 67)), (68, (m.2 68)), (76, (m.2 76)), (77, (m.2 77)), (78, (m.2 78)), (79, (m.2 79)), (80, (m.2 80)), (81, (m.2 81)), (82, (m.2 82)), (83, (m.2 83)), (84, (m.2 84)), (85, (m.2 85)), (86, (m.2 86)), (87, (m.2 87)), (88, (m.2 88)), (89, (m.2 89)), (90, (m.2 90)), (91, (m.2 91)), (92, (m.2 92)), (101, (m.2 101)), (102, (m.2 102)), (103, (m.2 103)), (104, (m.2 104)), (105, (m.2 105)), (106, (m.2 106)), (107, (m.2 107)), (108, (m.2 108)), (109, upI (m.2 109) (m.1 25) (m.1 99))]) [7, 8, 9, 10, 11, 12] [] rfl ⟨rfl, rfl, rfl, rfl, rfl, rfl, rfl, rfl, rfl, rfl, rfl, rfl, rfl, rfl, rfl, rfl, rfl, rfl, rfl, rfl, rfl, rfl, rfl, rfl, rfl, rfl, rfl, rfl, rfl, rfl, rfl, rfl, rfl, rfl, rfl, rfl, rfl, rfl, trivial⟩ ⟨rfl, rfl, rfl, rfl, rfl, rfl, rfl, rfl, rfl, rfl, rfl, rfl, rfl, rfl, rfl, rfl, rfl, rfl, rfl, rfl, rfl, rfl, rfl, rfl, rfl, rfl, rfl, rfl, rfl, rfl, rfl, rfl, rfl, rfl, rfl, rfl, rfl, rfl, rfl, rfl, rfl, rfl, rfl, rfl, rfl, rfl, rfl, rfl, rfl, rfl, rfl, rfl, rfl, rfl, rfl, rfl, rfl, rfl, rfl, rfl, rfl, rfl, rfl, rfl, rfl, rfl, rfl, rfl, rfl, rfl, rfl, rfl, rfl, rfl, rfl, rfl, rfl, rfl, trivial⟩ rfl rfl (by decide) (by decide) ?_
      replace h835 : LxP y823 y825 y827 (m.1 6) y829 := h835
      replace h836 : y829 = 0 → y791 = 0 ∧ y785 = (40 : Int) := h836
      replace h837 : y787 ≤ y825 := h837
      replace h838 : y829 = 0 → y787 + y789 ≤ y825 := h838
      have hf839 : 1 ≤ y829 := by omega
      clear h836
      clear h838
      have hLx := h835
      clear g786 g788 g790 g792 g794 g796 g807a g807b hf815 h808 h812 h816 h837
      refine T_gf 69 (.int (i32 y829)) rfl rfl rfl rfl rfl rfl ?_
      refine T_if 85 72 rfl rfl rfl (r32 (by omega) (by omega)) (fun (h840 : y829 ≠ 0) => ?_) (fun (h840 : ¬ (y829 ≠ 0)) => by exfalso; omega)
      refine T_ld 86 (.int (i32 0)) rfl (fun _ => rfl) ?_
      refine T_sto 87 [(2, .int (i32 0)), (1, .int (i32 (m.1 25))), (0, .ref 189)] rfl (fun _ => rfl) ?_
      refine T_ld 88 (.int (i32 0)) rfl (fun _ => rfl) ?_
      refine T_if 136 91 rfl rfl rfl ⟨by decide, by decide⟩ (fun _ => ?_) (fun h841 => absurd (show (0 : Int) = 0 by decide) h841)
      refine T_ld 137 (.ref 189) rfl (fun _ => rfl) ?_
      refine T_ld 139 (.int (i32 41)) rfl (fun _ => rfl) ?_
      refine T_call 142 232 [.ref 189, .int (i32 41)] [] rfl (fun _ => rfl) rfl (c_need w (mO m [(7, y823), (8, y825), (9, y827), (10, y829), (11, y831), (12, y833), (13, y797), (25, (m.1 25) + 1), (28, (m.1 28)), (64, (m.1 64)), (69, (m.1 69)), (70, (m.1 70)), (71, (m.1 71)), (72, (m.1 72)), (73, (m.1 73)), (74, (m.1 74)), (75, (m.1 75)), (99, (m.1 99)), (100, (m.1 100))] [(14, F799), (15, F801), (16, F803), (17, F805), (46, upI (m.2 46) (m.1 25) 0), (47, (m.2 47)), (48, (m.2 48)), (49, (m.2 49)), (50, upI (m.2 50) (m.1 25) 0), (65, (m.2 65)), (66, (m.2 66)), (67, (m.2 67)), (68, (m.2 68)), (76, (m.2 76)), (77, (m.2 77)), (78, (m.2 78)), (79, (m.2 79)), (80, (m.2 80)), (81, (m.2 81)), (82, (m.2 82)), (83, (m.2 83)), (84, (m.2 84)), (85, (m.2 85)), (86, (m.2 86)), (87, (m.2 87)), (88, (m.2 88)), (89, (m.2 89)), (90, (m.2 90)), (91, (m.2 91)), (92, (m.2 92)), (101, (m.2 101)), (102, (m.2 102)), (103, (m.2 103)), (104, (m.2 104)), (105, (m.2 105)), (106, (m.2 106)), (107, (m.2 107)), (108, (m.2 108)), (109, upI (m.2 109) (m.1 25) (m.1 99))]) c N D (by omega) (Ty_mO hT rfl rfl ⟨g824, g826, g828, g830, g832, g834, g798, g817, f28, f64, f69, f70, f71, f72, f73, f74, f75, f99, f100, trivial⟩ ⟨G800, G802, G804, G806, G819, (hT.2.1 47), (hT.2.1 48), (hT.2.1 49), G820, (hT.2.1 65), (hT.2.1 66), (hT.2.1 67), (hT.2.1 68), (hT.2.1 76), (hT.2.1 77), (hT.2.1 78), (hT.2.1 79), (hT.2.1 80), (hT.2.1 81), (hT.2.1 82), (hT.2.1 83), (hT.2.1 84), (hT.2.1 85), (hT.2.1 86), (hT.2.1 87), (hT.2.1 88), (hT.2.1 89), (hT.2.1 90), (hT.2.1 91), (hT.2.1 92), (hT.2.1 101), (hT.2.1 102), (hT.2.1 103), (hT.2.1 104), (hT.2.1 105), (hT.2.1 106), (hT.2.1 107), (hT.2.1 108), G818, trivial⟩) 41 ⟨by decide, by decide⟩ (show 1 ≤ (41 : Int) by omega) (show LxP y823 y825 y827 (m.1 6) y829 by first | exact hLx | (intro h9; exfalso; omega) | (intro h9; have h8 := hLx (by omega); omega))) (fun rr842 k843 => ?_)
      obtain ⟨y844, y846, y848, y850, y852, y854, g845, g847, g849, g851, g853, g855, h856, h857, h858, h859, rfl⟩ := k843
      refine ⟨_, _, rfl, ?_⟩
      refine T_nf2 (st' := []) (l' := [(7, y844), (8, y846), (9, y848), (10, y850), (11, y852), (12, y854), (13, y797), (25, (m.1 25) + 1), (28, (m.1 28)), (64, (m.1 64)), (69, (m.1 69)), (70, (m.1 70)), (71, (m.1 71)), (72, (m.1 72)), (73, (m.1 73)), (74, (m.1 74)), (75, (m.1 75)), (99, (m.1 99)), (100, (m.1 100))]) (a' := [(14, F799), (15, F801), (16, F803), (17, F805), (46, upI (m.2 46) (m.1 25) 0), (47, (m.2 47)), (48, (m.2 48)), (49, (m.2 49)), (50, upI (m.2 50) (m.1 25) 0), (65, (m.2 65)), (66, (m.2 66)), (67, (m.2 67)), (68, (m.2 68)), (76, (m.2 76)), (77, (m.2 77)), (78, (m.2 78)), (79, (m.2 79)), (80, (m.2 80)), (81, (m.2 81)), (82, (m.2 82)), (83, (m.2 83)), (84, (m.2 84)), (85, (m.2 85)), (86, (m.2 86)), (87, (m.2 87)), (88, (m.2 88)), (89, (m.2 89)), (90, (m.2 90)), (91, (m.2 91)), (92, (m.2 92)), (101, (m.2 101)), (102, (m.2 102)), (103, (m.2 103)), (104, (m.2 104)), (105, (m.2 105)), (106, (m.2 106)), (107, (m.2 107)), (108, (m.2 108)), (109, upI (m.2 109) (m.1 25) (m.1 99))]) [7, 8, 9, 10, 11, 12] [] rfl ⟨rfl, rfl, rfl, rfl, rfl, rfl, rfl, rfl, rfl, rfl, rfl, rfl, rfl, rfl, rfl, rfl, rfl, rfl, rfl, rfl, rfl, rfl, rfl, rfl, rfl, rfl, rfl, rfl, rfl, rfl, rfl, rfl, rfl, rfl, rfl, rfl, rfl, rfl, trivial⟩ ⟨rfl, rfl, rfl, rfl, rfl, rfl, rfl, rfl, rfl, rfl, rfl, rfl, rfl, rfl, rfl, rfl, rfl, rfl, rfl, rfl, rfl, rfl, rfl, rfl, rfl, rfl, rfl, rfl, rfl, rfl, rfl, rfl, rfl, rfl, rfl, rfl, rfl, rfl, rfl, rfl, rfl, rfl, rfl, rfl, rfl, rfl, rfl, rfl, rfl, rfl, rfl, rfl, rfl, rfl, rfl, rfl, rfl, rfl, rfl, rfl, rfl, rfl, rfl, rfl, rfl, rfl, rfl, rfl, rfl, rfl, rfl, rfl, rfl, rfl, rfl, rfl, rfl, rfl, trivial⟩ rfl rfl (by decide) (by decide) ?_
      replace h856 : LxP y844 y846 y848 (m.1 6) y850 := h856
      replace h857 : y850 = 0 → y829 = 0 ∧ y823 = (41 : Int) := h857
      replace h858 : y825 ≤ y846 := h858
      replace h859 : y850 = 0 → y825 + y827 ≤ y846 := h859
      have hf860 : 1 ≤ y850 := by omega
      clear h857
      clear h859
      have hLx := h856
      clear g824 g826 g828 g830 g832 g834 hf839 h835 h840 h858
      refine T_ld 143 (.ref 189) rfl (fun _ => rfl) ?_
      refine T_ld 145 (.int (i32 123)) rfl (fun _ => rfl) ?_
      refine T_call 148 232 [.ref 189, .int (i32 123)] [] rfl (fun _ => rfl) rfl (c_need w (mO m [(7, y844), (8, y846), (9, y848), (10, y850), (11, y852), (12, y854), (13, y797), (25, (m.1 25) + 1), (28, (m.1 28)), (64, (m.1 64)), (69, (m.1 69)), (70, (m.1 70)), (71, (m.1 71)), (72, (m.1 72)), (73, (m.1 73)), (74, (m.1 74)), (75, (m.1 75)), (99, (m.1 99)), (100, (m.1 100))] [(14, F799), (15, F801), (16, F803), (17, F805), (46, upI (m.2 46) (m.1 25) 0), (47, (m.2 47)), (48, (m.2 48)), (49, (m.2 49)), (50, upI (m.2 50) (m.1 25) 0), (65, (m.2 65)), (66, (m.2 66)), (67, (m.2 67)), (68, (m.2 68)), (76, (m.2 76)), (77, (m.2 77)), (78, (m.2 78)), (79, (m.2 79)), (80, (m.2 80)), (81, (m.2 81)), (82, (m.2 82)), (83, (m.2 83)), (84, (m.2 84)), (85, (m.2 85)), (86, (m.2 86)), (87, (m.2 87)), (88, (m.2 88)), (89, (m.2 89)), (90, (m.2 90)), (91, (m.2 91)), (92, (m.2 92)), (101, (m.2 101)), (102, (m.2 102)), (103, (m.2 103)), (104, (m.2 104)), (105, (m.2 105)), (106, (m.2 106)), (107, (m.2 107)), (108, (m.2 108)), (109, upI (m.2 109) (m.1 25) (m.1 99))]) c N D (by omega) (Ty_mO hT rfl rfl ⟨g845, g847, g849, g851, g853, g855, g798, g817, f28, f64, f69, f70, f71, f72, f73, f74, f75, f99, f100, trivial⟩ ⟨G800, G802, G804, G806, G819, (hT.2.1 47), (hT.2.1 48), (hT.2.1 49), G820, (hT.2.1 65), (hT.2.1 66), (hT.2.1 67), (hT.2.1 68), (hT.2.1 76), (hT.2.1 77), (hT.2.1 78), (hT.2.1 79), (hT.2.1 80), (hT.2.1 81), (hT.2.1 82), (hT.2.1 83), (hT.2.1 84), (hT.2.1 85), (hT.2.1 86), (hT.2.1 87), (hT.2.1 88), (hT.2.1 89), (hT.2.1 90), (hT.2.1 91), (hT.2.1 92), (hT.2.1 101), (hT.2.1 102), (hT.2.1 103), (hT.2.1 104), (hT.2.1 105), (hT.2.1 106), (hT.2.1 107), (hT.2.1 108), G818, trivial⟩) 123 ⟨by decide, by decide⟩ (show 1 ≤ (123 : Int) by omega) (show LxP y844 y846 y848 (m.1 6) y850 by first | exact hLx | (intro h9; exfalso; omega) | (intro h9; have h8 := hLx (by omega); omega))) (fun rr861 k862 => ?_)
      obtain ⟨y863, y865, y867, y869, y871, y873, g864, g866, g868, g870, g872, g874, h875, h876, h877, h878, rfl⟩ := k862
      refine ⟨_, _, rfl, ?_⟩
      refine T_nf2 (st' := []) (l' := [(7, y863), (8, y865), (9, y867), (10, y869), (11, y871), (12, y873), (13, y797), (25, (m.1 25) + 1), (28, (m.1 28)), (64, (m.1 64)), (69, (m.1 69)), (70, (m.1 70)), (71, (m.1 71)), (72, (m.1 72)), (73, (m.1 73)), (74, (m.1 74)), (75, (m.1 75)), (99, (m.1 99)), (100, (m.1 100))]) (a' := [(14, F799), (15, F801), (16, F803), (17, F805), (46, upI (m.2 46) (m.1 25) 0), (47, (m.2 47)), (48, (m.2 48)), (49, (m.2 49)), (50, upI (m.2 50) (m.1 25) 0), (65, (m.2 65)), (66, (m.2 66)), (67, (m.2 67)), (68, (m.2 68)), (76, (m.2 76)), (77, (m.2 77)), (78, (m.2 78)), (79, (m.2 79)), (80, (m.2 80)), (81, (m.2 81)), (82, (m.2 82)), (83, (m.2 83)), (84, (m.2 84)), (85, (m.2 85)), (86, (m.2 86)), (87, (m.2 87)), (88, (m.2 88)), (89, (m.2 89)), (90, (m.2 90)), (91, (m.2 91)), (92, (m.2 92)), (101, (m.2 101)), (102, (m.2 102)), (103, (m.2 103)), (104, (m.2 104)), (105, (m.2 105)), (106, (m.2 106)), (107, (m.2 107)), (108, (m.2 108)), (109, upI (m.2 109) (m.1 25) (m.1 99))]) [7, 8, 9, 10, 11, 12] [] rfl ⟨rfl, rfl, rfl, rfl, rfl, rfl, rfl, rfl, rfl, rfl, rfl, rfl, rfl, rfl, rfl, rfl, rfl, rfl, rfl, rfl, rfl, rfl, rfl, rfl, rfl, rfl, rfl, rfl, rfl, rfl, rfl, rfl, rfl, rfl, rfl, rfl, rfl, rfl, trivial⟩ ⟨rfl, rfl, rfl, rfl, rfl, rfl, rfl, rfl, rfl, rfl, rfl, rfl, rfl, rfl, rfl, rfl, rfl, rfl, rfl, rfl, rfl, rfl, rfl, rfl, rfl, rfl, rfl, rfl, rfl, rfl, rfl, rfl, rfl, rfl, rfl, rfl, rfl, rfl, rfl, rfl, rfl, rfl, rfl, rfl, rfl, rfl, rfl, rfl, rfl, rfl, rfl, rfl, rfl, rfl, rfl, rfl, rfl, rfl, rfl, rfl, rfl, rfl, rfl, rfl, rfl, rfl, rfl, rfl, rfl, rfl, rfl, rfl, rfl, rfl, rfl, rfl, rfl, rfl, trivial⟩ rfl rfl (by decide) (by decide) ?_
      replace h875 : LxP y863 y865 y867 (m.1 6) y869 := h875
      replace h876 : y869 = 0 → y850 = 0 ∧ y844 = (123 : Int) := h876
      replace h877 : y846 ≤ y865 := h877
      replace h878 : y869 = 0 → y846 + y848 ≤ y865 := h878
      have hf879 : 1 ≤ y869 := by omega
      clear h876
      clear h878
      have hLx := h875
      clear g845 g847 g849 g851 g853 g855 hf860 h856 h877
      refine T_ld 149 (.ref 189) rfl (fun _ => rfl) ?_
      refine T_ld 150 (.int (i32 (m.1 25))) rfl (fun _ => rfl) ?_
      refine T_pf (l' := [(7, y863), (8, y865), (9, y867), (10, y869), (11, y871), (12, y873), (13, y797), (25, (m.1 25) + 1), (28, (m.1 28)), (64, (m.1 25)), (69, (m.1 69)), (70, (m.1 70)), (71, (m.1 71)), (72, (m.1 72)), (73, (m.1 73)), (74, (m.1 74)), (75, (m.1 75)), (99, (m.1 99)), (100, (m.1 100))]) 153 (m.1 25) rfl rfl rfl rfl rfl rfl ?_
      have g880 : (-1) ≤ (m.1 25) ∧ (m.1 25) ≤ 15 := ⟨by omega, by omega⟩
      refine T_gf 157 (.int (i32 y869)) rfl rfl rfl rfl rfl rfl ?_
      refine T_if 211 160 rfl rfl rfl (r32 (by omega) (by omega)) (fun (h881 : y869 ≠ 0) => ?_) (fun (h881 : ¬ (y869 ≠ 0)) => by exfalso; omega)
      refine T_ld 212 (.ref 189) rfl (fun _ => rfl) ?_
      refine T_ld 213 (.int (i32 (-1))) rfl (fun _ => rfl) ?_
      refine T_pf (l' := [(7, y863), (8, y865), (9, y867), (10, y869), (11, y871), (12, y873), (13, y797), (25, (m.1 25) + 1), (28, (m.1 28)), (64, (-1)), (69, (m.1 69)), (70, (m.1 70)), (71, (m.1 71)), (72, (m.1 72)), (73, (m.1 73)), (74, (m.1 74)), (75, (m.1 75)), (99, (m.1 99)), (100, (m.1 100))]) 216 (-1) rfl rfl rfl rfl rfl rfl ?_
      refine T_ld 217 (.ref 189) rfl (fun _ => rfl) ?_
      refine T_ld 219 (.int (i32 125)) rfl (fun _ => rfl) ?_
      refine T_call 222 232 [.ref 189, .int (i32 125)] [] rfl (fun _ => rfl) rfl (c_need w (mO m [(7, y863), (8, y865), (9, y867), (10, y869), (11, y871), (12, y873), (13, y797), (25, (m.1 25) + 1), (28, (m.1 28)), (64, (-1)), (69, (m.1 69)), (70, (m.1 70)), (71, (m.1 71)), (72, (m.1 72)), (73, (m.1 73)), (74, (m.1 74)), (75, (m.1 75)), (99, (m.1 99)), (100, (m.1 100))] [(14, F799), (15, F801), (16, F803), (17, F805), (46, upI (m.2 46) (m.1 25) 0), (47, (m.2 47)), (48, (m.2 48)), (49, (m.2 49)), (50, upI (m.2 50) (m.1 25) 0), (65, (m.2 65)), (66, (m.2 66)), (67, (m.2 67)), (68, (m.2 68)), (76, (m.2 76)), (77, (m.2 77)), (78, (m.2 78)), (79, (m.2 79)), (80, (m.2 80)), (81, (m.2 81)), (82, (m.2 82)), (83, (m.2 83)), (84, (m.2 84)), (85, (m.2 85)), (86, (m.2 86)), (87, (m.2 87)), (88, (m.2 88)), (89, (m.2 89)), (90, (m.2 90)), (91, (m.2 91)), (92, (m.2 92)), (101, (m.2 101)), (102, (m.2 102)), (103, (m.2 103)), (104, (m.2 104)), (105, (m.2 105)), (106, (m.2 106)), (107, (m.2 107)), (108, (m.2 108)), (109, upI (m.2 109) (m.1 25) (m.1 99))]) c N D (by omega) (Ty_mO hT rfl rfl ⟨g864, g866, g868, g870, g872, g874, g798, g817, f28, ⟨(by omega : ((-1) : Int) ≤ (-1)), (by omega : ((-1) : Int) ≤ 15)⟩, f69, f70, f71, f72, f73, f74, f75, f99, f100, trivial⟩ ⟨G800, G802, G804, G806, G819, (hT.2.1 47), (hT.2.1 48), (hT.2.1 49), G820, (hT.2.1 65), (hT.2.1 66), (hT.2.1 67), (hT.2.1 68), (hT.2.1 76), (hT.2.1 77), (hT.2.1 78), (hT.2.1 79), (hT.2.1 80), (hT.2.1 81), (hT.2.1 82), (hT.2.1 83), (hT.2.1 84), (hT.2.1 85), (hT.2.1 86), (hT.2.1 87), (hT.2.1 88), (hT.2.1 89), (hT.2.1 90), (hT.2.1 91), (hT.2.1 92), (hT.2.1 101), (hT.2.1 102), (hT.2.1 103), (hT.2.1 104), (hT.2.1 105), (hT.2.1 106), (hT.2.1 107), (hT.2.1 108), G818, trivial⟩) 125 ⟨by decide, by decide⟩ (show 1 ≤ (125 : Int) by omega) (show LxP y863 y865 y867 (m.1 6) y869 by first | exact hLx | (intro h9; exfalso; omega) | (intro h9; have h8 := hLx (by omega); omega))) (fun rr882 k883 => ?_)
      obtain ⟨y884, y886, y888, y890, y892, y894, g885, g887, g889, g891, g893, g895, h896, h897, h898, h899, rfl⟩ := k883
      refine ⟨_, _, rfl, ?_⟩
      refine T_nf2 (st' := []) (l' := [(7, y884), (8, y886), (9, y888), (10, y890), (11, y892), (12, y894), (13, y797), (25, (m.1 25) + 1), (28, (m.1 28)), (64, (-1)), (69, (m.1 69)), (70, (m.1 70)), (71, (m.1 71)), (72, (m.1 72)), (73, (m.1 73)), (74, (m.1 74)), (75, (m.1 75)), (99, (m.1 99)), (100, (m.1 100))]) (a' := [(14, F799), (15, F801), (16, F803), (17, F805), (46, upI (m.2 46) (m.1 25) 0), (47, (m.2 47)), (48, (m.2 48)), (49, (m.2 49)), (50, upI (m.2 50) (m.1 25) 0), (65, (m.2 65)), (66, (m.2 66)), (67, (m.2 67)), (68, (m.2 68)), (76, (m.2 76)), (77, (m.2 77)), (78, (m.2 78)), (79, (m.2 79)), (80, (m.2 80)), (81, (m.2 81)), (82, (m.2 82)), (83, (m.2 83)), (84, (m.2 84)), (85, (m.2 85)), (86, (m.2 86)), (87, (m.2 87)), (88, (m.2 88)), (89, (m.2 89)), (90, (m.2 90)), (91, (m.2 91)), (92, (m.2 92)), (101, (m.2 101)), (102, (m.2 102)), (103, (m.2 103)), (104, (m.2 104)), (105, (m.2 105)), (106, (m.2 106)), (107, (m.2 107)), (108, (m.2 108)), (109, upI (m.2 109) (m.1 25) (m.1 99))]) [7, 8, 9, 10, 11, 12] [] rfl ⟨rfl, rfl, rfl, rfl, rfl, rfl, rfl, rfl, rfl, rfl, rfl, rfl, rfl, rfl, rfl, rfl, rfl, rfl, rfl, rfl, rfl, rfl, rfl, rfl, rfl, rfl, rfl, rfl, rfl, rfl, rfl, rfl, rfl, rfl, rfl, rfl, rfl, rfl, trivial⟩ ⟨rfl, rfl, rfl, rfl, rfl, rfl, rfl, rfl, rfl, rfl, rfl, rfl, rfl, rfl, rfl, rfl, rfl, rfl, rfl, rfl, rfl, rfl, rfl, rfl, rfl, rfl, rfl, rfl, rfl, rfl, rfl, rfl, rfl, rfl, rfl, rfl, rfl, rfl, rfl, rfl, rfl, rfl, rfl, rfl, rfl, rfl, rfl, rfl, rfl, rfl, rfl, rfl, rfl, rfl, rfl, rfl, rfl, rfl, rfl, rfl, rfl, rfl, rfl, rfl, rfl, rfl, rfl, rfl, rfl, rfl, rfl, rfl, rfl, rfl, rfl, rfl, rfl, rfl, trivial⟩ rfl rfl (by decide) (by decide) ?_
      replace h896 : LxP y884 y886 y888 (m.1 6) y890 := h896
      replace h897 : y890 = 0 → y869 = 0 ∧ y863 = (125 : Int) := h897
      replace h898 : y865 ≤ y886 := h898
      replace h899 : y890 = 0 → y865 + y867 ≤ y886 := h899
      have hf900 : 1 ≤ y890 := by omega
      clear h897
      clear h899
      have hLx := h896
      clear g864 g866 g868 g870 g872 g874 hf879 h875 h881 h898
      refine T_ret rfl (fun _ => rfl) ?_
      exact ⟨(mO m [(7, y884), (8, y886), (9, y888), (10, y890), (11, y892), (12, y894), (13, y797), (25, (m.1 25) + 1), (28, (m.1 28)), (64, (-1)), (69, (m.1 69)), (70, (m.1 70)), (71, (m.1 71)), (72, (m.1 72)), (73, (m.1 73)), (74, (m.1 74)), (75, (m.1 75)), (99, (m.1 99)), (100, (m.1 100))] [(14, F799), (15, F801), (16, F803), (17, F805), (46, upI (m.2 46) (m.1 25) 0), (47, (m.2 47)), (48, (m.2 48)), (49, (m.2 49)), (50, upI (m.2 50) (m.1 25) 0), (65, (m.2 65)), (66, (m.2 66)), (67, (m.2 67)), (68, (m.2 68)), (76, (m.2 76)), (77, (m.2 77)), (78, (m.2 78)), (79, (m.2 79)), (80, (m.2 80)), (81, (m.2 81)), (82, (m.2 82)), (83, (m.2 83)), (84, (m.2 84)), (85, (m.2 85)), (86, (m.2 86)), (87, (m.2 87)), (88, (m.2 88)), (89, (m.2 89)), (90, (m.2 90)), (91, (m.2 91)), (92, (m.2 92)), (101, (m.2 101)), (102, (m.2 102)), (103, (m.2 103)), (104, (m.2 104)), (105, (m.2 105)), (106, (m.2 106)), (107, (m.2 107)), (108, (m.2 108)), (109, upI (m.2 109) (m.1 25) (m.1 99))]), (Ty_mO hT rfl rfl ⟨g885, g887, g889, g891, g893, g895, g798, g817, f28, ⟨(by omega : ((-1) : Int) ≤ (-1)), (by omega : ((-1) : Int) ≤ 15)⟩, f69, f70, f71, f72, f73, f74, f75, f99, f100, trivial⟩ ⟨G800, G802, G804, G806, G819, (hT.2.1 47), (hT.2.1 48), (hT.2.1 49), G820, (hT.2.1 65), (hT.2.1 66), (hT.2.1 67), (hT.2.1 68), (hT.2.1 76), (hT.2.1 77), (hT.2.1 78), (hT.2.1 79), (hT.2.1 80), (hT.2.1 81), (hT.2.1 82), (hT.2.1 83), (hT.2.1 84), (hT.2.1 85), (hT.2.1 86), (hT.2.1 87), (hT.2.1 88), (hT.2.1 89), (hT.2.1 90), (hT.2.1 91), (hT.2.1 92), (hT.2.1 101), (hT.2.1 102), (hT.2.1 103), (hT.2.1 104), (hT.2.1 105), (hT.2.1 106), (hT.2.1 107), (hT.2.1 108), G818, trivial⟩), (show y890 = 0 → (m.1 10) = 0 by omega), (show LxP y884 y886 y888 (m.1 6) y890 by first | (first | exact hLx | exact (fun _ => hLx (by omega)) | (intro h9; exfalso; omega)) | (exfalso; omega)), (show ∀ k, F799 k + F801 k ≤ 4000 by first | (exact hNM) | (exfalso; omega)), (show ∀ k, (m.2 47) k + (m.2 48) k ≤ 4000 by first | (exact hPA) | (exfalso; omega)), (fun (h : y890 = 0) => absurd h (by omega)), rfl⟩
    · skip
      refine T_ret rfl (fun _ => rfl) ?_
      exact ⟨(mO m [(7, y785), (8, y787), (9, y789), (10, y791), (11, y793), (12, y795), (13, y797), (25, (m.1 25)), (28, (m.1 28)), (64, (m.1 64)), (69, (m.1 69)), (70, (m.1 70)), (71, (m.1 71)), (72, (m.1 72)), (73, (m.1 73)), (74, (m.1 74)), (75, (m.1 75)), (99, (m.1 99)), (100, (m.1 100))] [(14, F799), (15, F801), (16, F803), (17, F805), (46, (m.2 46)), (47, (m.2 47)), (48, (m.2 48)), (49, (m.2 49)), (50, (m.2 50)), (65, (m.2 65)), (66, (m.2 66)), (67, (m.2 67)), (68, (m.2 68)), (76, (m.2 76)), (77, (m.2 77)), (78, (m.2 78)), (79, (m.2 79)), (80, (m.2 80)), (81, (m.2 81)), (82, (m.2 82)), (83, (m.2 83)), (84, (m.2 84)), (85, (m.2 85)), (86, (m.2 86)), (87, (m.2 87)), (88, (m.2 88)), (89, (m.2 89)), (90, (m.2 90)), (91, (m.2 91)), (92, (m.2 92)), (101, (m.2 101)), (102, (m.2 102)), (103, (m.2 103)), (104, (m.2 104)), (105, (m.2 105)), (106, (m.2 106)), (107, (m.2 107)), (108, (m.2 108)), (109, (m.2 109))]), (Ty_mO hT rfl rfl ⟨g786, g788, g790, g792, g794, g796, g798, f25, f28, f64, f69, f70, f71, f72, f73, f74, f75, f99, f100, trivial⟩ ⟨G800, G802, G804, G806, (hT.2.1 46), (hT.2.1 47), (hT.2.1 48), (hT.2.1 49), (hT.2.1 50), (hT.2.1 65), (hT.2.1 66), (hT.2.1 67), (hT.2.1 68), (hT.2.1 76), (hT.2.1 77), (hT.2.1 78), (hT.2.1 79), (hT.2.1 80), (hT.2.1 81), (hT.2.1 82), (hT.2.1 83), (hT.2.1 84), (hT.2.1 85), (hT.2.1 86), (hT.2.1 87), (hT.2.1 88), (hT.2.1 89), (hT.2.1 90), (hT.2.1 91), (hT.2.1 92), (hT.2.1 101), (hT.2.1 102), (hT.2.1 103), (hT.2.1 104), (hT.2.1 105), (hT.2.1 106), (hT.2.1 107), (hT.2.1 108), (hT.2.1 109), trivial⟩), (show y791 = 0 → (m.1 10) = 0 by omega), (show LxP y785 y787 y789 (m.1 6) y791 by first | (first | exact hLx | exact (fun _ => hLx (by omega)) | (intro h9; exfalso; omega)) | (exfalso; omega)), (show ∀ k, F799 k + F801 k ≤ 4000 by first | (exact hNM) | (exfalso; omega)), (show ∀ k, (m.2 47) k + (m.2 48) k ≤ 4000 by first | (exact hPA) | (exfalso; omega)), (fun (h : y791 = 0) => absurd h (by omega)), rfl⟩
