def Q_takeParameter (m : mR) (c : Nat → Option am_C) (N : Nat) (a : Int) : ag_Re af_T → Prop := fun R => ∃ (y7 : Int) (y8 : Int) (y9 : Int) (y10 : Int) (y11 : Int) (y12 : Int) (F46 : Int → Int) (F47 : Int → Int) (F48 : Int → Int) (F49 : Int → Int), (0 ≤ y7 ∧ y7 ≤ 330) ∧ (0 ≤ y8 ∧ y8 ≤ 4000) ∧ (0 ≤ y9 ∧ y9 ≤ 4000) ∧ (0 ≤ y10 ∧ y10 ≤ 8) ∧ ((-1) ≤ y11 ∧ y11 ≤ 4000) ∧ ((-9223372036854775808) ≤ y12 ∧ y12 ≤ 9223372036854775807) ∧ (∀ j, 0 ≤ F46 j ∧ F46 j ≤ 4) ∧ (∀ j, 0 ≤ F47 j ∧ F47 j ≤ 4000) ∧ (∀ j, 0 ≤ F48 j ∧ F48 j ≤ 4000) ∧ (∀ j, 0 ≤ F49 j ∧ F49 j ≤ 64) ∧ (y10 = 0 → (m.1 10) = 0) ∧ (LxP y7 y8 y9 (m.1 6) y10) ∧ (∀ k, F47 k + F48 k ≤ 4000) ∧ (y10 = 0 → ((m.1 8) + 1 ≤ y8)) ∧ R = (.inl (none), (mhp (mO m [(7, y7), (8, y8), (9, y9), (10, y10), (11, y11), (12, y12)] [(46, F46), (47, F47), (48, F48), (49, F49)]) c, N), 0, 0)
set_option maxHeartbeats 8000000 in
theorem c_takeParameter (w : wX) (m : mR) (c : Nat → Option am_C) (N D : Nat) (hD : 7 ≤ D) (hT : Ty m) (a : Int) (qa : R32 a) (hLx0 : LxP (m.1 7) (m.1 8) (m.1 9) (m.1 6) (m.1 10)) (hPA0 : ∀ k, (m.2 47) k + (m.2 48) k ≤ 4000) (p2 : 0 ≤ a ∧ a ≤ 15) (hC : m.1 10 = 0 → True) : TC w D 268 [.ref 189, .int (i32 a)] (mhp m c, N) (Q_takeParameter m c N a) := by
  obtain ⟨D, rfl⟩ : ∃ k, D = k + 1 := ⟨D - 1, by omega⟩
  obtain ⟨qaa, qab⟩ := id qa
  have hLx := hLx0
  have hPA := hPA0
  have f7 : 0 ≤ m.1 7 ∧ m.1 7 ≤ 330 := hT.1 7
  have f8 : 0 ≤ m.1 8 ∧ m.1 8 ≤ 4000 := hT.1 8
  have f9 : 0 ≤ m.1 9 ∧ m.1 9 ≤ 4000 := hT.1 9
  have f10 : 0 ≤ m.1 10 ∧ m.1 10 ≤ 8 := hT.1 10
  have f11 : (-1) ≤ m.1 11 ∧ m.1 11 ≤ 4000 := hT.1 11
  have f12 : (-9223372036854775808) ≤ m.1 12 ∧ m.1 12 ≤ 9223372036854775807 := hT.1 12
  have f6 : 0 ≤ m.1 6 ∧ m.1 6 ≤ 4000 := hT.1 6
  refine Tc_of rfl ?_
  show TT w D pm_268 (0, [(0, .ref 189), (1, .int (i32 a))], [], (mhp m c, N), 0, 0) (Q_takeParameter m c N a)
  rw [show (mhp m c, N) = (mhp (mO m [(7, (m.1 7)), (8, (m.1 8)), (9, (m.1 9)), (10, (m.1 10)), (11, (m.1 11)), (12, (m.1 12))] [(46, (m.2 46)), (47, (m.2 47)), (48, (m.2 48)), (49, (m.2 49))]) c, N) from congrArg (fun M => (mhp M c, N)) (mO_pad m [7, 8, 9, 10, 11, 12] [46, 47, 48, 49])]
  by_cases hf0 : m.1 10 = 0
  · skip
    have h7 := hLx (by omega)
    have J153_46 : ∀ (v36 : Int) (s37 : Int) (y38 : Int) (y39 : Int) (y40 : Int) (y41 : Int) (y42 : Int) (y43 : Int) (F44 : Int → Int) (F45 : Int → Int), (R32 v36) → (R32 s37) → (0 ≤ y38 ∧ y38 ≤ 330) → (0 ≤ y39 ∧ y39 ≤ 4000) → (0 ≤ y40 ∧ y40 ≤ 4000) → (0 ≤ y41 ∧ y41 ≤ 8) → ((-1) ≤ y42 ∧ y42 ≤ 4000) → ((-9223372036854775808) ≤ y43 ∧ y43 ≤ 9223372036854775807) → (∀ j, 0 ≤ F44 j ∧ F44 j ≤ 4000) → (∀ j, 0 ≤ F45 j ∧ F45 j ≤ 4000) → (0 ≤ v36) → (1 ≤ s37) → (s37 ≤ 64) → (1 ≤ y41) → (y41 ≤ 8) → (∀ k, F44 k + F45 k ≤ 4000) → ((m.2 46) a ≤ 3) → TT w D pm_268 (153, [(0, .ref 189), (1, .int (i32 a)), (2, .int (i32 ((4 * a) + ((m.2 46) a)))), (3, .int (i32 v36))], [.int (i32 s37), .int (i32 ((4 * a) + ((m.2 46) a))), .ref 219], (mhp (mO m [(7, y38), (8, y39), (9, y40), (10, y41), (11, y42), (12, y43)] [(46, (m.2 46)), (47, F44), (48, F45), (49, (m.2 49))]) c, N), 0, 0) (Q_takeParameter m c N a) := by
      intro v36 s37 y38 y39 y40 y41 y42 y43 F44 F45 q47 q48 q49 q50 q51 q52 q53 q54 q55 q56 ic57 ic58 ic59 ic60 ic61 ic62 ic63
      obtain ⟨q47a, q47b⟩ := id q47
      obtain ⟨q48a, q48b⟩ := id q48
      have hPA := ic62
      have G65 : ∀ j, 0 ≤ (upI (m.2 49) ((4 * a) + ((m.2 46) a)) s37) j ∧ (upI (m.2 49) ((4 * a) + ((m.2 46) a)) s37) j ≤ 64 := upI_rg (hT.2.1 49) ⟨by omega, by omega⟩
      refine T_iast (a' := [(46, (m.2 46)), (47, F44), (48, F45), (49, upI (m.2 49) ((4 * a) + ((m.2 46) a)) s37)]) 154 49 (m.2 49) rfl rfl rfl (by omega) (show ((4 * a) + ((m.2 46) a)) < (64 : Int) by omega) rfl rfl ?_
      refine T_gf 158 (.ref 216) rfl rfl rfl rfl rfl rfl ?_
      refine T_ld 159 (.int (i32 a)) rfl (fun _ => rfl) ?_
      refine T_dup2 160 rfl (fun _ => rfl) ?_
      refine T_iald 161 46 (m.2 46) rfl rfl rfl (by omega) (show a < (16 : Int) by omega) rfl ?_
      have e66 : 0 ≤ (m.2 46) a ∧ (m.2 46) a ≤ 4 := (hT.2.1 46) a
      refine T_ld 162 (.int (i32 1)) rfl (fun _ => rfl) ?_
      refine T_iadd 163 rfl rfl ?_
      have G67 : ∀ j, 0 ≤ (upI (m.2 46) a (((m.2 46) a) + 1)) j ∧ (upI (m.2 46) a (((m.2 46) a) + 1)) j ≤ 4 := upI_rg (hT.2.1 46) ⟨by omega, by omega⟩
      refine T_iast (a' := [(46, upI (m.2 46) a (((m.2 46) a) + 1)), (47, F44), (48, F45), (49, upI (m.2 49) ((4 * a) + ((m.2 46) a)) s37)]) 164 46 (m.2 46) rfl rfl rfl (by omega) (show a < (16 : Int) by omega) rfl rfl ?_
      refine T_ret rfl (fun _ => rfl) ?_
      exact ⟨y38, y39, y40, y41, y42, y43, upI (m.2 46) a (((m.2 46) a) + 1), F44, F45, upI (m.2 49) ((4 * a) + ((m.2 46) a)) s37, q49, q50, q51, q52, q53, q54, G67, q55, q56, G65, (by omega), (by first | (first | exact hLx | (intro h9; exfalso; omega)) | (exfalso; omega)), (by first | (first | exact hPA | (intro k; have := hPA0 k; have h7 := hLx0 hf0; unfold upI; split <;> omega)) | (exfalso; omega)), (fun h => absurd h (by omega)), rfl⟩
    have J141_77 : ∀ (v68 : Int) (y69 : Int) (y70 : Int) (y71 : Int) (y72 : Int) (y73 : Int) (y74 : Int) (F75 : Int → Int) (F76 : Int → Int), (R32 v68) → (0 ≤ y69 ∧ y69 ≤ 330) → (0 ≤ y70 ∧ y70 ≤ 4000) → (0 ≤ y71 ∧ y71 ≤ 4000) → (0 ≤ y72 ∧ y72 ≤ 8) → ((-1) ≤ y73 ∧ y73 ≤ 4000) → ((-9223372036854775808) ≤ y74 ∧ y74 ≤ 9223372036854775807) → (∀ j, 0 ≤ F75 j ∧ F75 j ≤ 4000) → (∀ j, 0 ≤ F76 j ∧ F76 j ≤ 4000) → (0 ≤ v68) → (1 ≤ y72) → (y72 ≤ 8) → (∀ k, F75 k + F76 k ≤ 4000) → ((m.2 46) a ≤ 3) → TT w D pm_268 (141, [(0, .ref 189), (1, .int (i32 a)), (2, .int (i32 ((4 * a) + ((m.2 46) a)))), (3, .int (i32 v68))], [], (mhp (mO m [(7, y69), (8, y70), (9, y71), (10, y72), (11, y73), (12, y74)] [(46, (m.2 46)), (47, F75), (48, F76), (49, (m.2 49))]) c, N), 0, 0) (Q_takeParameter m c N a) := by
      intro v68 y69 y70 y71 y72 y73 y74 F75 F76 q78 q79 q80 q81 q82 q83 q84 q85 q86 ic87 ic88 ic89 ic90 ic91
      obtain ⟨q78a, q78b⟩ := id q78
      have hPA := ic90
      refine T_gf 145 (.ref 219) rfl rfl rfl rfl rfl rfl ?_
      refine T_ld 146 (.int (i32 ((4 * a) + ((m.2 46) a)))) rfl (fun _ => rfl) ?_
      refine T_ld 147 (.ref 189) rfl (fun _ => rfl) ?_
      refine T_ld 148 (.int (i32 1)) rfl (fun _ => rfl) ?_
      refine T_ld 150 (.int (i32 64)) rfl (fun _ => rfl) ?_
      refine T_call 153 234 [.ref 189, .int (i32 1), .int (i32 64)] [.int (i32 ((4 * a) + ((m.2 46) a))), .ref 219] rfl (fun _ => rfl) rfl (c_number w (mO m [(7, y69), (8, y70), (9, y71), (10, y72), (11, y73), (12, y74)] [(46, (m.2 46)), (47, F75), (48, F76), (49, (m.2 49))]) c N D (by omega) (Ty_mO hT rfl rfl ⟨q79, q80, q81, q82, q83, q84, trivial⟩ ⟨(hT.2.1 46), q85, q86, (hT.2.1 49), trivial⟩) 1 64 ⟨by decide, by decide⟩ ⟨by decide, by decide⟩ (show LxP y69 y70 y71 (m.1 6) y72 by first | exact hLx | (intro h9; exfalso; omega) | (intro h9; have h8 := hLx (by omega); omega)) (show (1 : Int) ≤ (64 : Int) by omega)) (fun rr93 k94 => ?_)
      obtain ⟨y95, y97, y99, y101, y103, y105, nu, g96, g98, g100, g102, g104, g106, g107, h108, h109, h110, h111, h112, h113, rfl⟩ := k94
      refine ⟨_, _, rfl, ?_⟩
      refine T_nf (st' := [.int (i32 nu), .int (i32 ((4 * a) + ((m.2 46) a))), .ref 219]) (l' := [(7, y95), (8, y97), (9, y99), (10, y101), (11, y103), (12, y105)]) (a' := [(46, (m.2 46)), (47, F75), (48, F76), (49, (m.2 49))]) rfl rfl rfl rfl rfl ?_
      obtain ⟨g107a, g107b⟩ := g107
      replace h108 : LxP y95 y97 y99 (m.1 6) y101 := h108
      replace h109 : y70 ≤ y97 := h109
      replace h110 : y101 = 0 → y72 = 0 ∧ y70 + y71 ≤ y97 := h110
      replace h111 : y101 = 0 → y69 = 2 := h111
      replace h112 : (1 : Int) ≤ nu ∧ nu ≤ (64 : Int) := h112
      replace h113 : y101 = 0 → nu = y74 := h113
      have hf114 : 1 ≤ y101 := by omega
      clear h110
      clear h111
      clear h113
      have hLx := h108
      clear q79 q80 q81 q82 q83 q84 ic88 ic89 h109
      exact J153_46 v68 nu y95 y97 y99 y101 y103 y105 F75 F76 (r32 (by omega) (by omega)) (r32 (by omega) (by omega)) g96 g98 g100 g102 g104 g106 q85 q86 (by omega) (by omega) (by omega) (by omega) (by omega) (by first | exact hPA | (intro k; have := hPA0 k; have h7 := hLx0 hf0; unfold upI; split <;> omega)) (by omega)
    have J135_124 : ∀ (v115 : Int) (y116 : Int) (y117 : Int) (y118 : Int) (y119 : Int) (y120 : Int) (y121 : Int) (F122 : Int → Int) (F123 : Int → Int), (R32 v115) → (0 ≤ y116 ∧ y116 ≤ 330) → (0 ≤ y117 ∧ y117 ≤ 4000) → (0 ≤ y118 ∧ y118 ≤ 4000) → (0 ≤ y119 ∧ y119 ≤ 8) → ((-1) ≤ y120 ∧ y120 ≤ 4000) → ((-9223372036854775808) ≤ y121 ∧ y121 ≤ 9223372036854775807) → (∀ j, 0 ≤ F122 j ∧ F122 j ≤ 4000) → (∀ j, 0 ≤ F123 j ∧ F123 j ≤ 4000) → (0 ≤ v115) → (1 ≤ y119) → (y119 ≤ 8) → (∀ k, F122 k + F123 k ≤ 4000) → ((m.2 46) a ≤ 3) → ((-2147483648) ≤ ((4 * a) + ((m.2 46) a)) ∧ ((4 * a) + ((m.2 46) a)) ≤ 2147483647) → TT w D pm_268 (135, [(0, .ref 189), (1, .int (i32 a)), (2, .int (i32 ((4 * a) + ((m.2 46) a)))), (3, .int (i32 v115))], [], (mhp (mO m [(7, y116), (8, y117), (9, y118), (10, y119), (11, y120), (12, y121)] [(46, (m.2 46)), (47, F122), (48, F123), (49, (m.2 49))]) c, N), 0, 0) (Q_takeParameter m c N a) := by
      intro v115 y116 y117 y118 y119 y120 y121 F122 F123 q125 q126 q127 q128 q129 q130 q131 q132 q133 ic134 ic135 ic136 ic137 ic138 ic139
      obtain ⟨q125a, q125b⟩ := id q125
      have hPA := ic137
      refine T_ld 136 (.ref 189) rfl (fun _ => rfl) ?_
      refine T_ld 138 (.int (i32 58)) rfl (fun _ => rfl) ?_
      refine T_call 141 232 [.ref 189, .int (i32 58)] [] rfl (fun _ => rfl) rfl (c_need w (mO m [(7, y116), (8, y117), (9, y118), (10, y119), (11, y120), (12, y121)] [(46, (m.2 46)), (47, F122), (48, F123), (49, (m.2 49))]) c N D (by omega) (Ty_mO hT rfl rfl ⟨q126, q127, q128, q129, q130, q131, trivial⟩ ⟨(hT.2.1 46), q132, q133, (hT.2.1 49), trivial⟩) 58 ⟨by decide, by decide⟩ (show 1 ≤ (58 : Int) by omega) (show LxP y116 y117 y118 (m.1 6) y119 by first | exact hLx | (intro h9; exfalso; omega) | (intro h9; have h8 := hLx (by omega); omega))) (fun rr141 k142 => ?_)
      obtain ⟨y143, y145, y147, y149, y151, y153, g144, g146, g148, g150, g152, g154, h155, h156, h157, h158, rfl⟩ := k142
      refine ⟨_, _, rfl, ?_⟩
      refine T_nf (st' := []) (l' := [(7, y143), (8, y145), (9, y147), (10, y149), (11, y151), (12, y153)]) (a' := [(46, (m.2 46)), (47, F122), (48, F123), (49, (m.2 49))]) rfl rfl rfl rfl rfl ?_
      replace h155 : LxP y143 y145 y147 (m.1 6) y149 := h155
      replace h156 : y149 = 0 → y119 = 0 ∧ y116 = (58 : Int) := h156
      replace h157 : y117 ≤ y145 := h157
      replace h158 : y149 = 0 → y117 + y118 ≤ y145 := h158
      have hf159 : 1 ≤ y149 := by omega
      clear h156
      clear h158
      have hLx := h155
      clear q126 q127 q128 q129 q130 q131 ic135 ic136 h157
      exact J141_77 v115 y143 y145 y147 y149 y151 y153 F122 F123 (r32 (by omega) (by omega)) g144 g146 g148 g150 g152 g154 q132 q133 (by omega) (by omega) (by omega) (by first | exact hPA | (intro k; have := hPA0 k; have h7 := hLx0 hf0; unfold upI; split <;> omega)) (by omega)
    have J97_163 : ∀ (v160 : Int) (y161 : Int) (y162 : Int), (R32 v160) → (0 ≤ y161 ∧ y161 ≤ 8) → ((-1) ≤ y162 ∧ y162 ≤ 4000) → (0 ≤ v160) → (v160 ≤ 2147483646) → (1 ≤ y161) → (y161 ≤ 8) → (∀ k, (m.2 47) k + (m.2 48) k ≤ 4000) → (1 ≤ ((4 * a) + ((m.2 46) a)) ∧ ((4 * a) + ((m.2 46) a)) ≤ 2147483647) → TT w D pm_268 (97, [(0, .ref 189), (1, .int (i32 a)), (2, .int (i32 ((4 * a) + ((m.2 46) a)))), (3, .int (i32 v160))], [], (mhp (mO m [(7, (m.1 7)), (8, (m.1 8)), (9, (m.1 9)), (10, y161), (11, y162), (12, (m.1 12))] [(46, (m.2 46)), (47, (m.2 47)), (48, (m.2 48)), (49, (m.2 49))]) c, N), 0, 0) (Q_takeParameter m c N a) := by
      intro v160 y161 y162 q164 q165 q166 ic167 ic168 ic169 ic170 ic171 ic172
      obtain ⟨q164a, q164b⟩ := id q164
      have hPA := ic171
      refine T_iinc 100 [(3, .int (i32 (v160 + 1))), (0, .ref 189), (1, .int (i32 a)), (2, .int (i32 ((4 * a) + ((m.2 46) a))))] rfl rfl (by decide) rfl rfl ?_
      refine T_goto 57 rfl (fun _ => rfl) ?_
      have L57_177 : ∀ (n : Nat) (v174 : Int) (y175 : Int) (y176 : Int), (R32 v174) → (0 ≤ y175 ∧ y175 ≤ 8) → ((-1) ≤ y176 ∧ y176 ≤ 4000) → (1 ≤ v174) → (v174 ≤ 2147483647) → (v174 ≤ (4 * a) + ((m.2 46) a)) → (y175 = 0 → True) → ((4 * a) + ((m.2 46) a)) - v174 < (n : Int) → TT w D pm_268 (57, [(0, .ref 189), (1, .int (i32 a)), (2, .int (i32 ((4 * a) + ((m.2 46) a)))), (3, .int (i32 v174))], [], (mhp (mO m [(7, (m.1 7)), (8, (m.1 8)), (9, (m.1 9)), (10, y175), (11, y176), (12, (m.1 12))] [(46, (m.2 46)), (47, (m.2 47)), (48, (m.2 48)), (49, (m.2 49))]) c, N), 0, 0) (Q_takeParameter m c N a) := by
        intro n
        induction n with
        | zero =>
          intro v174 y175 y176 q178 q179 q180 ic181 ic182 ic183 c184 hmu
          obtain ⟨q178a, q178b⟩ := id q178
          exfalso
          omega
        | succ n ih =>
          intro v174 y175 y176 q178 q179 q180 ic181 ic182 ic183 c184 hmu
          obtain ⟨q178a, q178b⟩ := id q178
          have ih185 := ih
          by_cases hf186 : y175 = 0
          · skip
            subst hf186
            refine T_ld 58 (.int (i32 v174)) rfl (fun _ => rfl) ?_
            refine T_ld 59 (.int (i32 ((4 * a) + ((m.2 46) a)))) rfl (fun _ => rfl) ?_
            refine T_icmp 103 62 rfl rfl rfl (r32 (by omega) (by omega)) (r32 (by omega) (by omega)) (fun (h187 : (4 * a) + ((m.2 46) a) ≤ v174) => ?_) (fun (h187 : ¬ ((4 * a) + ((m.2 46) a) ≤ v174)) => ?_)
            · skip
              refine T_gf 107 (.int (i32 0)) rfl rfl rfl rfl rfl rfl ?_
              refine T_if 111 110 rfl rfl rfl ⟨by decide, by decide⟩ (fun _ => ?_) (fun h188 => absurd (show (0 : Int) ≤ 0 by decide) h188)
              refine T_gf 115 (.ref 217) rfl rfl rfl rfl rfl rfl ?_
              refine T_ld 116 (.int (i32 ((4 * a) + ((m.2 46) a)))) rfl (fun _ => rfl) ?_
              refine T_gf 120 (.int (i32 (m.1 8))) rfl rfl rfl rfl rfl rfl ?_
              have G189 : ∀ j, 0 ≤ (upI (m.2 47) ((4 * a) + ((m.2 46) a)) (m.1 8)) j ∧ (upI (m.2 47) ((4 * a) + ((m.2 46) a)) (m.1 8)) j ≤ 4000 := upI_rg (hT.2.1 47) ⟨by omega, by omega⟩
              refine T_iast (a' := [(46, (m.2 46)), (47, upI (m.2 47) ((4 * a) + ((m.2 46) a)) (m.1 8)), (48, (m.2 48)), (49, (m.2 49))]) 121 47 (m.2 47) rfl rfl rfl (by omega) (show ((4 * a) + ((m.2 46) a)) < (64 : Int) by omega) rfl rfl ?_
              refine T_gf 125 (.ref 218) rfl rfl rfl rfl rfl rfl ?_
              refine T_ld 126 (.int (i32 ((4 * a) + ((m.2 46) a)))) rfl (fun _ => rfl) ?_
              refine T_gf 130 (.int (i32 (m.1 9))) rfl rfl rfl rfl rfl rfl ?_
              have G190 : ∀ j, 0 ≤ (upI (m.2 48) ((4 * a) + ((m.2 46) a)) (m.1 9)) j ∧ (upI (m.2 48) ((4 * a) + ((m.2 46) a)) (m.1 9)) j ≤ 4000 := upI_rg (hT.2.1 48) ⟨by omega, by omega⟩
              refine T_iast (a' := [(46, (m.2 46)), (47, upI (m.2 47) ((4 * a) + ((m.2 46) a)) (m.1 8)), (48, upI (m.2 48) ((4 * a) + ((m.2 46) a)) (m.1 9)), (49, (m.2 49))]) 131 48 (m.2 48) rfl rfl rfl (by omega) (show ((4 * a) + ((m.2 46) a)) < (64 : Int) by omega) rfl rfl ?_
              refine T_ld 132 (.ref 189) rfl (fun _ => rfl) ?_
              refine T_call 135 212 [.ref 189] [] rfl (fun _ => rfl) rfl (c_next w (mO m [(7, (m.1 7)), (8, (m.1 8)), (9, (m.1 9)), (10, 0), (11, y176), (12, (m.1 12))] [(46, (m.2 46)), (47, upI (m.2 47) ((4 * a) + ((m.2 46) a)) (m.1 8)), (48, upI (m.2 48) ((4 * a) + ((m.2 46) a)) (m.1 9)), (49, (m.2 49))]) c N D (by omega) (Ty_mO hT rfl rfl ⟨f7, f8, f9, ⟨(by omega : (0 : Int) ≤ 0), (by omega : (0 : Int) ≤ 8)⟩, q180, f12, trivial⟩ ⟨(hT.2.1 46), G189, G190, (hT.2.1 49), trivial⟩) (show (0 : Int) = 0 → (m.1 8) + (m.1 9) ≤ (m.1 6) by first | omega | (intro h9; have h8 := hLx h9; omega))) (fun rr191 k192 => ?_)
              obtain ⟨y193, y195, y197, y199, y201, y203, g194, g196, g198, g200, g202, g204, h205, h206, h207, h208, rfl⟩ := k192
              refine ⟨_, _, rfl, ?_⟩
              refine T_nf (st' := []) (l' := [(7, y193), (8, y195), (9, y197), (10, y199), (11, y201), (12, y203)]) (a' := [(46, (m.2 46)), (47, upI (m.2 47) ((4 * a) + ((m.2 46) a)) (m.1 8)), (48, upI (m.2 48) ((4 * a) + ((m.2 46) a)) (m.1 9)), (49, (m.2 49))]) rfl rfl rfl rfl rfl ?_
              by_cases hf209 : y199 = 0
              · skip
                subst hf209
                replace h205 : LxP y193 y195 y197 (m.1 6) (0 : Int) := h205
                have hLx := h205
                replace h206 : (0 : Int) = 0 := h206 rfl
                replace h207 : (m.1 8) ≤ y195 := h207
                replace h208 : (m.1 8) + (m.1 9) ≤ y195 := h208 rfl
                have u210 : (m.1 8) + 1 ≤ y195 := by omega
                clear q164a q164b q164 q165 q166 ic167 ic168 ic169 ic170 q179 q180 g200
                refine T_ld 136 (.ref 189) rfl (fun _ => rfl) ?_
                refine T_ld 138 (.int (i32 58)) rfl (fun _ => rfl) ?_
                refine T_call 141 232 [.ref 189, .int (i32 58)] [] rfl (fun _ => rfl) rfl (c_need w (mO m [(7, y193), (8, y195), (9, y197), (10, 0), (11, y201), (12, y203)] [(46, (m.2 46)), (47, upI (m.2 47) ((4 * a) + ((m.2 46) a)) (m.1 8)), (48, upI (m.2 48) ((4 * a) + ((m.2 46) a)) (m.1 9)), (49, (m.2 49))]) c N D (by omega) (Ty_mO hT rfl rfl ⟨g194, g196, g198, ⟨(by omega : (0 : Int) ≤ 0), (by omega : (0 : Int) ≤ 8)⟩, g202, g204, trivial⟩ ⟨(hT.2.1 46), G189, G190, (hT.2.1 49), trivial⟩) 58 ⟨by decide, by decide⟩ (show 1 ≤ (58 : Int) by omega) (show LxP y193 y195 y197 (m.1 6) (0 : Int) by first | exact hLx | (intro h9; exfalso; omega) | (intro h9; have h8 := hLx (by omega); omega))) (fun rr211 k212 => ?_)
                obtain ⟨y213, y215, y217, y219, y221, y223, g214, g216, g218, g220, g222, g224, h225, h226, h227, h228, rfl⟩ := k212
                refine ⟨_, _, rfl, ?_⟩
                refine T_nf (st' := []) (l' := [(7, y213), (8, y215), (9, y217), (10, y219), (11, y221), (12, y223)]) (a' := [(46, (m.2 46)), (47, upI (m.2 47) ((4 * a) + ((m.2 46) a)) (m.1 8)), (48, upI (m.2 48) ((4 * a) + ((m.2 46) a)) (m.1 9)), (49, (m.2 49))]) rfl rfl rfl rfl rfl ?_
                by_cases hf229 : y219 = 0
                · skip
                  subst hf229
                  replace h225 : LxP y213 y215 y217 (m.1 6) (0 : Int) := h225
                  have hLx := h225
                  replace h226 : (0 : Int) = 0 ∧ y193 = (58 : Int) := h226 rfl
                  replace h227 : y195 ≤ y215 := h227
                  replace h228 : y195 + y197 ≤ y215 := h228 rfl
                  have u230 : (m.1 8) + 1 ≤ y215 := by omega
                  clear g194 g196 g198 g202 g204 h205 h207 h208 u210 g220 h226 h227 h228
                  refine T_gf 145 (.ref 219) rfl rfl rfl rfl rfl rfl ?_
                  refine T_ld 146 (.int (i32 ((4 * a) + ((m.2 46) a)))) rfl (fun _ => rfl) ?_
                  refine T_ld 147 (.ref 189) rfl (fun _ => rfl) ?_
                  refine T_ld 148 (.int (i32 1)) rfl (fun _ => rfl) ?_
                  refine T_ld 150 (.int (i32 64)) rfl (fun _ => rfl) ?_
                  refine T_call 153 234 [.ref 189, .int (i32 1), .int (i32 64)] [.int (i32 ((4 * a) + ((m.2 46) a))), .ref 219] rfl (fun _ => rfl) rfl (c_number w (mO m [(7, y213), (8, y215), (9, y217), (10, 0), (11, y221), (12, y223)] [(46, (m.2 46)), (47, upI (m.2 47) ((4 * a) + ((m.2 46) a)) (m.1 8)), (48, upI (m.2 48) ((4 * a) + ((m.2 46) a)) (m.1 9)), (49, (m.2 49))]) c N D (by omega) (Ty_mO hT rfl rfl ⟨g214, g216, g218, ⟨(by omega : (0 : Int) ≤ 0), (by omega : (0 : Int) ≤ 8)⟩, g222, g224, trivial⟩ ⟨(hT.2.1 46), G189, G190, (hT.2.1 49), trivial⟩) 1 64 ⟨by decide, by decide⟩ ⟨by decide, by decide⟩ (show LxP y213 y215 y217 (m.1 6) (0 : Int) by first | exact hLx | (intro h9; exfalso; omega) | (intro h9; have h8 := hLx (by omega); omega)) (show (1 : Int) ≤ (64 : Int) by omega)) (fun rr231 k232 => ?_)
                  obtain ⟨y233, y235, y237, y239, y241, y243, nu, g234, g236, g238, g240, g242, g244, g245, h246, h247, h248, h249, h250, h251, rfl⟩ := k232
                  refine ⟨_, _, rfl, ?_⟩
                  refine T_nf (st' := [.int (i32 nu), .int (i32 ((4 * a) + ((m.2 46) a))), .ref 219]) (l' := [(7, y233), (8, y235), (9, y237), (10, y239), (11, y241), (12, y243)]) (a' := [(46, (m.2 46)), (47, upI (m.2 47) ((4 * a) + ((m.2 46) a)) (m.1 8)), (48, upI (m.2 48) ((4 * a) + ((m.2 46) a)) (m.1 9)), (49, (m.2 49))]) rfl rfl rfl rfl rfl ?_
                  obtain ⟨g245a, g245b⟩ := g245
                  by_cases hf252 : y239 = 0
                  · skip
                    subst hf252
                    replace h246 : LxP y233 y235 y237 (m.1 6) (0 : Int) := h246
                    have hLx := h246
                    replace h247 : y215 ≤ y235 := h247
                    replace h248 : (0 : Int) = 0 ∧ y215 + y217 ≤ y235 := h248 rfl
                    replace h249 : y213 = 2 := h249 rfl
                    replace h250 : (1 : Int) ≤ nu ∧ nu ≤ (64 : Int) := h250
                    replace h251 : nu = y223 := h251 rfl
                    have u253 : (m.1 8) + 1 ≤ y235 := by omega
                    clear g214 g216 g218 g222 g224 h225 u230 g240 h247 h248 h249 h251
                    have G254 : ∀ j, 0 ≤ (upI (m.2 49) ((4 * a) + ((m.2 46) a)) nu) j ∧ (upI (m.2 49) ((4 * a) + ((m.2 46) a)) nu) j ≤ 64 := upI_rg (hT.2.1 49) ⟨by omega, by omega⟩
                    refine T_iast (a' := [(46, (m.2 46)), (47, upI (m.2 47) ((4 * a) + ((m.2 46) a)) (m.1 8)), (48, upI (m.2 48) ((4 * a) + ((m.2 46) a)) (m.1 9)), (49, upI (m.2 49) ((4 * a) + ((m.2 46) a)) nu)]) 154 49 (m.2 49) rfl rfl rfl (by omega) (show ((4 * a) + ((m.2 46) a)) < (64 : Int) by omega) rfl rfl ?_
                    refine T_gf 158 (.ref 216) rfl rfl rfl rfl rfl rfl ?_
                    refine T_ld 159 (.int (i32 a)) rfl (fun _ => rfl) ?_
                    refine T_dup2 160 rfl (fun _ => rfl) ?_
                    refine T_iald 161 46 (m.2 46) rfl rfl rfl (by omega) (show a < (16 : Int) by omega) rfl ?_
                    have e255 : 0 ≤ (m.2 46) a ∧ (m.2 46) a ≤ 4 := (hT.2.1 46) a
                    refine T_ld 162 (.int (i32 1)) rfl (fun _ => rfl) ?_
                    refine T_iadd 163 rfl rfl ?_
                    have G256 : ∀ j, 0 ≤ (upI (m.2 46) a (((m.2 46) a) + 1)) j ∧ (upI (m.2 46) a (((m.2 46) a) + 1)) j ≤ 4 := upI_rg (hT.2.1 46) ⟨by omega, by omega⟩
                    refine T_iast (a' := [(46, upI (m.2 46) a (((m.2 46) a) + 1)), (47, upI (m.2 47) ((4 * a) + ((m.2 46) a)) (m.1 8)), (48, upI (m.2 48) ((4 * a) + ((m.2 46) a)) (m.1 9)), (49, upI (m.2 49) ((4 * a) + ((m.2 46) a)) nu)]) 164 46 (m.2 46) rfl rfl rfl (by omega) (show a < (16 : Int) by omega) rfl rfl ?_
                    refine T_ret rfl (fun _ => rfl) ?_
                    exact ⟨y233, y235, y237, 0, y241, y243, upI (m.2 46) a (((m.2 46) a) + 1), upI (m.2 47) ((4 * a) + ((m.2 46) a)) (m.1 8), upI (m.2 48) ((4 * a) + ((m.2 46) a)) (m.1 9), upI (m.2 49) ((4 * a) + ((m.2 46) a)) nu, g234, g236, g238, ⟨by omega, by omega⟩, g242, g244, G256, G189, G190, G254, (by omega), (by first | (first | exact hLx | (intro h9; exfalso; omega)) | (exfalso; omega)), (by first | (first | exact hPA | (intro k; have := hPA0 k; have h7 := hLx0 hf0; unfold upI; split <;> omega)) | (exfalso; omega)), (fun _ => (by omega)), rfl⟩
                  · skip
                    replace h246 : LxP y233 y235 y237 (m.1 6) y239 := h246
                    have hLx := h246
                    replace h247 : y215 ≤ y235 := h247
                    clear h248
                    clear h249
                    replace h250 : (1 : Int) ≤ nu ∧ nu ≤ (64 : Int) := h250
                    clear h251
                    have hf257 : 1 ≤ y239 := by omega
                    clear g214 g216 g218 g222 g224 h225 u230 h247
                    exact J153_46 v174 nu y233 y235 y237 y239 y241 y243 (upI (m.2 47) ((4 * a) + ((m.2 46) a)) (m.1 8)) (upI (m.2 48) ((4 * a) + ((m.2 46) a)) (m.1 9)) (r32 (by omega) (by omega)) (r32 (by omega) (by omega)) g234 g236 g238 g240 g242 g244 G189 G190 (by omega) (by omega) (by omega) (by omega) (by omega) (by first | exact hPA | (intro k; have := hPA0 k; have h7 := hLx0 hf0; unfold upI; split <;> omega)) (by omega)
                · skip
                  replace h225 : LxP y213 y215 y217 (m.1 6) y219 := h225
                  have hLx := h225
                  clear h226
                  replace h227 : y195 ≤ y215 := h227
                  clear h228
                  have hf258 : 1 ≤ y219 := by omega
                  clear g194 g196 g198 g202 g204 h205 h207 h208 u210 h227
                  exact J141_77 v174 y213 y215 y217 y219 y221 y223 (upI (m.2 47) ((4 * a) + ((m.2 46) a)) (m.1 8)) (upI (m.2 48) ((4 * a) + ((m.2 46) a)) (m.1 9)) (r32 (by omega) (by omega)) g214 g216 g218 g220 g222 g224 G189 G190 (by omega) (by omega) (by omega) (by first | exact hPA | (intro k; have := hPA0 k; have h7 := hLx0 hf0; unfold upI; split <;> omega)) (by omega)
              · skip
                replace h205 : LxP y193 y195 y197 (m.1 6) y199 := h205
                have hLx := h205
                clear h206
                replace h207 : (m.1 8) ≤ y195 := h207
                clear h208
                have hf259 : 1 ≤ y199 := by omega
                clear q164a q164b q164 q165 q166 ic167 ic168 ic169 ic170 q179 q180
                exact J135_124 v174 y193 y195 y197 y199 y201 y203 (upI (m.2 47) ((4 * a) + ((m.2 46) a)) (m.1 8)) (upI (m.2 48) ((4 * a) + ((m.2 46) a)) (m.1 9)) (r32 (by omega) (by omega)) g194 g196 g198 g200 g202 g204 G189 G190 (by omega) (by omega) (by omega) (by first | exact hPA | (intro k; have := hPA0 k; have h7 := hLx0 hf0; unfold upI; split <;> omega)) (by omega) (by omega)
            · skip
              refine T_gf 66 (.int (i32 0)) rfl rfl rfl rfl rfl rfl ?_
              refine T_if 103 69 rfl rfl rfl ⟨by decide, by decide⟩ (fun h260 => absurd (show (0 : Int) ≠ 0 from h260) (by decide)) (fun _ => ?_)
              have hp3 := hPA v174
              refine T_ld 70 (.ref 189) rfl (fun _ => rfl) ?_
              refine T_gf 74 (.ref 217) rfl rfl rfl rfl rfl rfl ?_
              refine T_ld 75 (.int (i32 v174)) rfl (fun _ => rfl) ?_
              refine T_iald 76 47 (m.2 47) rfl rfl rfl (by omega) (show v174 < (64 : Int) by omega) rfl ?_
              have e261 : 0 ≤ (m.2 47) v174 ∧ (m.2 47) v174 ≤ 4000 := (hT.2.1 47) v174
              refine T_gf 80 (.ref 218) rfl rfl rfl rfl rfl rfl ?_
              refine T_ld 81 (.int (i32 v174)) rfl (fun _ => rfl) ?_
              refine T_iald 82 48 (m.2 48) rfl rfl rfl (by omega) (show v174 < (64 : Int) by omega) rfl ?_
              have e262 : 0 ≤ (m.2 48) v174 ∧ (m.2 48) v174 ≤ 4000 := (hT.2.1 48) v174
              refine T_call 85 230 [.ref 189, .int (i32 ((m.2 47) v174)), .int (i32 ((m.2 48) v174))] [] rfl (fun _ => rfl) rfl (c_isHere w (mO m [(7, (m.1 7)), (8, (m.1 8)), (9, (m.1 9)), (10, 0), (11, y176), (12, (m.1 12))] [(46, (m.2 46)), (47, (m.2 47)), (48, (m.2 48)), (49, (m.2 49))]) c N D (by omega) (Ty_mO hT rfl rfl ⟨f7, f8, f9, ⟨(by omega : (0 : Int) ≤ 0), (by omega : (0 : Int) ≤ 8)⟩, q180, f12, trivial⟩ ⟨(hT.2.1 46), (hT.2.1 47), (hT.2.1 48), (hT.2.1 49), trivial⟩) ((m.2 47) v174) ((m.2 48) v174) (r32 (by omega) (by omega)) (r32 (by omega) (by omega)) (show 0 ≤ ((m.2 47) v174) by omega) (show 0 ≤ ((m.2 48) v174) by omega) (show ((m.2 47) v174) + ((m.2 48) v174) ≤ 4000 by omega) (show 1 ≤ (m.1 9) ∧ (m.1 8) + (m.1 9) ≤ (m.1 6) by first | omega | (have h8 := hLx (by omega); omega))) (fun rr263 k264 => ?_)
              obtain ⟨x265, g266, h267, rfl⟩ := k264
              refine ⟨_, _, rfl, ?_⟩
              refine T_nf (st' := [.int (i32 x265)]) (l' := [(7, (m.1 7)), (8, (m.1 8)), (9, (m.1 9)), (10, 0), (11, y176), (12, (m.1 12))]) (a' := [(46, (m.2 46)), (47, (m.2 47)), (48, (m.2 48)), (49, (m.2 49))]) rfl rfl rfl rfl rfl ?_
              obtain ⟨g266a, g266b⟩ := g266
              replace h267 : (x265 = 1 ∧ sameN (m.2 4) (m.1 8) (m.1 9) ((m.2 47) v174) ((m.2 48) v174)) ∨ (x265 = 0 ∧ ¬ sameN (m.2 4) (m.1 8) (m.1 9) ((m.2 47) v174) ((m.2 48) v174)) := h267
              have hh := h267
              have u268 : (m.1 8) ≤ (m.1 8) := by omega
              clear q164a q164b q164 q165 q166 ic167 ic168 ic169 ic170 q179
              refine T_if 97 88 rfl rfl rfl (r32 (by omega) (by omega)) (fun (h269 : x265 = 0) => ?_) (fun (h269 : ¬ (x265 = 0)) => ?_)
              · skip
                refine T_iinc 100 [(3, .int (i32 (v174 + 1))), (0, .ref 189), (1, .int (i32 a)), (2, .int (i32 ((4 * a) + ((m.2 46) a))))] rfl rfl (by decide) rfl rfl ?_
                refine T_goto 57 rfl (fun _ => rfl) ?_
                refine Tm_lv (a := [(0, .ref 189), (1, .int (i32 a)), (2, .int (i32 ((4 * a) + ((m.2 46) a)))), (3, .int (i32 (v174 + 1)))]) rfl rfl ⟨rfl, rfl, rfl, rfl, trivial⟩ ?_
                exact ih185 (v174 + 1) 0 y176 (r32 (by omega) (by omega)) ⟨by omega, by omega⟩ q180 (by omega) (by omega) (by omega) (fun _ => trivial) (by omega)
              · skip
                refine T_ld 89 (.ref 189) rfl (fun _ => rfl) ?_
                refine T_ld 90 (.int (i32 3)) rfl (fun _ => rfl) ?_
                refine T_gf 94 (.int (i32 (m.1 8))) rfl rfl rfl rfl rfl rfl ?_
                refine T_call 97 222 [.ref 189, .int (i32 3), .int (i32 (m.1 8))] [] rfl (fun _ => rfl) rfl (c_wrong w (mO m [(7, (m.1 7)), (8, (m.1 8)), (9, (m.1 9)), (10, 0), (11, y176), (12, (m.1 12))] [(46, (m.2 46)), (47, (m.2 47)), (48, (m.2 48)), (49, (m.2 49))]) c N D (by omega) (Ty_mO hT rfl rfl ⟨f7, f8, f9, ⟨(by omega : (0 : Int) ≤ 0), (by omega : (0 : Int) ≤ 8)⟩, q180, f12, trivial⟩ ⟨(hT.2.1 46), (hT.2.1 47), (hT.2.1 48), (hT.2.1 49), trivial⟩) 3 (m.1 8) ⟨by decide, by decide⟩ (r32 (by omega) (by omega)) (show 1 ≤ (3 : Int) ∧ (3 : Int) ≤ 8 by omega) (show 0 ≤ (m.1 8) ∧ (m.1 8) ≤ 4000 by omega)) (fun rr270 k271 => ?_)
                obtain ⟨y272, y274, g273, g275, h276, rfl⟩ := k271
                refine ⟨_, _, rfl, ?_⟩
                refine T_nf (st' := []) (l' := [(7, (m.1 7)), (8, (m.1 8)), (9, (m.1 9)), (10, y272), (11, y274), (12, (m.1 12))]) (a' := [(46, (m.2 46)), (47, (m.2 47)), (48, (m.2 48)), (49, (m.2 49))]) rfl rfl rfl rfl rfl ?_
                replace h276 : (0 < (0 : Int) → y272 = (0 : Int) ∧ y274 = y176) ∧ ((0 : Int) ≤ 0 → y272 = (3 : Int) ∧ y274 = (m.1 8)) := h276
                have hf277 : 1 ≤ y272 := by omega
                clear q180 g266a g266b h267 h269 h276
                refine T_iinc 100 [(3, .int (i32 (v174 + 1))), (0, .ref 189), (1, .int (i32 a)), (2, .int (i32 ((4 * a) + ((m.2 46) a))))] rfl rfl (by decide) rfl rfl ?_
                refine T_goto 57 rfl (fun _ => rfl) ?_
                refine Tm_lv (a := [(0, .ref 189), (1, .int (i32 a)), (2, .int (i32 ((4 * a) + ((m.2 46) a)))), (3, .int (i32 (v174 + 1)))]) rfl rfl ⟨rfl, rfl, rfl, rfl, trivial⟩ ?_
                exact ih185 (v174 + 1) y272 y274 (r32 (by omega) (by omega)) g273 g275 (by omega) (by omega) (by omega) (fun h => absurd h (by omega)) (by omega)
          · skip
            clear c184
            have hf278 : 1 ≤ y175 := by omega
            refine T_ld 58 (.int (i32 v174)) rfl (fun _ => rfl) ?_
            refine T_ld 59 (.int (i32 ((4 * a) + ((m.2 46) a)))) rfl (fun _ => rfl) ?_
            refine T_icmp 103 62 rfl rfl rfl (r32 (by omega) (by omega)) (r32 (by omega) (by omega)) (fun (h279 : (4 * a) + ((m.2 46) a) ≤ v174) => ?_) (fun (h279 : ¬ ((4 * a) + ((m.2 46) a) ≤ v174)) => ?_)
            · skip
              refine T_gf 107 (.int (i32 y175)) rfl rfl rfl rfl rfl rfl ?_
              refine T_if 111 110 rfl rfl rfl (r32 (by omega) (by omega)) (fun (h280 : y175 ≤ 0) => by exfalso; omega) (fun (h280 : ¬ (y175 ≤ 0)) => ?_)
              refine T_ret rfl (fun _ => rfl) ?_
              exact ⟨(m.1 7), (m.1 8), (m.1 9), y175, y176, (m.1 12), (m.2 46), (m.2 47), (m.2 48), (m.2 49), f7, f8, f9, q179, q180, f12, (hT.2.1 46), (hT.2.1 47), (hT.2.1 48), (hT.2.1 49), (by omega), (by first | (first | exact hLx | (intro h9; exfalso; omega)) | (exfalso; omega)), (by first | (first | exact hPA | (intro k; have := hPA0 k; have h7 := hLx0 hf0; unfold upI; split <;> omega)) | (exfalso; omega)), (fun h => absurd h (by omega)), rfl⟩
            · skip
              refine T_gf 66 (.int (i32 y175)) rfl rfl rfl rfl rfl rfl ?_
              refine T_if 103 69 rfl rfl rfl (r32 (by omega) (by omega)) (fun (h281 : y175 ≠ 0) => ?_) (fun (h281 : ¬ (y175 ≠ 0)) => by exfalso; omega)
              refine T_gf 107 (.int (i32 y175)) rfl rfl rfl rfl rfl rfl ?_
              refine T_if 111 110 rfl rfl rfl (r32 (by omega) (by omega)) (fun (h282 : y175 ≤ 0) => by exfalso; omega) (fun (h282 : ¬ (y175 ≤ 0)) => ?_)
              refine T_ret rfl (fun _ => rfl) ?_
              exact ⟨(m.1 7), (m.1 8), (m.1 9), y175, y176, (m.1 12), (m.2 46), (m.2 47), (m.2 48), (m.2 49), f7, f8, f9, q179, q180, f12, (hT.2.1 46), (hT.2.1 47), (hT.2.1 48), (hT.2.1 49), (by omega), (by first | (first | exact hLx | (intro h9; exfalso; omega)) | (exfalso; omega)), (by first | (first | exact hPA | (intro k; have := hPA0 k; have h7 := hLx0 hf0; unfold upI; split <;> omega)) | (exfalso; omega)), (fun h => absurd h (by omega)), rfl⟩
      refine Tm_lv (a := [(0, .ref 189), (1, .int (i32 a)), (2, .int (i32 ((4 * a) + ((m.2 46) a)))), (3, .int (i32 (v160 + 1)))]) rfl rfl ⟨rfl, rfl, rfl, rfl, trivial⟩ ?_
      exact L57_177 ((((4 * a) + ((m.2 46) a)) - (v160 + 1) : Int) + 1).toNat (v160 + 1) y161 y162 (r32 (by omega) (by omega)) q165 q166 (by omega) (by omega) (by omega) (fun h => absurd h (by omega)) (by omega)
    refine T_gf 4 (.int (i32 (m.1 10))) rfl rfl rfl rfl rfl rfl ?_
    refine T_if 8 7 rfl rfl rfl (r32 (by omega) (by omega)) (fun (h283 : (m.1 10) ≤ 0) => ?_) (fun (h283 : ¬ ((m.1 10) ≤ 0)) => by exfalso; omega)
    refine T_ld 9 (.int (i32 4)) rfl (fun _ => rfl) ?_
    refine T_ld 10 (.int (i32 a)) rfl (fun _ => rfl) ?_
    refine T_imul 11 rfl rfl ?_
    refine T_gf 15 (.ref 216) rfl rfl rfl rfl rfl rfl ?_
    refine T_ld 16 (.int (i32 a)) rfl (fun _ => rfl) ?_
    refine T_iald 17 46 (m.2 46) rfl rfl rfl (by omega) (show a < (16 : Int) by omega) rfl ?_
    have e284 : 0 ≤ (m.2 46) a ∧ (m.2 46) a ≤ 4 := (hT.2.1 46) a
    refine T_iadd 18 rfl rfl ?_
    refine T_sto 19 [(2, .int (i32 ((4 * a) + ((m.2 46) a)))), (0, .ref 189), (1, .int (i32 a))] rfl (fun _ => rfl) ?_
    refine T_gf 23 (.int (i32 (m.1 7))) rfl rfl rfl rfl rfl rfl ?_
    refine T_ld 24 (.int (i32 1)) rfl (fun _ => rfl) ?_
    refine T_icmp 34 27 rfl rfl rfl (r32 (by omega) (by omega)) ⟨by decide, by decide⟩ (fun (h285 : (m.1 7) = 1) => ?_) (fun (h285 : ¬ ((m.1 7) = 1)) => ?_)
    · skip
      refine T_gf 38 (.ref 216) rfl rfl rfl rfl rfl rfl ?_
      refine T_ld 39 (.int (i32 a)) rfl (fun _ => rfl) ?_
      refine T_iald 40 46 (m.2 46) rfl rfl rfl (by omega) (show a < (16 : Int) by omega) rfl ?_
      have e286 : 0 ≤ (m.2 46) a ∧ (m.2 46) a ≤ 4 := (hT.2.1 46) a
      refine T_ld 41 (.int (i32 4)) rfl (fun _ => rfl) ?_
      refine T_icmp 53 44 rfl rfl rfl (r32 (by omega) (by omega)) ⟨by decide, by decide⟩ (fun (h287 : (m.2 46) a ≠ 4) => ?_) (fun (h287 : ¬ ((m.2 46) a ≠ 4)) => ?_)
      · skip
        refine T_ld 54 (.int (i32 4)) rfl (fun _ => rfl) ?_
        refine T_ld 55 (.int (i32 a)) rfl (fun _ => rfl) ?_
        refine T_imul 56 rfl rfl ?_
        refine T_sto 57 [(3, .int (i32 (4 * a))), (2, .int (i32 ((4 * a) + ((m.2 46) a)))), (0, .ref 189), (1, .int (i32 a))] rfl (fun _ => rfl) ?_
        have L57_291 : ∀ (n : Nat) (v288 : Int) (y289 : Int) (y290 : Int), (R32 v288) → (0 ≤ y289 ∧ y289 ≤ 8) → ((-1) ≤ y290 ∧ y290 ≤ 4000) → (0 ≤ v288) → (v288 ≤ (4 * a) + ((m.2 46) a)) → (y289 = 0 → True) → ((4 * a) + ((m.2 46) a)) - v288 < (n : Int) → TT w D pm_268 (57, [(0, .ref 189), (1, .int (i32 a)), (2, .int (i32 ((4 * a) + ((m.2 46) a)))), (3, .int (i32 v288))], [], (mhp (mO m [(7, (m.1 7)), (8, (m.1 8)), (9, (m.1 9)), (10, y289), (11, y290), (12, (m.1 12))] [(46, (m.2 46)), (47, (m.2 47)), (48, (m.2 48)), (49, (m.2 49))]) c, N), 0, 0) (Q_takeParameter m c N a) := by
          intro n
          induction n with
          | zero =>
            intro v288 y289 y290 q292 q293 q294 ic295 ic296 c297 hmu
            obtain ⟨q292a, q292b⟩ := id q292
            exfalso
            omega
          | succ n ih =>
            intro v288 y289 y290 q292 q293 q294 ic295 ic296 c297 hmu
            obtain ⟨q292a, q292b⟩ := id q292
            have ih298 := ih
            by_cases hf299 : y289 = 0
            · skip
              subst hf299
              refine T_ld 58 (.int (i32 v288)) rfl (fun _ => rfl) ?_
              refine T_ld 59 (.int (i32 ((4 * a) + ((m.2 46) a)))) rfl (fun _ => rfl) ?_
              refine T_icmp 103 62 rfl rfl rfl (r32 (by omega) (by omega)) (r32 (by omega) (by omega)) (fun (h300 : (4 * a) + ((m.2 46) a) ≤ v288) => ?_) (fun (h300 : ¬ ((4 * a) + ((m.2 46) a) ≤ v288)) => ?_)
              · skip
                refine T_gf 107 (.int (i32 0)) rfl rfl rfl rfl rfl rfl ?_
                refine T_if 111 110 rfl rfl rfl ⟨by decide, by decide⟩ (fun _ => ?_) (fun h301 => absurd (show (0 : Int) ≤ 0 by decide) h301)
                refine T_gf 115 (.ref 217) rfl rfl rfl rfl rfl rfl ?_
                refine T_ld 116 (.int (i32 ((4 * a) + ((m.2 46) a)))) rfl (fun _ => rfl) ?_
                refine T_gf 120 (.int (i32 (m.1 8))) rfl rfl rfl rfl rfl rfl ?_
                have G302 : ∀ j, 0 ≤ (upI (m.2 47) ((4 * a) + ((m.2 46) a)) (m.1 8)) j ∧ (upI (m.2 47) ((4 * a) + ((m.2 46) a)) (m.1 8)) j ≤ 4000 := upI_rg (hT.2.1 47) ⟨by omega, by omega⟩
                refine T_iast (a' := [(46, (m.2 46)), (47, upI (m.2 47) ((4 * a) + ((m.2 46) a)) (m.1 8)), (48, (m.2 48)), (49, (m.2 49))]) 121 47 (m.2 47) rfl rfl rfl (by omega) (show ((4 * a) + ((m.2 46) a)) < (64 : Int) by omega) rfl rfl ?_
                refine T_gf 125 (.ref 218) rfl rfl rfl rfl rfl rfl ?_
                refine T_ld 126 (.int (i32 ((4 * a) + ((m.2 46) a)))) rfl (fun _ => rfl) ?_
                refine T_gf 130 (.int (i32 (m.1 9))) rfl rfl rfl rfl rfl rfl ?_
                have G303 : ∀ j, 0 ≤ (upI (m.2 48) ((4 * a) + ((m.2 46) a)) (m.1 9)) j ∧ (upI (m.2 48) ((4 * a) + ((m.2 46) a)) (m.1 9)) j ≤ 4000 := upI_rg (hT.2.1 48) ⟨by omega, by omega⟩
                refine T_iast (a' := [(46, (m.2 46)), (47, upI (m.2 47) ((4 * a) + ((m.2 46) a)) (m.1 8)), (48, upI (m.2 48) ((4 * a) + ((m.2 46) a)) (m.1 9)), (49, (m.2 49))]) 131 48 (m.2 48) rfl rfl rfl (by omega) (show ((4 * a) + ((m.2 46) a)) < (64 : Int) by omega) rfl rfl ?_
                refine T_ld 132 (.ref 189) rfl (fun _ => rfl) ?_
                refine T_call 135 212 [.ref 189] [] rfl (fun _ => rfl) rfl (c_next w (mO m [(7, (m.1 7)), (8, (m.1 8)), (9, (m.1 9)), (10, 0), (11, y290), (12, (m.1 12))] [(46, (m.2 46)), (47, upI (m.2 47) ((4 * a) + ((m.2 46) a)) (m.1 8)), (48, upI (m.2 48) ((4 * a) + ((m.2 46) a)) (m.1 9)), (49, (m.2 49))]) c N D (by omega) (Ty_mO hT rfl rfl ⟨f7, f8, f9, ⟨(by omega : (0 : Int) ≤ 0), (by omega : (0 : Int) ≤ 8)⟩, q294, f12, trivial⟩ ⟨(hT.2.1 46), G302, G303, (hT.2.1 49), trivial⟩) (show (0 : Int) = 0 → (m.1 8) + (m.1 9) ≤ (m.1 6) by first | omega | (intro h9; have h8 := hLx h9; omega))) (fun rr304 k305 => ?_)
                obtain ⟨y306, y308, y310, y312, y314, y316, g307, g309, g311, g313, g315, g317, h318, h319, h320, h321, rfl⟩ := k305
                refine ⟨_, _, rfl, ?_⟩
                refine T_nf (st' := []) (l' := [(7, y306), (8, y308), (9, y310), (10, y312), (11, y314), (12, y316)]) (a' := [(46, (m.2 46)), (47, upI (m.2 47) ((4 * a) + ((m.2 46) a)) (m.1 8)), (48, upI (m.2 48) ((4 * a) + ((m.2 46) a)) (m.1 9)), (49, (m.2 49))]) rfl rfl rfl rfl rfl ?_
                by_cases hf322 : y312 = 0
                · skip
                  subst hf322
                  replace h318 : LxP y306 y308 y310 (m.1 6) (0 : Int) := h318
                  have hLx := h318
                  replace h319 : (0 : Int) = 0 := h319 rfl
                  replace h320 : (m.1 8) ≤ y308 := h320
                  replace h321 : (m.1 8) + (m.1 9) ≤ y308 := h321 rfl
                  have u323 : (m.1 8) + 1 ≤ y308 := by omega
                  clear q293 q294 g313
                  refine T_ld 136 (.ref 189) rfl (fun _ => rfl) ?_
                  refine T_ld 138 (.int (i32 58)) rfl (fun _ => rfl) ?_
                  refine T_call 141 232 [.ref 189, .int (i32 58)] [] rfl (fun _ => rfl) rfl (c_need w (mO m [(7, y306), (8, y308), (9, y310), (10, 0), (11, y314), (12, y316)] [(46, (m.2 46)), (47, upI (m.2 47) ((4 * a) + ((m.2 46) a)) (m.1 8)), (48, upI (m.2 48) ((4 * a) + ((m.2 46) a)) (m.1 9)), (49, (m.2 49))]) c N D (by omega) (Ty_mO hT rfl rfl ⟨g307, g309, g311, ⟨(by omega : (0 : Int) ≤ 0), (by omega : (0 : Int) ≤ 8)⟩, g315, g317, trivial⟩ ⟨(hT.2.1 46), G302, G303, (hT.2.1 49), trivial⟩) 58 ⟨by decide, by decide⟩ (show 1 ≤ (58 : Int) by omega) (show LxP y306 y308 y310 (m.1 6) (0 : Int) by first | exact hLx | (intro h9; exfalso; omega) | (intro h9; have h8 := hLx (by omega); omega))) (fun rr324 k325 => ?_)
                  obtain ⟨y326, y328, y330, y332, y334, y336, g327, g329, g331, g333, g335, g337, h338, h339, h340, h341, rfl⟩ := k325
                  refine ⟨_, _, rfl, ?_⟩
                  refine T_nf (st' := []) (l' := [(7, y326), (8, y328), (9, y330), (10, y332), (11, y334), (12, y336)]) (a' := [(46, (m.2 46)), (47, upI (m.2 47) ((4 * a) + ((m.2 46) a)) (m.1 8)), (48, upI (m.2 48) ((4 * a) + ((m.2 46) a)) (m.1 9)), (49, (m.2 49))]) rfl rfl rfl rfl rfl ?_
                  by_cases hf342 : y332 = 0
                  · skip
                    subst hf342
                    replace h338 : LxP y326 y328 y330 (m.1 6) (0 : Int) := h338
                    have hLx := h338
                    replace h339 : (0 : Int) = 0 ∧ y306 = (58 : Int) := h339 rfl
                    replace h340 : y308 ≤ y328 := h340
                    replace h341 : y308 + y310 ≤ y328 := h341 rfl
                    have u343 : (m.1 8) + 1 ≤ y328 := by omega
                    clear g307 g309 g311 g315 g317 h318 h320 h321 u323 g333 h339 h340 h341
                    refine T_gf 145 (.ref 219) rfl rfl rfl rfl rfl rfl ?_
                    refine T_ld 146 (.int (i32 ((4 * a) + ((m.2 46) a)))) rfl (fun _ => rfl) ?_
                    refine T_ld 147 (.ref 189) rfl (fun _ => rfl) ?_
                    refine T_ld 148 (.int (i32 1)) rfl (fun _ => rfl) ?_
                    refine T_ld 150 (.int (i32 64)) rfl (fun _ => rfl) ?_
                    refine T_call 153 234 [.ref 189, .int (i32 1), .int (i32 64)] [.int (i32 ((4 * a) + ((m.2 46) a))), .ref 219] rfl (fun _ => rfl) rfl (c_number w (mO m [(7, y326), (8, y328), (9, y330), (10, 0), (11, y334), (12, y336)] [(46, (m.2 46)), (47, upI (m.2 47) ((4 * a) + ((m.2 46) a)) (m.1 8)), (48, upI (m.2 48) ((4 * a) + ((m.2 46) a)) (m.1 9)), (49, (m.2 49))]) c N D (by omega) (Ty_mO hT rfl rfl ⟨g327, g329, g331, ⟨(by omega : (0 : Int) ≤ 0), (by omega : (0 : Int) ≤ 8)⟩, g335, g337, trivial⟩ ⟨(hT.2.1 46), G302, G303, (hT.2.1 49), trivial⟩) 1 64 ⟨by decide, by decide⟩ ⟨by decide, by decide⟩ (show LxP y326 y328 y330 (m.1 6) (0 : Int) by first | exact hLx | (intro h9; exfalso; omega) | (intro h9; have h8 := hLx (by omega); omega)) (show (1 : Int) ≤ (64 : Int) by omega)) (fun rr344 k345 => ?_)
                    obtain ⟨y346, y348, y350, y352, y354, y356, nu, g347, g349, g351, g353, g355, g357, g358, h359, h360, h361, h362, h363, h364, rfl⟩ := k345
                    refine ⟨_, _, rfl, ?_⟩
                    refine T_nf (st' := [.int (i32 nu), .int (i32 ((4 * a) + ((m.2 46) a))), .ref 219]) (l' := [(7, y346), (8, y348), (9, y350), (10, y352), (11, y354), (12, y356)]) (a' := [(46, (m.2 46)), (47, upI (m.2 47) ((4 * a) + ((m.2 46) a)) (m.1 8)), (48, upI (m.2 48) ((4 * a) + ((m.2 46) a)) (m.1 9)), (49, (m.2 49))]) rfl rfl rfl rfl rfl ?_
                    obtain ⟨g358a, g358b⟩ := g358
                    by_cases hf365 : y352 = 0
                    · skip
                      subst hf365
                      replace h359 : LxP y346 y348 y350 (m.1 6) (0 : Int) := h359
                      have hLx := h359
                      replace h360 : y328 ≤ y348 := h360
                      replace h361 : (0 : Int) = 0 ∧ y328 + y330 ≤ y348 := h361 rfl
                      replace h362 : y326 = 2 := h362 rfl
                      replace h363 : (1 : Int) ≤ nu ∧ nu ≤ (64 : Int) := h363
                      replace h364 : nu = y336 := h364 rfl
                      have u366 : (m.1 8) + 1 ≤ y348 := by omega
                      clear g327 g329 g331 g335 g337 h338 u343 g353 h360 h361 h362 h364
                      have G367 : ∀ j, 0 ≤ (upI (m.2 49) ((4 * a) + ((m.2 46) a)) nu) j ∧ (upI (m.2 49) ((4 * a) + ((m.2 46) a)) nu) j ≤ 64 := upI_rg (hT.2.1 49) ⟨by omega, by omega⟩
                      refine T_iast (a' := [(46, (m.2 46)), (47, upI (m.2 47) ((4 * a) + ((m.2 46) a)) (m.1 8)), (48, upI (m.2 48) ((4 * a) + ((m.2 46) a)) (m.1 9)), (49, upI (m.2 49) ((4 * a) + ((m.2 46) a)) nu)]) 154 49 (m.2 49) rfl rfl rfl (by omega) (show ((4 * a) + ((m.2 46) a)) < (64 : Int) by omega) rfl rfl ?_
                      refine T_gf 158 (.ref 216) rfl rfl rfl rfl rfl rfl ?_
                      refine T_ld 159 (.int (i32 a)) rfl (fun _ => rfl) ?_
                      refine T_dup2 160 rfl (fun _ => rfl) ?_
                      refine T_iald 161 46 (m.2 46) rfl rfl rfl (by omega) (show a < (16 : Int) by omega) rfl ?_
                      have e368 : 0 ≤ (m.2 46) a ∧ (m.2 46) a ≤ 4 := (hT.2.1 46) a
                      refine T_ld 162 (.int (i32 1)) rfl (fun _ => rfl) ?_
                      refine T_iadd 163 rfl rfl ?_
                      have G369 : ∀ j, 0 ≤ (upI (m.2 46) a (((m.2 46) a) + 1)) j ∧ (upI (m.2 46) a (((m.2 46) a) + 1)) j ≤ 4 := upI_rg (hT.2.1 46) ⟨by omega, by omega⟩
                      refine T_iast (a' := [(46, upI (m.2 46) a (((m.2 46) a) + 1)), (47, upI (m.2 47) ((4 * a) + ((m.2 46) a)) (m.1 8)), (48, upI (m.2 48) ((4 * a) + ((m.2 46) a)) (m.1 9)), (49, upI (m.2 49) ((4 * a) + ((m.2 46) a)) nu)]) 164 46 (m.2 46) rfl rfl rfl (by omega) (show a < (16 : Int) by omega) rfl rfl ?_
                      refine T_ret rfl (fun _ => rfl) ?_
                      exact ⟨y346, y348, y350, 0, y354, y356, upI (m.2 46) a (((m.2 46) a) + 1), upI (m.2 47) ((4 * a) + ((m.2 46) a)) (m.1 8), upI (m.2 48) ((4 * a) + ((m.2 46) a)) (m.1 9), upI (m.2 49) ((4 * a) + ((m.2 46) a)) nu, g347, g349, g351, ⟨by omega, by omega⟩, g355, g357, G369, G302, G303, G367, (by omega), (by first | (first | exact hLx | (intro h9; exfalso; omega)) | (exfalso; omega)), (by first | (first | exact hPA | (intro k; have := hPA0 k; have h7 := hLx0 hf0; unfold upI; split <;> omega)) | (exfalso; omega)), (fun _ => (by omega)), rfl⟩
                    · skip
                      replace h359 : LxP y346 y348 y350 (m.1 6) y352 := h359
                      have hLx := h359
                      replace h360 : y328 ≤ y348 := h360
                      clear h361
                      clear h362
                      replace h363 : (1 : Int) ≤ nu ∧ nu ≤ (64 : Int) := h363
                      clear h364
                      have hf370 : 1 ≤ y352 := by omega
                      clear g327 g329 g331 g335 g337 h338 u343 h360
                      exact J153_46 v288 nu y346 y348 y350 y352 y354 y356 (upI (m.2 47) ((4 * a) + ((m.2 46) a)) (m.1 8)) (upI (m.2 48) ((4 * a) + ((m.2 46) a)) (m.1 9)) (r32 (by omega) (by omega)) (r32 (by omega) (by omega)) g347 g349 g351 g353 g355 g357 G302 G303 (by omega) (by omega) (by omega) (by omega) (by omega) (by first | exact hPA | (intro k; have := hPA0 k; have h7 := hLx0 hf0; unfold upI; split <;> omega)) (by omega)
                  · skip
                    replace h338 : LxP y326 y328 y330 (m.1 6) y332 := h338
                    have hLx := h338
                    clear h339
                    replace h340 : y308 ≤ y328 := h340
                    clear h341
                    have hf371 : 1 ≤ y332 := by omega
                    clear g307 g309 g311 g315 g317 h318 h320 h321 u323 h340
                    exact J141_77 v288 y326 y328 y330 y332 y334 y336 (upI (m.2 47) ((4 * a) + ((m.2 46) a)) (m.1 8)) (upI (m.2 48) ((4 * a) + ((m.2 46) a)) (m.1 9)) (r32 (by omega) (by omega)) g327 g329 g331 g333 g335 g337 G302 G303 (by omega) (by omega) (by omega) (by first | exact hPA | (intro k; have := hPA0 k; have h7 := hLx0 hf0; unfold upI; split <;> omega)) (by omega)
                · skip
                  replace h318 : LxP y306 y308 y310 (m.1 6) y312 := h318
                  have hLx := h318
                  clear h319
                  replace h320 : (m.1 8) ≤ y308 := h320
                  clear h321
                  have hf372 : 1 ≤ y312 := by omega
                  clear q293 q294
                  exact J135_124 v288 y306 y308 y310 y312 y314 y316 (upI (m.2 47) ((4 * a) + ((m.2 46) a)) (m.1 8)) (upI (m.2 48) ((4 * a) + ((m.2 46) a)) (m.1 9)) (r32 (by omega) (by omega)) g307 g309 g311 g313 g315 g317 G302 G303 (by omega) (by omega) (by omega) (by first | exact hPA | (intro k; have := hPA0 k; have h7 := hLx0 hf0; unfold upI; split <;> omega)) (by omega) (by omega)
              · skip
                refine T_gf 66 (.int (i32 0)) rfl rfl rfl rfl rfl rfl ?_
                refine T_if 103 69 rfl rfl rfl ⟨by decide, by decide⟩ (fun h373 => absurd (show (0 : Int) ≠ 0 from h373) (by decide)) (fun _ => ?_)
                have hp3 := hPA v288
                refine T_ld 70 (.ref 189) rfl (fun _ => rfl) ?_
                refine T_gf 74 (.ref 217) rfl rfl rfl rfl rfl rfl ?_
                refine T_ld 75 (.int (i32 v288)) rfl (fun _ => rfl) ?_
                refine T_iald 76 47 (m.2 47) rfl rfl rfl (by omega) (show v288 < (64 : Int) by omega) rfl ?_
                have e374 : 0 ≤ (m.2 47) v288 ∧ (m.2 47) v288 ≤ 4000 := (hT.2.1 47) v288
                refine T_gf 80 (.ref 218) rfl rfl rfl rfl rfl rfl ?_
                refine T_ld 81 (.int (i32 v288)) rfl (fun _ => rfl) ?_
                refine T_iald 82 48 (m.2 48) rfl rfl rfl (by omega) (show v288 < (64 : Int) by omega) rfl ?_
                have e375 : 0 ≤ (m.2 48) v288 ∧ (m.2 48) v288 ≤ 4000 := (hT.2.1 48) v288
                refine T_call 85 230 [.ref 189, .int (i32 ((m.2 47) v288)), .int (i32 ((m.2 48) v288))] [] rfl (fun _ => rfl) rfl (c_isHere w (mO m [(7, (m.1 7)), (8, (m.1 8)), (9, (m.1 9)), (10, 0), (11, y290), (12, (m.1 12))] [(46, (m.2 46)), (47, (m.2 47)), (48, (m.2 48)), (49, (m.2 49))]) c N D (by omega) (Ty_mO hT rfl rfl ⟨f7, f8, f9, ⟨(by omega : (0 : Int) ≤ 0), (by omega : (0 : Int) ≤ 8)⟩, q294, f12, trivial⟩ ⟨(hT.2.1 46), (hT.2.1 47), (hT.2.1 48), (hT.2.1 49), trivial⟩) ((m.2 47) v288) ((m.2 48) v288) (r32 (by omega) (by omega)) (r32 (by omega) (by omega)) (show 0 ≤ ((m.2 47) v288) by omega) (show 0 ≤ ((m.2 48) v288) by omega) (show ((m.2 47) v288) + ((m.2 48) v288) ≤ 4000 by omega) (show 1 ≤ (m.1 9) ∧ (m.1 8) + (m.1 9) ≤ (m.1 6) by first | omega | (have h8 := hLx (by omega); omega))) (fun rr376 k377 => ?_)
                obtain ⟨x378, g379, h380, rfl⟩ := k377
                refine ⟨_, _, rfl, ?_⟩
                refine T_nf (st' := [.int (i32 x378)]) (l' := [(7, (m.1 7)), (8, (m.1 8)), (9, (m.1 9)), (10, 0), (11, y290), (12, (m.1 12))]) (a' := [(46, (m.2 46)), (47, (m.2 47)), (48, (m.2 48)), (49, (m.2 49))]) rfl rfl rfl rfl rfl ?_
                obtain ⟨g379a, g379b⟩ := g379
                replace h380 : (x378 = 1 ∧ sameN (m.2 4) (m.1 8) (m.1 9) ((m.2 47) v288) ((m.2 48) v288)) ∨ (x378 = 0 ∧ ¬ sameN (m.2 4) (m.1 8) (m.1 9) ((m.2 47) v288) ((m.2 48) v288)) := h380
                have hh := h380
                have u381 : (m.1 8) ≤ (m.1 8) := by omega
                clear q293
                refine T_if 97 88 rfl rfl rfl (r32 (by omega) (by omega)) (fun (h382 : x378 = 0) => ?_) (fun (h382 : ¬ (x378 = 0)) => ?_)
                · skip
                  refine T_iinc 100 [(3, .int (i32 (v288 + 1))), (0, .ref 189), (1, .int (i32 a)), (2, .int (i32 ((4 * a) + ((m.2 46) a))))] rfl rfl (by decide) rfl rfl ?_
                  refine T_goto 57 rfl (fun _ => rfl) ?_
                  refine Tm_lv (a := [(0, .ref 189), (1, .int (i32 a)), (2, .int (i32 ((4 * a) + ((m.2 46) a)))), (3, .int (i32 (v288 + 1)))]) rfl rfl ⟨rfl, rfl, rfl, rfl, trivial⟩ ?_
                  exact ih298 (v288 + 1) 0 y290 (r32 (by omega) (by omega)) ⟨by omega, by omega⟩ q294 (by omega) (by omega) (fun _ => trivial) (by omega)
                · skip
                  refine T_ld 89 (.ref 189) rfl (fun _ => rfl) ?_
                  refine T_ld 90 (.int (i32 3)) rfl (fun _ => rfl) ?_
                  refine T_gf 94 (.int (i32 (m.1 8))) rfl rfl rfl rfl rfl rfl ?_
                  refine T_call 97 222 [.ref 189, .int (i32 3), .int (i32 (m.1 8))] [] rfl (fun _ => rfl) rfl (c_wrong w (mO m [(7, (m.1 7)), (8, (m.1 8)), (9, (m.1 9)), (10, 0), (11, y290), (12, (m.1 12))] [(46, (m.2 46)), (47, (m.2 47)), (48, (m.2 48)), (49, (m.2 49))]) c N D (by omega) (Ty_mO hT rfl rfl ⟨f7, f8, f9, ⟨(by omega : (0 : Int) ≤ 0), (by omega : (0 : Int) ≤ 8)⟩, q294, f12, trivial⟩ ⟨(hT.2.1 46), (hT.2.1 47), (hT.2.1 48), (hT.2.1 49), trivial⟩) 3 (m.1 8) ⟨by decide, by decide⟩ (r32 (by omega) (by omega)) (show 1 ≤ (3 : Int) ∧ (3 : Int) ≤ 8 by omega) (show 0 ≤ (m.1 8) ∧ (m.1 8) ≤ 4000 by omega)) (fun rr383 k384 => ?_)
                  obtain ⟨y385, y387, g386, g388, h389, rfl⟩ := k384
                  refine ⟨_, _, rfl, ?_⟩
                  refine T_nf (st' := []) (l' := [(7, (m.1 7)), (8, (m.1 8)), (9, (m.1 9)), (10, y385), (11, y387), (12, (m.1 12))]) (a' := [(46, (m.2 46)), (47, (m.2 47)), (48, (m.2 48)), (49, (m.2 49))]) rfl rfl rfl rfl rfl ?_
                  replace h389 : (0 < (0 : Int) → y385 = (0 : Int) ∧ y387 = y290) ∧ ((0 : Int) ≤ 0 → y385 = (3 : Int) ∧ y387 = (m.1 8)) := h389
                  have hf390 : 1 ≤ y385 := by omega
                  clear q294 g379a g379b h380 h382 h389
                  exact J97_163 v288 y385 y387 (r32 (by omega) (by omega)) g386 g388 (by omega) (by omega) (by omega) (by omega) (by first | exact hPA | (intro k; have := hPA0 k; have h7 := hLx0 hf0; unfold upI; split <;> omega)) (by omega)
            · skip
              clear c297
              have hf391 : 1 ≤ y289 := by omega
              refine T_ld 58 (.int (i32 v288)) rfl (fun _ => rfl) ?_
              refine T_ld 59 (.int (i32 ((4 * a) + ((m.2 46) a)))) rfl (fun _ => rfl) ?_
              refine T_icmp 103 62 rfl rfl rfl (r32 (by omega) (by omega)) (r32 (by omega) (by omega)) (fun (h392 : (4 * a) + ((m.2 46) a) ≤ v288) => ?_) (fun (h392 : ¬ ((4 * a) + ((m.2 46) a) ≤ v288)) => ?_)
              · skip
                refine T_gf 107 (.int (i32 y289)) rfl rfl rfl rfl rfl rfl ?_
                refine T_if 111 110 rfl rfl rfl (r32 (by omega) (by omega)) (fun (h393 : y289 ≤ 0) => by exfalso; omega) (fun (h393 : ¬ (y289 ≤ 0)) => ?_)
                refine T_ret rfl (fun _ => rfl) ?_
                exact ⟨(m.1 7), (m.1 8), (m.1 9), y289, y290, (m.1 12), (m.2 46), (m.2 47), (m.2 48), (m.2 49), f7, f8, f9, q293, q294, f12, (hT.2.1 46), (hT.2.1 47), (hT.2.1 48), (hT.2.1 49), (by omega), (by first | (first | exact hLx | (intro h9; exfalso; omega)) | (exfalso; omega)), (by first | (first | exact hPA | (intro k; have := hPA0 k; have h7 := hLx0 hf0; unfold upI; split <;> omega)) | (exfalso; omega)), (fun h => absurd h (by omega)), rfl⟩
              · skip
                refine T_gf 66 (.int (i32 y289)) rfl rfl rfl rfl rfl rfl ?_
                refine T_if 103 69 rfl rfl rfl (r32 (by omega) (by omega)) (fun (h394 : y289 ≠ 0) => ?_) (fun (h394 : ¬ (y289 ≠ 0)) => by exfalso; omega)
                refine T_gf 107 (.int (i32 y289)) rfl rfl rfl rfl rfl rfl ?_
                refine T_if 111 110 rfl rfl rfl (r32 (by omega) (by omega)) (fun (h395 : y289 ≤ 0) => by exfalso; omega) (fun (h395 : ¬ (y289 ≤ 0)) => ?_)
                refine T_ret rfl (fun _ => rfl) ?_
                exact ⟨(m.1 7), (m.1 8), (m.1 9), y289, y290, (m.1 12), (m.2 46), (m.2 47), (m.2 48), (m.2 49), f7, f8, f9, q293, q294, f12, (hT.2.1 46), (hT.2.1 47), (hT.2.1 48), (hT.2.1 49), (by omega), (by first | (first | exact hLx | (intro h9; exfalso; omega)) | (exfalso; omega)), (by first | (first | exact hPA | (intro k; have := hPA0 k; have h7 := hLx0 hf0; unfold upI; split <;> omega)) | (exfalso; omega)), (fun h => absurd h (by omega)), rfl⟩
        refine Tm_lv (a := [(0, .ref 189), (1, .int (i32 a)), (2, .int (i32 ((4 * a) + ((m.2 46) a)))), (3, .int (i32 (4 * a)))]) rfl rfl ⟨rfl, rfl, rfl, rfl, trivial⟩ ?_
        exact L57_291 ((((4 * a) + ((m.2 46) a)) - (4 * a) : Int) + 1).toNat (4 * a) (m.1 10) (m.1 11) (r32 (by omega) (by omega)) f10 f11 (by omega) (by omega) (fun _ => trivial) (by omega)
      · skip
        refine T_ld 45 (.ref 189) rfl (fun _ => rfl) ?_
        refine T_ld 46 (.int (i32 4)) rfl (fun _ => rfl) ?_
        refine T_gf 50 (.int (i32 (m.1 8))) rfl rfl rfl rfl rfl rfl ?_
        refine T_call 53 222 [.ref 189, .int (i32 4), .int (i32 (m.1 8))] [] rfl (fun _ => rfl) rfl (c_wrong w (mO m [(7, (m.1 7)), (8, (m.1 8)), (9, (m.1 9)), (10, (m.1 10)), (11, (m.1 11)), (12, (m.1 12))] [(46, (m.2 46)), (47, (m.2 47)), (48, (m.2 48)), (49, (m.2 49))]) c N D (by omega) (Ty_mO hT rfl rfl ⟨f7, f8, f9, f10, f11, f12, trivial⟩ ⟨(hT.2.1 46), (hT.2.1 47), (hT.2.1 48), (hT.2.1 49), trivial⟩) 4 (m.1 8) ⟨by decide, by decide⟩ (r32 (by omega) (by omega)) (show 1 ≤ (4 : Int) ∧ (4 : Int) ≤ 8 by omega) (show 0 ≤ (m.1 8) ∧ (m.1 8) ≤ 4000 by omega)) (fun rr396 k397 => ?_)
        obtain ⟨y398, y400, g399, g401, h402, rfl⟩ := k397
        refine ⟨_, _, rfl, ?_⟩
        refine T_nf (st' := []) (l' := [(7, (m.1 7)), (8, (m.1 8)), (9, (m.1 9)), (10, y398), (11, y400), (12, (m.1 12))]) (a' := [(46, (m.2 46)), (47, (m.2 47)), (48, (m.2 48)), (49, (m.2 49))]) rfl rfl rfl rfl rfl ?_
        replace h402 : (0 < (m.1 10) → y398 = (m.1 10) ∧ y400 = (m.1 11)) ∧ ((m.1 10) ≤ 0 → y398 = (4 : Int) ∧ y400 = (m.1 8)) := h402
        have hf403 : 1 ≤ y398 := by omega
        refine T_ld 54 (.int (i32 4)) rfl (fun _ => rfl) ?_
        refine T_ld 55 (.int (i32 a)) rfl (fun _ => rfl) ?_
        refine T_imul 56 rfl rfl ?_
        refine T_sto 57 [(3, .int (i32 (4 * a))), (2, .int (i32 ((4 * a) + ((m.2 46) a)))), (0, .ref 189), (1, .int (i32 a))] rfl (fun _ => rfl) ?_
        have L57_407 : ∀ (n : Nat) (v404 : Int) (y405 : Int) (y406 : Int), (R32 v404) → (0 ≤ y405 ∧ y405 ≤ 8) → ((-1) ≤ y406 ∧ y406 ≤ 4000) → (0 ≤ v404) → (v404 ≤ (4 * a) + ((m.2 46) a)) → (y405 = 0 → True) → ((4 * a) + ((m.2 46) a)) - v404 < (n : Int) → TT w D pm_268 (57, [(0, .ref 189), (1, .int (i32 a)), (2, .int (i32 ((4 * a) + ((m.2 46) a)))), (3, .int (i32 v404))], [], (mhp (mO m [(7, (m.1 7)), (8, (m.1 8)), (9, (m.1 9)), (10, y405), (11, y406), (12, (m.1 12))] [(46, (m.2 46)), (47, (m.2 47)), (48, (m.2 48)), (49, (m.2 49))]) c, N), 0, 0) (Q_takeParameter m c N a) := by
          intro n
          induction n with
          | zero =>
            intro v404 y405 y406 q408 q409 q410 ic411 ic412 c413 hmu
            obtain ⟨q408a, q408b⟩ := id q408
            exfalso
            omega
          | succ n ih =>
            intro v404 y405 y406 q408 q409 q410 ic411 ic412 c413 hmu
            obtain ⟨q408a, q408b⟩ := id q408
            have ih414 := ih
            by_cases hf415 : y405 = 0
            · skip
              subst hf415
              refine T_ld 58 (.int (i32 v404)) rfl (fun _ => rfl) ?_
              refine T_ld 59 (.int (i32 ((4 * a) + ((m.2 46) a)))) rfl (fun _ => rfl) ?_
              refine T_icmp 103 62 rfl rfl rfl (r32 (by omega) (by omega)) (r32 (by omega) (by omega)) (fun (h416 : (4 * a) + ((m.2 46) a) ≤ v404) => ?_) (fun (h416 : ¬ ((4 * a) + ((m.2 46) a) ≤ v404)) => ?_)
              · skip
                refine T_gf 107 (.int (i32 0)) rfl rfl rfl rfl rfl rfl ?_
                refine T_if 111 110 rfl rfl rfl ⟨by decide, by decide⟩ (fun _ => ?_) (fun h417 => absurd (show (0 : Int) ≤ 0 by decide) h417)
                refine T_gf 115 (.ref 217) rfl rfl rfl rfl rfl rfl ?_
                refine T_ld 116 (.int (i32 ((4 * a) + ((m.2 46) a)))) rfl (fun _ => rfl) ?_
                refine T_gf 120 (.int (i32 (m.1 8))) rfl rfl rfl rfl rfl rfl ?_
                have G418 : ∀ j, 0 ≤ (upI (m.2 47) ((4 * a) + ((m.2 46) a)) (m.1 8)) j ∧ (upI (m.2 47) ((4 * a) + ((m.2 46) a)) (m.1 8)) j ≤ 4000 := upI_rg (hT.2.1 47) ⟨by omega, by omega⟩
                refine T_iast (a' := [(46, (m.2 46)), (47, upI (m.2 47) ((4 * a) + ((m.2 46) a)) (m.1 8)), (48, (m.2 48)), (49, (m.2 49))]) 121 47 (m.2 47) rfl rfl rfl (by omega) (show ((4 * a) + ((m.2 46) a)) < (64 : Int) by omega) rfl rfl ?_
                refine T_gf 125 (.ref 218) rfl rfl rfl rfl rfl rfl ?_
                refine T_ld 126 (.int (i32 ((4 * a) + ((m.2 46) a)))) rfl (fun _ => rfl) ?_
                refine T_gf 130 (.int (i32 (m.1 9))) rfl rfl rfl rfl rfl rfl ?_
                have G419 : ∀ j, 0 ≤ (upI (m.2 48) ((4 * a) + ((m.2 46) a)) (m.1 9)) j ∧ (upI (m.2 48) ((4 * a) + ((m.2 46) a)) (m.1 9)) j ≤ 4000 := upI_rg (hT.2.1 48) ⟨by omega, by omega⟩
                refine T_iast (a' := [(46, (m.2 46)), (47, upI (m.2 47) ((4 * a) + ((m.2 46) a)) (m.1 8)), (48, upI (m.2 48) ((4 * a) + ((m.2 46) a)) (m.1 9)), (49, (m.2 49))]) 131 48 (m.2 48) rfl rfl rfl (by omega) (show ((4 * a) + ((m.2 46) a)) < (64 : Int) by omega) rfl rfl ?_
                refine T_ld 132 (.ref 189) rfl (fun _ => rfl) ?_
                refine T_call 135 212 [.ref 189] [] rfl (fun _ => rfl) rfl (c_next w (mO m [(7, (m.1 7)), (8, (m.1 8)), (9, (m.1 9)), (10, 0), (11, y406), (12, (m.1 12))] [(46, (m.2 46)), (47, upI (m.2 47) ((4 * a) + ((m.2 46) a)) (m.1 8)), (48, upI (m.2 48) ((4 * a) + ((m.2 46) a)) (m.1 9)), (49, (m.2 49))]) c N D (by omega) (Ty_mO hT rfl rfl ⟨f7, f8, f9, ⟨(by omega : (0 : Int) ≤ 0), (by omega : (0 : Int) ≤ 8)⟩, q410, f12, trivial⟩ ⟨(hT.2.1 46), G418, G419, (hT.2.1 49), trivial⟩) (show (0 : Int) = 0 → (m.1 8) + (m.1 9) ≤ (m.1 6) by first | omega | (intro h9; have h8 := hLx h9; omega))) (fun rr420 k421 => ?_)
                obtain ⟨y422, y424, y426, y428, y430, y432, g423, g425, g427, g429, g431, g433, h434, h435, h436, h437, rfl⟩ := k421
                refine ⟨_, _, rfl, ?_⟩
                refine T_nf (st' := []) (l' := [(7, y422), (8, y424), (9, y426), (10, y428), (11, y430), (12, y432)]) (a' := [(46, (m.2 46)), (47, upI (m.2 47) ((4 * a) + ((m.2 46) a)) (m.1 8)), (48, upI (m.2 48) ((4 * a) + ((m.2 46) a)) (m.1 9)), (49, (m.2 49))]) rfl rfl rfl rfl rfl ?_
                by_cases hf438 : y428 = 0
                · skip
                  subst hf438
                  replace h434 : LxP y422 y424 y426 (m.1 6) (0 : Int) := h434
                  have hLx := h434
                  replace h435 : (0 : Int) = 0 := h435 rfl
                  replace h436 : (m.1 8) ≤ y424 := h436
                  replace h437 : (m.1 8) + (m.1 9) ≤ y424 := h437 rfl
                  have u439 : (m.1 8) + 1 ≤ y424 := by omega
                  clear g399 g401 hf403 h402 q409 q410 g429
                  refine T_ld 136 (.ref 189) rfl (fun _ => rfl) ?_
                  refine T_ld 138 (.int (i32 58)) rfl (fun _ => rfl) ?_
                  refine T_call 141 232 [.ref 189, .int (i32 58)] [] rfl (fun _ => rfl) rfl (c_need w (mO m [(7, y422), (8, y424), (9, y426), (10, 0), (11, y430), (12, y432)] [(46, (m.2 46)), (47, upI (m.2 47) ((4 * a) + ((m.2 46) a)) (m.1 8)), (48, upI (m.2 48) ((4 * a) + ((m.2 46) a)) (m.1 9)), (49, (m.2 49))]) c N D (by omega) (Ty_mO hT rfl rfl ⟨g423, g425, g427, ⟨(by omega : (0 : Int) ≤ 0), (by omega : (0 : Int) ≤ 8)⟩, g431, g433, trivial⟩ ⟨(hT.2.1 46), G418, G419, (hT.2.1 49), trivial⟩) 58 ⟨by decide, by decide⟩ (show 1 ≤ (58 : Int) by omega) (show LxP y422 y424 y426 (m.1 6) (0 : Int) by first | exact hLx | (intro h9; exfalso; omega) | (intro h9; have h8 := hLx (by omega); omega))) (fun rr440 k441 => ?_)
                  obtain ⟨y442, y444, y446, y448, y450, y452, g443, g445, g447, g449, g451, g453, h454, h455, h456, h457, rfl⟩ := k441
                  refine ⟨_, _, rfl, ?_⟩
                  refine T_nf (st' := []) (l' := [(7, y442), (8, y444), (9, y446), (10, y448), (11, y450), (12, y452)]) (a' := [(46, (m.2 46)), (47, upI (m.2 47) ((4 * a) + ((m.2 46) a)) (m.1 8)), (48, upI (m.2 48) ((4 * a) + ((m.2 46) a)) (m.1 9)), (49, (m.2 49))]) rfl rfl rfl rfl rfl ?_
                  by_cases hf458 : y448 = 0
                  · skip
                    subst hf458
                    replace h454 : LxP y442 y444 y446 (m.1 6) (0 : Int) := h454
                    have hLx := h454
                    replace h455 : (0 : Int) = 0 ∧ y422 = (58 : Int) := h455 rfl
                    replace h456 : y424 ≤ y444 := h456
                    replace h457 : y424 + y426 ≤ y444 := h457 rfl
                    have u459 : (m.1 8) + 1 ≤ y444 := by omega
                    clear g423 g425 g427 g431 g433 h434 h436 h437 u439 g449 h455 h456 h457
                    refine T_gf 145 (.ref 219) rfl rfl rfl rfl rfl rfl ?_
                    refine T_ld 146 (.int (i32 ((4 * a) + ((m.2 46) a)))) rfl (fun _ => rfl) ?_
                    refine T_ld 147 (.ref 189) rfl (fun _ => rfl) ?_
                    refine T_ld 148 (.int (i32 1)) rfl (fun _ => rfl) ?_
                    refine T_ld 150 (.int (i32 64)) rfl (fun _ => rfl) ?_
                    refine T_call 153 234 [.ref 189, .int (i32 1), .int (i32 64)] [.int (i32 ((4 * a) + ((m.2 46) a))), .ref 219] rfl (fun _ => rfl) rfl (c_number w (mO m [(7, y442), (8, y444), (9, y446), (10, 0), (11, y450), (12, y452)] [(46, (m.2 46)), (47, upI (m.2 47) ((4 * a) + ((m.2 46) a)) (m.1 8)), (48, upI (m.2 48) ((4 * a) + ((m.2 46) a)) (m.1 9)), (49, (m.2 49))]) c N D (by omega) (Ty_mO hT rfl rfl ⟨g443, g445, g447, ⟨(by omega : (0 : Int) ≤ 0), (by omega : (0 : Int) ≤ 8)⟩, g451, g453, trivial⟩ ⟨(hT.2.1 46), G418, G419, (hT.2.1 49), trivial⟩) 1 64 ⟨by decide, by decide⟩ ⟨by decide, by decide⟩ (show LxP y442 y444 y446 (m.1 6) (0 : Int) by first | exact hLx | (intro h9; exfalso; omega) | (intro h9; have h8 := hLx (by omega); omega)) (show (1 : Int) ≤ (64 : Int) by omega)) (fun rr460 k461 => ?_)
                    obtain ⟨y462, y464, y466, y468, y470, y472, nu, g463, g465, g467, g469, g471, g473, g474, h475, h476, h477, h478, h479, h480, rfl⟩ := k461
                    refine ⟨_, _, rfl, ?_⟩
                    refine T_nf (st' := [.int (i32 nu), .int (i32 ((4 * a) + ((m.2 46) a))), .ref 219]) (l' := [(7, y462), (8, y464), (9, y466), (10, y468), (11, y470), (12, y472)]) (a' := [(46, (m.2 46)), (47, upI (m.2 47) ((4 * a) + ((m.2 46) a)) (m.1 8)), (48, upI (m.2 48) ((4 * a) + ((m.2 46) a)) (m.1 9)), (49, (m.2 49))]) rfl rfl rfl rfl rfl ?_
                    obtain ⟨g474a, g474b⟩ := g474
                    by_cases hf481 : y468 = 0
                    · skip
                      subst hf481
                      replace h475 : LxP y462 y464 y466 (m.1 6) (0 : Int) := h475
                      have hLx := h475
                      replace h476 : y444 ≤ y464 := h476
                      replace h477 : (0 : Int) = 0 ∧ y444 + y446 ≤ y464 := h477 rfl
                      replace h478 : y442 = 2 := h478 rfl
                      replace h479 : (1 : Int) ≤ nu ∧ nu ≤ (64 : Int) := h479
                      replace h480 : nu = y452 := h480 rfl
                      have u482 : (m.1 8) + 1 ≤ y464 := by omega
                      clear g443 g445 g447 g451 g453 h454 u459 g469 h476 h477 h478 h480
                      have G483 : ∀ j, 0 ≤ (upI (m.2 49) ((4 * a) + ((m.2 46) a)) nu) j ∧ (upI (m.2 49) ((4 * a) + ((m.2 46) a)) nu) j ≤ 64 := upI_rg (hT.2.1 49) ⟨by omega, by omega⟩
                      refine T_iast (a' := [(46, (m.2 46)), (47, upI (m.2 47) ((4 * a) + ((m.2 46) a)) (m.1 8)), (48, upI (m.2 48) ((4 * a) + ((m.2 46) a)) (m.1 9)), (49, upI (m.2 49) ((4 * a) + ((m.2 46) a)) nu)]) 154 49 (m.2 49) rfl rfl rfl (by omega) (show ((4 * a) + ((m.2 46) a)) < (64 : Int) by omega) rfl rfl ?_
                      refine T_gf 158 (.ref 216) rfl rfl rfl rfl rfl rfl ?_
                      refine T_ld 159 (.int (i32 a)) rfl (fun _ => rfl) ?_
                      refine T_dup2 160 rfl (fun _ => rfl) ?_
                      refine T_iald 161 46 (m.2 46) rfl rfl rfl (by omega) (show a < (16 : Int) by omega) rfl ?_
                      have e484 : 0 ≤ (m.2 46) a ∧ (m.2 46) a ≤ 4 := (hT.2.1 46) a
                      refine T_ld 162 (.int (i32 1)) rfl (fun _ => rfl) ?_
                      refine T_iadd 163 rfl rfl ?_
                      have G485 : ∀ j, 0 ≤ (upI (m.2 46) a (((m.2 46) a) + 1)) j ∧ (upI (m.2 46) a (((m.2 46) a) + 1)) j ≤ 4 := upI_rg (hT.2.1 46) ⟨by omega, by omega⟩
                      refine T_iast (a' := [(46, upI (m.2 46) a (((m.2 46) a) + 1)), (47, upI (m.2 47) ((4 * a) + ((m.2 46) a)) (m.1 8)), (48, upI (m.2 48) ((4 * a) + ((m.2 46) a)) (m.1 9)), (49, upI (m.2 49) ((4 * a) + ((m.2 46) a)) nu)]) 164 46 (m.2 46) rfl rfl rfl (by omega) (show a < (16 : Int) by omega) rfl rfl ?_
                      refine T_ret rfl (fun _ => rfl) ?_
                      exact ⟨y462, y464, y466, 0, y470, y472, upI (m.2 46) a (((m.2 46) a) + 1), upI (m.2 47) ((4 * a) + ((m.2 46) a)) (m.1 8), upI (m.2 48) ((4 * a) + ((m.2 46) a)) (m.1 9), upI (m.2 49) ((4 * a) + ((m.2 46) a)) nu, g463, g465, g467, ⟨by omega, by omega⟩, g471, g473, G485, G418, G419, G483, (by omega), (by first | (first | exact hLx | (intro h9; exfalso; omega)) | (exfalso; omega)), (by first | (first | exact hPA | (intro k; have := hPA0 k; have h7 := hLx0 hf0; unfold upI; split <;> omega)) | (exfalso; omega)), (fun _ => (by omega)), rfl⟩
                    · skip
                      replace h475 : LxP y462 y464 y466 (m.1 6) y468 := h475
                      have hLx := h475
                      replace h476 : y444 ≤ y464 := h476
                      clear h477
                      clear h478
                      replace h479 : (1 : Int) ≤ nu ∧ nu ≤ (64 : Int) := h479
                      clear h480
                      have hf486 : 1 ≤ y468 := by omega
                      clear g443 g445 g447 g451 g453 h454 u459 h476
                      exact J153_46 v404 nu y462 y464 y466 y468 y470 y472 (upI (m.2 47) ((4 * a) + ((m.2 46) a)) (m.1 8)) (upI (m.2 48) ((4 * a) + ((m.2 46) a)) (m.1 9)) (r32 (by omega) (by omega)) (r32 (by omega) (by omega)) g463 g465 g467 g469 g471 g473 G418 G419 (by omega) (by omega) (by omega) (by omega) (by omega) (by first | exact hPA | (intro k; have := hPA0 k; have h7 := hLx0 hf0; unfold upI; split <;> omega)) (by omega)
                  · skip
                    replace h454 : LxP y442 y444 y446 (m.1 6) y448 := h454
                    have hLx := h454
                    clear h455
                    replace h456 : y424 ≤ y444 := h456
                    clear h457
                    have hf487 : 1 ≤ y448 := by omega
                    clear g423 g425 g427 g431 g433 h434 h436 h437 u439 h456
                    exact J141_77 v404 y442 y444 y446 y448 y450 y452 (upI (m.2 47) ((4 * a) + ((m.2 46) a)) (m.1 8)) (upI (m.2 48) ((4 * a) + ((m.2 46) a)) (m.1 9)) (r32 (by omega) (by omega)) g443 g445 g447 g449 g451 g453 G418 G419 (by omega) (by omega) (by omega) (by first | exact hPA | (intro k; have := hPA0 k; have h7 := hLx0 hf0; unfold upI; split <;> omega)) (by omega)
                · skip
                  replace h434 : LxP y422 y424 y426 (m.1 6) y428 := h434
                  have hLx := h434
                  clear h435
                  replace h436 : (m.1 8) ≤ y424 := h436
                  clear h437
                  have hf488 : 1 ≤ y428 := by omega
                  clear g399 g401 hf403 h402 q409 q410
                  exact J135_124 v404 y422 y424 y426 y428 y430 y432 (upI (m.2 47) ((4 * a) + ((m.2 46) a)) (m.1 8)) (upI (m.2 48) ((4 * a) + ((m.2 46) a)) (m.1 9)) (r32 (by omega) (by omega)) g423 g425 g427 g429 g431 g433 G418 G419 (by omega) (by omega) (by omega) (by first | exact hPA | (intro k; have := hPA0 k; have h7 := hLx0 hf0; unfold upI; split <;> omega)) (by omega) (by omega)
              · skip
                refine T_gf 66 (.int (i32 0)) rfl rfl rfl rfl rfl rfl ?_
                refine T_if 103 69 rfl rfl rfl ⟨by decide, by decide⟩ (fun h489 => absurd (show (0 : Int) ≠ 0 from h489) (by decide)) (fun _ => ?_)
                have hp3 := hPA v404
                refine T_ld 70 (.ref 189) rfl (fun _ => rfl) ?_
                refine T_gf 74 (.ref 217) rfl rfl rfl rfl rfl rfl ?_
                refine T_ld 75 (.int (i32 v404)) rfl (fun _ => rfl) ?_
                refine T_iald 76 47 (m.2 47) rfl rfl rfl (by omega) (show v404 < (64 : Int) by omega) rfl ?_
                have e490 : 0 ≤ (m.2 47) v404 ∧ (m.2 47) v404 ≤ 4000 := (hT.2.1 47) v404
                refine T_gf 80 (.ref 218) rfl rfl rfl rfl rfl rfl ?_
                refine T_ld 81 (.int (i32 v404)) rfl (fun _ => rfl) ?_
                refine T_iald 82 48 (m.2 48) rfl rfl rfl (by omega) (show v404 < (64 : Int) by omega) rfl ?_
                have e491 : 0 ≤ (m.2 48) v404 ∧ (m.2 48) v404 ≤ 4000 := (hT.2.1 48) v404
                refine T_call 85 230 [.ref 189, .int (i32 ((m.2 47) v404)), .int (i32 ((m.2 48) v404))] [] rfl (fun _ => rfl) rfl (c_isHere w (mO m [(7, (m.1 7)), (8, (m.1 8)), (9, (m.1 9)), (10, 0), (11, y406), (12, (m.1 12))] [(46, (m.2 46)), (47, (m.2 47)), (48, (m.2 48)), (49, (m.2 49))]) c N D (by omega) (Ty_mO hT rfl rfl ⟨f7, f8, f9, ⟨(by omega : (0 : Int) ≤ 0), (by omega : (0 : Int) ≤ 8)⟩, q410, f12, trivial⟩ ⟨(hT.2.1 46), (hT.2.1 47), (hT.2.1 48), (hT.2.1 49), trivial⟩) ((m.2 47) v404) ((m.2 48) v404) (r32 (by omega) (by omega)) (r32 (by omega) (by omega)) (show 0 ≤ ((m.2 47) v404) by omega) (show 0 ≤ ((m.2 48) v404) by omega) (show ((m.2 47) v404) + ((m.2 48) v404) ≤ 4000 by omega) (show 1 ≤ (m.1 9) ∧ (m.1 8) + (m.1 9) ≤ (m.1 6) by first | omega | (have h8 := hLx (by omega); omega))) (fun rr492 k493 => ?_)
                obtain ⟨x494, g495, h496, rfl⟩ := k493
                refine ⟨_, _, rfl, ?_⟩
                refine T_nf (st' := [.int (i32 x494)]) (l' := [(7, (m.1 7)), (8, (m.1 8)), (9, (m.1 9)), (10, 0), (11, y406), (12, (m.1 12))]) (a' := [(46, (m.2 46)), (47, (m.2 47)), (48, (m.2 48)), (49, (m.2 49))]) rfl rfl rfl rfl rfl ?_
                obtain ⟨g495a, g495b⟩ := g495
                replace h496 : (x494 = 1 ∧ sameN (m.2 4) (m.1 8) (m.1 9) ((m.2 47) v404) ((m.2 48) v404)) ∨ (x494 = 0 ∧ ¬ sameN (m.2 4) (m.1 8) (m.1 9) ((m.2 47) v404) ((m.2 48) v404)) := h496
                have hh := h496
                have u497 : (m.1 8) ≤ (m.1 8) := by omega
                clear g399 g401 hf403 h402 q409
                refine T_if 97 88 rfl rfl rfl (r32 (by omega) (by omega)) (fun (h498 : x494 = 0) => ?_) (fun (h498 : ¬ (x494 = 0)) => ?_)
                · skip
                  refine T_iinc 100 [(3, .int (i32 (v404 + 1))), (0, .ref 189), (1, .int (i32 a)), (2, .int (i32 ((4 * a) + ((m.2 46) a))))] rfl rfl (by decide) rfl rfl ?_
                  refine T_goto 57 rfl (fun _ => rfl) ?_
                  refine Tm_lv (a := [(0, .ref 189), (1, .int (i32 a)), (2, .int (i32 ((4 * a) + ((m.2 46) a)))), (3, .int (i32 (v404 + 1)))]) rfl rfl ⟨rfl, rfl, rfl, rfl, trivial⟩ ?_
                  exact ih414 (v404 + 1) 0 y406 (r32 (by omega) (by omega)) ⟨by omega, by omega⟩ q410 (by omega) (by omega) (fun _ => trivial) (by omega)
                · skip
                  refine T_ld 89 (.ref 189) rfl (fun _ => rfl) ?_
                  refine T_ld 90 (.int (i32 3)) rfl (fun _ => rfl) ?_
                  refine T_gf 94 (.int (i32 (m.1 8))) rfl rfl rfl rfl rfl rfl ?_
                  refine T_call 97 222 [.ref 189, .int (i32 3), .int (i32 (m.1 8))] [] rfl (fun _ => rfl) rfl (c_wrong w (mO m [(7, (m.1 7)), (8, (m.1 8)), (9, (m.1 9)), (10, 0), (11, y406), (12, (m.1 12))] [(46, (m.2 46)), (47, (m.2 47)), (48, (m.2 48)), (49, (m.2 49))]) c N D (by omega) (Ty_mO hT rfl rfl ⟨f7, f8, f9, ⟨(by omega : (0 : Int) ≤ 0), (by omega : (0 : Int) ≤ 8)⟩, q410, f12, trivial⟩ ⟨(hT.2.1 46), (hT.2.1 47), (hT.2.1 48), (hT.2.1 49), trivial⟩) 3 (m.1 8) ⟨by decide, by decide⟩ (r32 (by omega) (by omega)) (show 1 ≤ (3 : Int) ∧ (3 : Int) ≤ 8 by omega) (show 0 ≤ (m.1 8) ∧ (m.1 8) ≤ 4000 by omega)) (fun rr499 k500 => ?_)
                  obtain ⟨y501, y503, g502, g504, h505, rfl⟩ := k500
                  refine ⟨_, _, rfl, ?_⟩
                  refine T_nf (st' := []) (l' := [(7, (m.1 7)), (8, (m.1 8)), (9, (m.1 9)), (10, y501), (11, y503), (12, (m.1 12))]) (a' := [(46, (m.2 46)), (47, (m.2 47)), (48, (m.2 48)), (49, (m.2 49))]) rfl rfl rfl rfl rfl ?_
                  replace h505 : (0 < (0 : Int) → y501 = (0 : Int) ∧ y503 = y406) ∧ ((0 : Int) ≤ 0 → y501 = (3 : Int) ∧ y503 = (m.1 8)) := h505
                  have hf506 : 1 ≤ y501 := by omega
                  clear q410 g495a g495b h496 h498 h505
                  exact J97_163 v404 y501 y503 (r32 (by omega) (by omega)) g502 g504 (by omega) (by omega) (by omega) (by omega) (by first | exact hPA | (intro k; have := hPA0 k; have h7 := hLx0 hf0; unfold upI; split <;> omega)) (by omega)
            · skip
              clear c413
              have hf507 : 1 ≤ y405 := by omega
              refine T_ld 58 (.int (i32 v404)) rfl (fun _ => rfl) ?_
              refine T_ld 59 (.int (i32 ((4 * a) + ((m.2 46) a)))) rfl (fun _ => rfl) ?_
              refine T_icmp 103 62 rfl rfl rfl (r32 (by omega) (by omega)) (r32 (by omega) (by omega)) (fun (h508 : (4 * a) + ((m.2 46) a) ≤ v404) => ?_) (fun (h508 : ¬ ((4 * a) + ((m.2 46) a) ≤ v404)) => ?_)
              · skip
                refine T_gf 107 (.int (i32 y405)) rfl rfl rfl rfl rfl rfl ?_
                refine T_if 111 110 rfl rfl rfl (r32 (by omega) (by omega)) (fun (h509 : y405 ≤ 0) => by exfalso; omega) (fun (h509 : ¬ (y405 ≤ 0)) => ?_)
                refine T_ret rfl (fun _ => rfl) ?_
                exact ⟨(m.1 7), (m.1 8), (m.1 9), y405, y406, (m.1 12), (m.2 46), (m.2 47), (m.2 48), (m.2 49), f7, f8, f9, q409, q410, f12, (hT.2.1 46), (hT.2.1 47), (hT.2.1 48), (hT.2.1 49), (by omega), (by first | (first | exact hLx | (intro h9; exfalso; omega)) | (exfalso; omega)), (by first | (first | exact hPA | (intro k; have := hPA0 k; have h7 := hLx0 hf0; unfold upI; split <;> omega)) | (exfalso; omega)), (fun h => absurd h (by omega)), rfl⟩
              · skip
                refine T_gf 66 (.int (i32 y405)) rfl rfl rfl rfl rfl rfl ?_
                refine T_if 103 69 rfl rfl rfl (r32 (by omega) (by omega)) (fun (h510 : y405 ≠ 0) => ?_) (fun (h510 : ¬ (y405 ≠ 0)) => by exfalso; omega)
                refine T_gf 107 (.int (i32 y405)) rfl rfl rfl rfl rfl rfl ?_
                refine T_if 111 110 rfl rfl rfl (r32 (by omega) (by omega)) (fun (h511 : y405 ≤ 0) => by exfalso; omega) (fun (h511 : ¬ (y405 ≤ 0)) => ?_)
                refine T_ret rfl (fun _ => rfl) ?_
                exact ⟨(m.1 7), (m.1 8), (m.1 9), y405, y406, (m.1 12), (m.2 46), (m.2 47), (m.2 48), (m.2 49), f7, f8, f9, q409, q410, f12, (hT.2.1 46), (hT.2.1 47), (hT.2.1 48), (hT.2.1 49), (by omega), (by first | (first | exact hLx | (intro h9; exfalso; omega)) | (exfalso; omega)), (by first | (first | exact hPA | (intro k; have := hPA0 k; have h7 := hLx0 hf0; unfold upI; split <;> omega)) | (exfalso; omega)), (fun h => absurd h (by omega)), rfl⟩
        refine Tm_lv (a := [(0, .ref 189), (1, .int (i32 a)), (2, .int (i32 ((4 * a) + ((m.2 46) a)))), (3, .int (i32 (4 * a)))]) rfl rfl ⟨rfl, rfl, rfl, rfl, trivial⟩ ?_
        exact L57_407 ((((4 * a) + ((m.2 46) a)) - (4 * a) : Int) + 1).toNat (4 * a) y398 y400 (r32 (by omega) (by omega)) g399 g401 (by omega) (by omega) (fun h => absurd h (by omega)) (by omega)
    · skip
      refine T_ld 28 (.ref 189) rfl (fun _ => rfl) ?_
      refine T_call 31 226 [.ref 189] [] rfl (fun _ => rfl) rfl (c_bad w (mO m [(7, (m.1 7)), (8, (m.1 8)), (9, (m.1 9)), (10, (m.1 10)), (11, (m.1 11)), (12, (m.1 12))] [(46, (m.2 46)), (47, (m.2 47)), (48, (m.2 48)), (49, (m.2 49))]) c N D (by omega) (Ty_mO hT rfl rfl ⟨f7, f8, f9, f10, f11, f12, trivial⟩ ⟨(hT.2.1 46), (hT.2.1 47), (hT.2.1 48), (hT.2.1 49), trivial⟩) ) (fun rr512 k513 => ?_)
      obtain ⟨y514, y516, g515, g517, h518, rfl⟩ := k513
      refine ⟨_, _, rfl, ?_⟩
      refine T_nf (st' := []) (l' := [(7, (m.1 7)), (8, (m.1 8)), (9, (m.1 9)), (10, y514), (11, y516), (12, (m.1 12))]) (a' := [(46, (m.2 46)), (47, (m.2 47)), (48, (m.2 48)), (49, (m.2 49))]) rfl rfl rfl rfl rfl ?_
      replace h518 : (0 < (m.1 10) → y514 = (m.1 10) ∧ y516 = (m.1 11)) ∧ ((m.1 10) ≤ 0 → y514 = 1 ∧ y516 = (m.1 8)) := h518
      have hf519 : 1 ≤ y514 := by omega
      refine T_goto 53 rfl (fun _ => rfl) ?_
      refine T_ld 54 (.int (i32 4)) rfl (fun _ => rfl) ?_
      refine T_ld 55 (.int (i32 a)) rfl (fun _ => rfl) ?_
      refine T_imul 56 rfl rfl ?_
      refine T_sto 57 [(3, .int (i32 (4 * a))), (2, .int (i32 ((4 * a) + ((m.2 46) a)))), (0, .ref 189), (1, .int (i32 a))] rfl (fun _ => rfl) ?_
      have L57_523 : ∀ (n : Nat) (v520 : Int) (y521 : Int) (y522 : Int), (R32 v520) → (0 ≤ y521 ∧ y521 ≤ 8) → ((-1) ≤ y522 ∧ y522 ≤ 4000) → (0 ≤ v520) → (v520 ≤ (4 * a) + ((m.2 46) a)) → (y521 = 0 → True) → ((4 * a) + ((m.2 46) a)) - v520 < (n : Int) → TT w D pm_268 (57, [(0, .ref 189), (1, .int (i32 a)), (2, .int (i32 ((4 * a) + ((m.2 46) a)))), (3, .int (i32 v520))], [], (mhp (mO m [(7, (m.1 7)), (8, (m.1 8)), (9, (m.1 9)), (10, y521), (11, y522), (12, (m.1 12))] [(46, (m.2 46)), (47, (m.2 47)), (48, (m.2 48)), (49, (m.2 49))]) c, N), 0, 0) (Q_takeParameter m c N a) := by
        intro n
        induction n with
        | zero =>
          intro v520 y521 y522 q524 q525 q526 ic527 ic528 c529 hmu
          obtain ⟨q524a, q524b⟩ := id q524
          exfalso
          omega
        | succ n ih =>
          intro v520 y521 y522 q524 q525 q526 ic527 ic528 c529 hmu
          obtain ⟨q524a, q524b⟩ := id q524
          have ih530 := ih
          by_cases hf531 : y521 = 0
          · skip
            subst hf531
            refine T_ld 58 (.int (i32 v520)) rfl (fun _ => rfl) ?_
            refine T_ld 59 (.int (i32 ((4 * a) + ((m.2 46) a)))) rfl (fun _ => rfl) ?_
            refine T_icmp 103 62 rfl rfl rfl (r32 (by omega) (by omega)) (r32 (by omega) (by omega)) (fun (h532 : (4 * a) + ((m.2 46) a) ≤ v520) => ?_) (fun (h532 : ¬ ((4 * a) + ((m.2 46) a) ≤ v520)) => ?_)
            · skip
              refine T_gf 107 (.int (i32 0)) rfl rfl rfl rfl rfl rfl ?_
              refine T_if 111 110 rfl rfl rfl ⟨by decide, by decide⟩ (fun _ => ?_) (fun h533 => absurd (show (0 : Int) ≤ 0 by decide) h533)
              refine T_gf 115 (.ref 217) rfl rfl rfl rfl rfl rfl ?_
              refine T_ld 116 (.int (i32 ((4 * a) + ((m.2 46) a)))) rfl (fun _ => rfl) ?_
              refine T_gf 120 (.int (i32 (m.1 8))) rfl rfl rfl rfl rfl rfl ?_
              have G534 : ∀ j, 0 ≤ (upI (m.2 47) ((4 * a) + ((m.2 46) a)) (m.1 8)) j ∧ (upI (m.2 47) ((4 * a) + ((m.2 46) a)) (m.1 8)) j ≤ 4000 := upI_rg (hT.2.1 47) ⟨by omega, by omega⟩
              refine T_iast (a' := [(46, (m.2 46)), (47, upI (m.2 47) ((4 * a) + ((m.2 46) a)) (m.1 8)), (48, (m.2 48)), (49, (m.2 49))]) 121 47 (m.2 47) rfl rfl rfl (by omega) (show ((4 * a) + ((m.2 46) a)) < (64 : Int) by omega) rfl rfl ?_
              refine T_gf 125 (.ref 218) rfl rfl rfl rfl rfl rfl ?_
              refine T_ld 126 (.int (i32 ((4 * a) + ((m.2 46) a)))) rfl (fun _ => rfl) ?_
              refine T_gf 130 (.int (i32 (m.1 9))) rfl rfl rfl rfl rfl rfl ?_
              have G535 : ∀ j, 0 ≤ (upI (m.2 48) ((4 * a) + ((m.2 46) a)) (m.1 9)) j ∧ (upI (m.2 48) ((4 * a) + ((m.2 46) a)) (m.1 9)) j ≤ 4000 := upI_rg (hT.2.1 48) ⟨by omega, by omega⟩
              refine T_iast (a' := [(46, (m.2 46)), (47, upI (m.2 47) ((4 * a) + ((m.2 46) a)) (m.1 8)), (48, upI (m.2 48) ((4 * a) + ((m.2 46) a)) (m.1 9)), (49, (m.2 49))]) 131 48 (m.2 48) rfl rfl rfl (by omega) (show ((4 * a) + ((m.2 46) a)) < (64 : Int) by omega) rfl rfl ?_
              refine T_ld 132 (.ref 189) rfl (fun _ => rfl) ?_
              refine T_call 135 212 [.ref 189] [] rfl (fun _ => rfl) rfl (c_next w (mO m [(7, (m.1 7)), (8, (m.1 8)), (9, (m.1 9)), (10, 0), (11, y522), (12, (m.1 12))] [(46, (m.2 46)), (47, upI (m.2 47) ((4 * a) + ((m.2 46) a)) (m.1 8)), (48, upI (m.2 48) ((4 * a) + ((m.2 46) a)) (m.1 9)), (49, (m.2 49))]) c N D (by omega) (Ty_mO hT rfl rfl ⟨f7, f8, f9, ⟨(by omega : (0 : Int) ≤ 0), (by omega : (0 : Int) ≤ 8)⟩, q526, f12, trivial⟩ ⟨(hT.2.1 46), G534, G535, (hT.2.1 49), trivial⟩) (show (0 : Int) = 0 → (m.1 8) + (m.1 9) ≤ (m.1 6) by first | omega | (intro h9; have h8 := hLx h9; omega))) (fun rr536 k537 => ?_)
              obtain ⟨y538, y540, y542, y544, y546, y548, g539, g541, g543, g545, g547, g549, h550, h551, h552, h553, rfl⟩ := k537
              refine ⟨_, _, rfl, ?_⟩
              refine T_nf (st' := []) (l' := [(7, y538), (8, y540), (9, y542), (10, y544), (11, y546), (12, y548)]) (a' := [(46, (m.2 46)), (47, upI (m.2 47) ((4 * a) + ((m.2 46) a)) (m.1 8)), (48, upI (m.2 48) ((4 * a) + ((m.2 46) a)) (m.1 9)), (49, (m.2 49))]) rfl rfl rfl rfl rfl ?_
              by_cases hf554 : y544 = 0
              · skip
                subst hf554
                replace h550 : LxP y538 y540 y542 (m.1 6) (0 : Int) := h550
                have hLx := h550
                replace h551 : (0 : Int) = 0 := h551 rfl
                replace h552 : (m.1 8) ≤ y540 := h552
                replace h553 : (m.1 8) + (m.1 9) ≤ y540 := h553 rfl
                have u555 : (m.1 8) + 1 ≤ y540 := by omega
                clear g515 g517 hf519 h518 q525 q526 g545
                refine T_ld 136 (.ref 189) rfl (fun _ => rfl) ?_
                refine T_ld 138 (.int (i32 58)) rfl (fun _ => rfl) ?_
                refine T_call 141 232 [.ref 189, .int (i32 58)] [] rfl (fun _ => rfl) rfl (c_need w (mO m [(7, y538), (8, y540), (9, y542), (10, 0), (11, y546), (12, y548)] [(46, (m.2 46)), (47, upI (m.2 47) ((4 * a) + ((m.2 46) a)) (m.1 8)), (48, upI (m.2 48) ((4 * a) + ((m.2 46) a)) (m.1 9)), (49, (m.2 49))]) c N D (by omega) (Ty_mO hT rfl rfl ⟨g539, g541, g543, ⟨(by omega : (0 : Int) ≤ 0), (by omega : (0 : Int) ≤ 8)⟩, g547, g549, trivial⟩ ⟨(hT.2.1 46), G534, G535, (hT.2.1 49), trivial⟩) 58 ⟨by decide, by decide⟩ (show 1 ≤ (58 : Int) by omega) (show LxP y538 y540 y542 (m.1 6) (0 : Int) by first | exact hLx | (intro h9; exfalso; omega) | (intro h9; have h8 := hLx (by omega); omega))) (fun rr556 k557 => ?_)
                obtain ⟨y558, y560, y562, y564, y566, y568, g559, g561, g563, g565, g567, g569, h570, h571, h572, h573, rfl⟩ := k557
                refine ⟨_, _, rfl, ?_⟩
                refine T_nf (st' := []) (l' := [(7, y558), (8, y560), (9, y562), (10, y564), (11, y566), (12, y568)]) (a' := [(46, (m.2 46)), (47, upI (m.2 47) ((4 * a) + ((m.2 46) a)) (m.1 8)), (48, upI (m.2 48) ((4 * a) + ((m.2 46) a)) (m.1 9)), (49, (m.2 49))]) rfl rfl rfl rfl rfl ?_
                by_cases hf574 : y564 = 0
                · skip
                  subst hf574
                  replace h570 : LxP y558 y560 y562 (m.1 6) (0 : Int) := h570
                  have hLx := h570
                  replace h571 : (0 : Int) = 0 ∧ y538 = (58 : Int) := h571 rfl
                  replace h572 : y540 ≤ y560 := h572
                  replace h573 : y540 + y542 ≤ y560 := h573 rfl
                  have u575 : (m.1 8) + 1 ≤ y560 := by omega
                  clear g539 g541 g543 g547 g549 h550 h552 h553 u555 g565 h571 h572 h573
                  refine T_gf 145 (.ref 219) rfl rfl rfl rfl rfl rfl ?_
                  refine T_ld 146 (.int (i32 ((4 * a) + ((m.2 46) a)))) rfl (fun _ => rfl) ?_
                  refine T_ld 147 (.ref 189) rfl (fun _ => rfl) ?_
                  refine T_ld 148 (.int (i32 1)) rfl (fun _ => rfl) ?_
                  refine T_ld 150 (.int (i32 64)) rfl (fun _ => rfl) ?_
                  refine T_call 153 234 [.ref 189, .int (i32 1), .int (i32 64)] [.int (i32 ((4 * a) + ((m.2 46) a))), .ref 219] rfl (fun _ => rfl) rfl (c_number w (mO m [(7, y558), (8, y560), (9, y562), (10, 0), (11, y566), (12, y568)] [(46, (m.2 46)), (47, upI (m.2 47) ((4 * a) + ((m.2 46) a)) (m.1 8)), (48, upI (m.2 48) ((4 * a) + ((m.2 46) a)) (m.1 9)), (49, (m.2 49))]) c N D (by omega) (Ty_mO hT rfl rfl ⟨g559, g561, g563, ⟨(by omega : (0 : Int) ≤ 0), (by omega : (0 : Int) ≤ 8)⟩, g567, g569, trivial⟩ ⟨(hT.2.1 46), G534, G535, (hT.2.1 49), trivial⟩) 1 64 ⟨by decide, by decide⟩ ⟨by decide, by decide⟩ (show LxP y558 y560 y562 (m.1 6) (0 : Int) by first | exact hLx | (intro h9; exfalso; omega) | (intro h9; have h8 := hLx (by omega); omega)) (show (1 : Int) ≤ (64 : Int) by omega)) (fun rr576 k577 => ?_)
                  obtain ⟨y578, y580, y582, y584, y586, y588, nu, g579, g581, g583, g585, g587, g589, g590, h591, h592, h593, h594, h595, h596, rfl⟩ := k577
                  refine ⟨_, _, rfl, ?_⟩
                  refine T_nf (st' := [.int (i32 nu), .int (i32 ((4 * a) + ((m.2 46) a))), .ref 219]) (l' := [(7, y578), (8, y580), (9, y582), (10, y584), (11, y586), (12, y588)]) (a' := [(46, (m.2 46)), (47, upI (m.2 47) ((4 * a) + ((m.2 46) a)) (m.1 8)), (48, upI (m.2 48) ((4 * a) + ((m.2 46) a)) (m.1 9)), (49, (m.2 49))]) rfl rfl rfl rfl rfl ?_
                  obtain ⟨g590a, g590b⟩ := g590
                  by_cases hf597 : y584 = 0
                  · skip
                    subst hf597
                    replace h591 : LxP y578 y580 y582 (m.1 6) (0 : Int) := h591
                    have hLx := h591
                    replace h592 : y560 ≤ y580 := h592
                    replace h593 : (0 : Int) = 0 ∧ y560 + y562 ≤ y580 := h593 rfl
                    replace h594 : y558 = 2 := h594 rfl
                    replace h595 : (1 : Int) ≤ nu ∧ nu ≤ (64 : Int) := h595
                    replace h596 : nu = y568 := h596 rfl
                    have u598 : (m.1 8) + 1 ≤ y580 := by omega
                    clear g559 g561 g563 g567 g569 h570 u575 g585 h592 h593 h594 h596
                    have G599 : ∀ j, 0 ≤ (upI (m.2 49) ((4 * a) + ((m.2 46) a)) nu) j ∧ (upI (m.2 49) ((4 * a) + ((m.2 46) a)) nu) j ≤ 64 := upI_rg (hT.2.1 49) ⟨by omega, by omega⟩
                    refine T_iast (a' := [(46, (m.2 46)), (47, upI (m.2 47) ((4 * a) + ((m.2 46) a)) (m.1 8)), (48, upI (m.2 48) ((4 * a) + ((m.2 46) a)) (m.1 9)), (49, upI (m.2 49) ((4 * a) + ((m.2 46) a)) nu)]) 154 49 (m.2 49) rfl rfl rfl (by omega) (show ((4 * a) + ((m.2 46) a)) < (64 : Int) by omega) rfl rfl ?_
                    refine T_gf 158 (.ref 216) rfl rfl rfl rfl rfl rfl ?_
                    refine T_ld 159 (.int (i32 a)) rfl (fun _ => rfl) ?_
                    refine T_dup2 160 rfl (fun _ => rfl) ?_
                    refine T_iald 161 46 (m.2 46) rfl rfl rfl (by omega) (show a < (16 : Int) by omega) rfl ?_
                    have e600 : 0 ≤ (m.2 46) a ∧ (m.2 46) a ≤ 4 := (hT.2.1 46) a
                    refine T_ld 162 (.int (i32 1)) rfl (fun _ => rfl) ?_
                    refine T_iadd 163 rfl rfl ?_
                    have G601 : ∀ j, 0 ≤ (upI (m.2 46) a (((m.2 46) a) + 1)) j ∧ (upI (m.2 46) a (((m.2 46) a) + 1)) j ≤ 4 := upI_rg (hT.2.1 46) ⟨by omega, by omega⟩
                    refine T_iast (a' := [(46, upI (m.2 46) a (((m.2 46) a) + 1)), (47, upI (m.2 47) ((4 * a) + ((m.2 46) a)) (m.1 8)), (48, upI (m.2 48) ((4 * a) + ((m.2 46) a)) (m.1 9)), (49, upI (m.2 49) ((4 * a) + ((m.2 46) a)) nu)]) 164 46 (m.2 46) rfl rfl rfl (by omega) (show a < (16 : Int) by omega) rfl rfl ?_
                    refine T_ret rfl (fun _ => rfl) ?_
                    exact ⟨y578, y580, y582, 0, y586, y588, upI (m.2 46) a (((m.2 46) a) + 1), upI (m.2 47) ((4 * a) + ((m.2 46) a)) (m.1 8), upI (m.2 48) ((4 * a) + ((m.2 46) a)) (m.1 9), upI (m.2 49) ((4 * a) + ((m.2 46) a)) nu, g579, g581, g583, ⟨by omega, by omega⟩, g587, g589, G601, G534, G535, G599, (by omega), (by first | (first | exact hLx | (intro h9; exfalso; omega)) | (exfalso; omega)), (by first | (first | exact hPA | (intro k; have := hPA0 k; have h7 := hLx0 hf0; unfold upI; split <;> omega)) | (exfalso; omega)), (fun _ => (by omega)), rfl⟩
                  · skip
                    replace h591 : LxP y578 y580 y582 (m.1 6) y584 := h591
                    have hLx := h591
                    replace h592 : y560 ≤ y580 := h592
                    clear h593
                    clear h594
                    replace h595 : (1 : Int) ≤ nu ∧ nu ≤ (64 : Int) := h595
                    clear h596
                    have hf602 : 1 ≤ y584 := by omega
                    clear g559 g561 g563 g567 g569 h570 u575 h592
                    exact J153_46 v520 nu y578 y580 y582 y584 y586 y588 (upI (m.2 47) ((4 * a) + ((m.2 46) a)) (m.1 8)) (upI (m.2 48) ((4 * a) + ((m.2 46) a)) (m.1 9)) (r32 (by omega) (by omega)) (r32 (by omega) (by omega)) g579 g581 g583 g585 g587 g589 G534 G535 (by omega) (by omega) (by omega) (by omega) (by omega) (by first | exact hPA | (intro k; have := hPA0 k; have h7 := hLx0 hf0; unfold upI; split <;> omega)) (by omega)
                · skip
                  replace h570 : LxP y558 y560 y562 (m.1 6) y564 := h570
                  have hLx := h570
                  clear h571
                  replace h572 : y540 ≤ y560 := h572
                  clear h573
                  have hf603 : 1 ≤ y564 := by omega
                  clear g539 g541 g543 g547 g549 h550 h552 h553 u555 h572
                  exact J141_77 v520 y558 y560 y562 y564 y566 y568 (upI (m.2 47) ((4 * a) + ((m.2 46) a)) (m.1 8)) (upI (m.2 48) ((4 * a) + ((m.2 46) a)) (m.1 9)) (r32 (by omega) (by omega)) g559 g561 g563 g565 g567 g569 G534 G535 (by omega) (by omega) (by omega) (by first | exact hPA | (intro k; have := hPA0 k; have h7 := hLx0 hf0; unfold upI; split <;> omega)) (by omega)
              · skip
                replace h550 : LxP y538 y540 y542 (m.1 6) y544 := h550
                have hLx := h550
                clear h551
                replace h552 : (m.1 8) ≤ y540 := h552
                clear h553
                have hf604 : 1 ≤ y544 := by omega
                clear g515 g517 hf519 h518 q525 q526
                exact J135_124 v520 y538 y540 y542 y544 y546 y548 (upI (m.2 47) ((4 * a) + ((m.2 46) a)) (m.1 8)) (upI (m.2 48) ((4 * a) + ((m.2 46) a)) (m.1 9)) (r32 (by omega) (by omega)) g539 g541 g543 g545 g547 g549 G534 G535 (by omega) (by omega) (by omega) (by first | exact hPA | (intro k; have := hPA0 k; have h7 := hLx0 hf0; unfold upI; split <;> omega)) (by omega) (by omega)
            · skip
              refine T_gf 66 (.int (i32 0)) rfl rfl rfl rfl rfl rfl ?_
              refine T_if 103 69 rfl rfl rfl ⟨by decide, by decide⟩ (fun h605 => absurd (show (0 : Int) ≠ 0 from h605) (by decide)) (fun _ => ?_)
              have hp3 := hPA v520
              refine T_ld 70 (.ref 189) rfl (fun _ => rfl) ?_
              refine T_gf 74 (.ref 217) rfl rfl rfl rfl rfl rfl ?_
              refine T_ld 75 (.int (i32 v520)) rfl (fun _ => rfl) ?_
              refine T_iald 76 47 (m.2 47) rfl rfl rfl (by omega) (show v520 < (64 : Int) by omega) rfl ?_
              have e606 : 0 ≤ (m.2 47) v520 ∧ (m.2 47) v520 ≤ 4000 := (hT.2.1 47) v520
              refine T_gf 80 (.ref 218) rfl rfl rfl rfl rfl rfl ?_
              refine T_ld 81 (.int (i32 v520)) rfl (fun _ => rfl) ?_
              refine T_iald 82 48 (m.2 48) rfl rfl rfl (by omega) (show v520 < (64 : Int) by omega) rfl ?_
              have e607 : 0 ≤ (m.2 48) v520 ∧ (m.2 48) v520 ≤ 4000 := (hT.2.1 48) v520
              refine T_call 85 230 [.ref 189, .int (i32 ((m.2 47) v520)), .int (i32 ((m.2 48) v520))] [] rfl (fun _ => rfl) rfl (c_isHere w (mO m [(7, (m.1 7)), (8, (m.1 8)), (9, (m.1 9)), (10, 0), (11, y522), (12, (m.1 12))] [(46, (m.2 46)), (47, (m.2 47)), (48, (m.2 48)), (49, (m.2 49))]) c N D (by omega) (Ty_mO hT rfl rfl ⟨f7, f8, f9, ⟨(by omega : (0 : Int) ≤ 0), (by omega : (0 : Int) ≤ 8)⟩, q526, f12, trivial⟩ ⟨(hT.2.1 46), (hT.2.1 47), (hT.2.1 48), (hT.2.1 49), trivial⟩) ((m.2 47) v520) ((m.2 48) v520) (r32 (by omega) (by omega)) (r32 (by omega) (by omega)) (show 0 ≤ ((m.2 47) v520) by omega) (show 0 ≤ ((m.2 48) v520) by omega) (show ((m.2 47) v520) + ((m.2 48) v520) ≤ 4000 by omega) (show 1 ≤ (m.1 9) ∧ (m.1 8) + (m.1 9) ≤ (m.1 6) by first | omega | (have h8 := hLx (by omega); omega))) (fun rr608 k609 => ?_)
              obtain ⟨x610, g611, h612, rfl⟩ := k609
              refine ⟨_, _, rfl, ?_⟩
              refine T_nf (st' := [.int (i32 x610)]) (l' := [(7, (m.1 7)), (8, (m.1 8)), (9, (m.1 9)), (10, 0), (11, y522), (12, (m.1 12))]) (a' := [(46, (m.2 46)), (47, (m.2 47)), (48, (m.2 48)), (49, (m.2 49))]) rfl rfl rfl rfl rfl ?_
              obtain ⟨g611a, g611b⟩ := g611
              replace h612 : (x610 = 1 ∧ sameN (m.2 4) (m.1 8) (m.1 9) ((m.2 47) v520) ((m.2 48) v520)) ∨ (x610 = 0 ∧ ¬ sameN (m.2 4) (m.1 8) (m.1 9) ((m.2 47) v520) ((m.2 48) v520)) := h612
              have hh := h612
              have u613 : (m.1 8) ≤ (m.1 8) := by omega
              clear g515 g517 hf519 h518 q525
              refine T_if 97 88 rfl rfl rfl (r32 (by omega) (by omega)) (fun (h614 : x610 = 0) => ?_) (fun (h614 : ¬ (x610 = 0)) => ?_)
              · skip
                refine T_iinc 100 [(3, .int (i32 (v520 + 1))), (0, .ref 189), (1, .int (i32 a)), (2, .int (i32 ((4 * a) + ((m.2 46) a))))] rfl rfl (by decide) rfl rfl ?_
                refine T_goto 57 rfl (fun _ => rfl) ?_
                refine Tm_lv (a := [(0, .ref 189), (1, .int (i32 a)), (2, .int (i32 ((4 * a) + ((m.2 46) a)))), (3, .int (i32 (v520 + 1)))]) rfl rfl ⟨rfl, rfl, rfl, rfl, trivial⟩ ?_
                exact ih530 (v520 + 1) 0 y522 (r32 (by omega) (by omega)) ⟨by omega, by omega⟩ q526 (by omega) (by omega) (fun _ => trivial) (by omega)
              · skip
                refine T_ld 89 (.ref 189) rfl (fun _ => rfl) ?_
                refine T_ld 90 (.int (i32 3)) rfl (fun _ => rfl) ?_
                refine T_gf 94 (.int (i32 (m.1 8))) rfl rfl rfl rfl rfl rfl ?_
                refine T_call 97 222 [.ref 189, .int (i32 3), .int (i32 (m.1 8))] [] rfl (fun _ => rfl) rfl (c_wrong w (mO m [(7, (m.1 7)), (8, (m.1 8)), (9, (m.1 9)), (10, 0), (11, y522), (12, (m.1 12))] [(46, (m.2 46)), (47, (m.2 47)), (48, (m.2 48)), (49, (m.2 49))]) c N D (by omega) (Ty_mO hT rfl rfl ⟨f7, f8, f9, ⟨(by omega : (0 : Int) ≤ 0), (by omega : (0 : Int) ≤ 8)⟩, q526, f12, trivial⟩ ⟨(hT.2.1 46), (hT.2.1 47), (hT.2.1 48), (hT.2.1 49), trivial⟩) 3 (m.1 8) ⟨by decide, by decide⟩ (r32 (by omega) (by omega)) (show 1 ≤ (3 : Int) ∧ (3 : Int) ≤ 8 by omega) (show 0 ≤ (m.1 8) ∧ (m.1 8) ≤ 4000 by omega)) (fun rr615 k616 => ?_)
                obtain ⟨y617, y619, g618, g620, h621, rfl⟩ := k616
                refine ⟨_, _, rfl, ?_⟩
                refine T_nf (st' := []) (l' := [(7, (m.1 7)), (8, (m.1 8)), (9, (m.1 9)), (10, y617), (11, y619), (12, (m.1 12))]) (a' := [(46, (m.2 46)), (47, (m.2 47)), (48, (m.2 48)), (49, (m.2 49))]) rfl rfl rfl rfl rfl ?_
                replace h621 : (0 < (0 : Int) → y617 = (0 : Int) ∧ y619 = y522) ∧ ((0 : Int) ≤ 0 → y617 = (3 : Int) ∧ y619 = (m.1 8)) := h621
                have hf622 : 1 ≤ y617 := by omega
                clear q526 g611a g611b h612 h614 h621
                exact J97_163 v520 y617 y619 (r32 (by omega) (by omega)) g618 g620 (by omega) (by omega) (by omega) (by omega) (by first | exact hPA | (intro k; have := hPA0 k; have h7 := hLx0 hf0; unfold upI; split <;> omega)) (by omega)
          · skip
            clear c529
            have hf623 : 1 ≤ y521 := by omega
            refine T_ld 58 (.int (i32 v520)) rfl (fun _ => rfl) ?_
            refine T_ld 59 (.int (i32 ((4 * a) + ((m.2 46) a)))) rfl (fun _ => rfl) ?_
            refine T_icmp 103 62 rfl rfl rfl (r32 (by omega) (by omega)) (r32 (by omega) (by omega)) (fun (h624 : (4 * a) + ((m.2 46) a) ≤ v520) => ?_) (fun (h624 : ¬ ((4 * a) + ((m.2 46) a) ≤ v520)) => ?_)
            · skip
              refine T_gf 107 (.int (i32 y521)) rfl rfl rfl rfl rfl rfl ?_
              refine T_if 111 110 rfl rfl rfl (r32 (by omega) (by omega)) (fun (h625 : y521 ≤ 0) => by exfalso; omega) (fun (h625 : ¬ (y521 ≤ 0)) => ?_)
              refine T_ret rfl (fun _ => rfl) ?_
              exact ⟨(m.1 7), (m.1 8), (m.1 9), y521, y522, (m.1 12), (m.2 46), (m.2 47), (m.2 48), (m.2 49), f7, f8, f9, q525, q526, f12, (hT.2.1 46), (hT.2.1 47), (hT.2.1 48), (hT.2.1 49), (by omega), (by first | (first | exact hLx | (intro h9; exfalso; omega)) | (exfalso; omega)), (by first | (first | exact hPA | (intro k; have := hPA0 k; have h7 := hLx0 hf0; unfold upI; split <;> omega)) | (exfalso; omega)), (fun h => absurd h (by omega)), rfl⟩
            · skip
              refine T_gf 66 (.int (i32 y521)) rfl rfl rfl rfl rfl rfl ?_
              refine T_if 103 69 rfl rfl rfl (r32 (by omega) (by omega)) (fun (h626 : y521 ≠ 0) => ?_) (fun (h626 : ¬ (y521 ≠ 0)) => by exfalso; omega)
              refine T_gf 107 (.int (i32 y521)) rfl rfl rfl rfl rfl rfl ?_
              refine T_if 111 110 rfl rfl rfl (r32 (by omega) (by omega)) (fun (h627 : y521 ≤ 0) => by exfalso; omega) (fun (h627 : ¬ (y521 ≤ 0)) => ?_)
              refine T_ret rfl (fun _ => rfl) ?_
              exact ⟨(m.1 7), (m.1 8), (m.1 9), y521, y522, (m.1 12), (m.2 46), (m.2 47), (m.2 48), (m.2 49), f7, f8, f9, q525, q526, f12, (hT.2.1 46), (hT.2.1 47), (hT.2.1 48), (hT.2.1 49), (by omega), (by first | (first | exact hLx | (intro h9; exfalso; omega)) | (exfalso; omega)), (by first | (first | exact hPA | (intro k; have := hPA0 k; have h7 := hLx0 hf0; unfold upI; split <;> omega)) | (exfalso; omega)), (fun h => absurd h (by omega)), rfl⟩
      refine Tm_lv (a := [(0, .ref 189), (1, .int (i32 a)), (2, .int (i32 ((4 * a) + ((m.2 46) a)))), (3, .int (i32 (4 * a)))]) rfl rfl ⟨rfl, rfl, rfl, rfl, trivial⟩ ?_
      exact L57_523 ((((4 * a) + ((m.2 46) a)) - (4 * a) : Int) + 1).toNat (4 * a) y514 y516 (r32 (by omega) (by omega)) g515 g517 (by omega) (by omega) (fun h => absurd h (by omega)) (by omega)
  · skip
    clear hC
    refine T_gf 4 (.int (i32 (m.1 10))) rfl rfl rfl rfl rfl rfl ?_
    refine T_if 8 7 rfl rfl rfl (r32 (by omega) (by omega)) (fun (h628 : (m.1 10) ≤ 0) => by exfalso; omega) (fun (h628 : ¬ ((m.1 10) ≤ 0)) => ?_)
    refine T_ret rfl (fun _ => rfl) ?_
    exact ⟨(m.1 7), (m.1 8), (m.1 9), (m.1 10), (m.1 11), (m.1 12), (m.2 46), (m.2 47), (m.2 48), (m.2 49), f7, f8, f9, f10, f11, f12, (hT.2.1 46), (hT.2.1 47), (hT.2.1 48), (hT.2.1 49), (by omega), (by first | (first | exact hLx | (intro h9; exfalso; omega)) | (exfalso; omega)), (by first | (first | exact hPA | (intro k; have := hPA0 k; have h7 := hLx0 hf0; unfold upI; split <;> omega)) | (exfalso; omega)), (fun h => absurd h (by omega)), rfl⟩
def Q_takeAction (m : mR) (c : Nat → Option am_C) (N : Nat) : ag_Re af_T → Prop := fun R => ∃ (y7 : Int) (y8 : Int) (y9 : Int) (y10 : Int) (y11 : Int) (y12 : Int) (y13 : Int) (y25 : Int) (y28 : Int) (y64 : Int) (y69 : Int) (y70 : Int) (y71 : Int) (y72 : Int) (y73 : Int) (y74 : Int) (y75 : Int) (y99 : Int) (y100 : Int) (F14 : Int → Int) (F15 : Int → Int) (F16 : Int → Int) (F17 : Int → Int) (F46 : Int → Int) (F47 : Int → Int) (F48 : Int → Int) (F49 : Int → Int) (F50 : Int → Int) (F65 : Int → Int) (F66 : Int → Int) (F67 : Int → Int) (F68 : Int → Int) (F76 : Int → Int) (F77 : Int → Int) (F78 : Int → Int) (F79 : Int → Int) (F80 : Int → Int) (F81 : Int → Int) (F82 : Int → Int) (F83 : Int → Int) (F84 : Int → Int) (F85 : Int → Int) (F86 : Int → Int) (F87 : Int → Int) (F88 : Int → Int) (F89 : Int → Int) (F90 : Int → Int) (F91 : Int → Int) (F92 : Int → Int) (F101 : Int → Int) (F102 : Int → Int) (F103 : Int → Int) (F104 : Int → Int) (F105 : Int → Int) (F106 : Int → Int) (F107 : Int → Int) (F108 : Int → Int) (F109 : Int → Int), (0 ≤ y7 ∧ y7 ≤ 330) ∧ (0 ≤ y8 ∧ y8 ≤ 4000) ∧ (0 ≤ y9 ∧ y9 ≤ 4000) ∧ (0 ≤ y10 ∧ y10 ≤ 8) ∧ ((-1) ≤ y11 ∧ y11 ≤ 4000) ∧ ((-9223372036854775808) ≤ y12 ∧ y12 ≤ 9223372036854775807) ∧ (0 ≤ y13 ∧ y13 ≤ 120) ∧ (0 ≤ y25 ∧ y25 ≤ 16) ∧ (0 ≤ y28 ∧ y28 ≤ 800) ∧ ((-1) ≤ y64 ∧ y64 ≤ 15) ∧ (0 ≤ y69 ∧ y69 ≤ 1024) ∧ (0 ≤ y70 ∧ y70 ≤ 4000) ∧ (0 ≤ y71 ∧ y71 ≤ 1) ∧ ((-9223372036854775808) ≤ y72 ∧ y72 ≤ 9223372036854775807) ∧ (0 ≤ y73 ∧ y73 ≤ 60) ∧ (0 ≤ y74 ∧ y74 ≤ 24) ∧ (0 ≤ y75 ∧ y75 ≤ 3) ∧ (0 ≤ y99 ∧ y99 ≤ 240) ∧ (0 ≤ y100 ∧ y100 ≤ 64) ∧ (∀ j, 0 ≤ F14 j ∧ F14 j ≤ 4000) ∧ (∀ j, 0 ≤ F15 j ∧ F15 j ≤ 4000) ∧ (∀ j, 0 ≤ F16 j ∧ F16 j ≤ 7) ∧ (∀ j, 0 ≤ F17 j ∧ F17 j ≤ 15) ∧ (∀ j, 0 ≤ F46 j ∧ F46 j ≤ 4) ∧ (∀ j, 0 ≤ F47 j ∧ F47 j ≤ 4000) ∧ (∀ j, 0 ≤ F48 j ∧ F48 j ≤ 4000) ∧ (∀ j, 0 ≤ F49 j ∧ F49 j ≤ 64) ∧ (∀ j, 0 ≤ F50 j ∧ F50 j ≤ 13) ∧ (∀ j, 0 ≤ F65 j ∧ F65 j ≤ 408) ∧ (∀ j, 0 ≤ F66 j ∧ F66 j ≤ 64) ∧ (∀ j, 0 ≤ F67 j ∧ F67 j ≤ 191) ∧ (∀ j, (-9223372036854775808) ≤ F68 j ∧ F68 j ≤ 9223372036854775807) ∧ (∀ j, 0 ≤ F76 j ∧ F76 j ≤ 2) ∧ (∀ j, 0 ≤ F77 j ∧ F77 j ≤ 4000) ∧ (∀ j, 0 ≤ F78 j ∧ F78 j ≤ 330) ∧ (∀ j, 0 ≤ F79 j ∧ F79 j ≤ 2) ∧ (∀ j, (-1) ≤ F80 j ∧ F80 j ≤ 330) ∧ (∀ j, 0 ≤ F81 j ∧ F81 j ≤ 64) ∧ (∀ j, 0 ≤ F82 j ∧ F82 j ≤ 4000) ∧ (∀ j, 0 ≤ F83 j ∧ F83 j ≤ 1) ∧ (∀ j, (-9223372036854775808) ≤ F84 j ∧ F84 j ≤ 9223372036854775807) ∧ (∀ j, 0 ≤ F85 j ∧ F85 j ≤ 64) ∧ (∀ j, 0 ≤ F86 j ∧ F86 j ≤ 4000) ∧ (∀ j, 0 ≤ F87 j ∧ F87 j ≤ 64) ∧ (∀ j, 0 ≤ F88 j ∧ F88 j ≤ 4000) ∧ (∀ j, 0 ≤ F89 j ∧ F89 j ≤ 1) ∧ (∀ j, 0 ≤ F90 j ∧ F90 j ≤ 1) ∧ (∀ j, (-9223372036854775808) ≤ F91 j ∧ F91 j ≤ 9223372036854775807) ∧ (∀ j, (-9223372036854775808) ≤ F92 j ∧ F92 j ≤ 9223372036854775807) ∧ (∀ j, 0 ≤ F101 j ∧ F101 j ≤ 330) ∧ (∀ j, 0 ≤ F102 j ∧ F102 j ≤ 207) ∧ (∀ j, 0 ≤ F103 j ∧ F103 j ≤ 7) ∧ (∀ j, 0 ≤ F104 j ∧ F104 j ≤ 11) ∧ (∀ j, 0 ≤ F105 j ∧ F105 j ≤ 800) ∧ (∀ j, 0 ≤ F106 j ∧ F106 j ≤ 800) ∧ (∀ j, 0 ≤ F107 j ∧ F107 j ≤ 800) ∧ (∀ j, 0 ≤ F108 j ∧ F108 j ≤ 800) ∧ (∀ j, 0 ≤ F109 j ∧ F109 j ≤ 192) ∧ (y10 = 0 → (m.1 10) = 0) ∧ (LxP y7 y8 y9 (m.1 6) y10) ∧ (∀ k, F14 k + F15 k ≤ 4000) ∧ (∀ k, F47 k + F48 k ≤ 4000) ∧ (y10 = 0 → ((m.1 8) + 1 ≤ y8) ∧ (PN y13 (m.1 19) (m.1 20) (m.1 21) (m.1 22) (m.1 23) y25 (m.1 26) F16 F17) ∧ (CN F65 F67 y28) ∧ ((m.1 28) ≤ y28) ∧ (agr (m.2 65) F65 (m.1 28)) ∧ (TdP F65 y28 (m.1 22) y99 F101 F103 F105 F106 F107 F108) ∧ (AcP y25 y99 F109 F50) ∧ (y99 ≤ 12 * y25) ∧ ((m.1 25) ≤ y25)) ∧ R = (.inl (none), (mhp (mO m [(7, y7), (8, y8), (9, y9), (10, y10), (11, y11), (12, y12), (13, y13), (25, y25), (28, y28), (64, y64), (69, y69), (70, y70), (71, y71), (72, y72), (73, y73), (74, y74), (75, y75), (99, y99), (100, y100)] [(14, F14), (15, F15), (16, F16), (17, F17), (46, F46), (47, F47), (48, F48), (49, F49), (50, F50), (65, F65), (66, F66), (67, F67), (68, F68), (76, F76), (77, F77), (78, F78), (79, F79), (80, F80), (81, F81), (82, F82), (83, F83), (84, F84), (85, F85), (86, F86), (87, F87), (88, F88), (89, F89), (90, F90), (91, F91), (92, F92), (101, F101), (102, F102), (103, F103), (104, F104), (105, F105), (106, F106), (107, F107), (108, F108), (109, F109)]) c, N), 0, 0)
set_option maxHeartbeats 8000000 in
theorem c_takeAction (w : wX) (m : mR) (c : Nat → Option am_C) (N D : Nat) (hD : 14 ≤ D) (hT : Ty m) (hLx0 : LxP (m.1 7) (m.1 8) (m.1 9) (m.1 6) (m.1 10)) (hNM0 : ∀ k, (m.2 14) k + (m.2 15) k ≤ 4000) (hFA0 : ∀ k, (m.2 31) k + (m.2 32) k ≤ 4000) (hPA0 : ∀ k, (m.2 47) k + (m.2 48) k ≤ 4000) (hC : m.1 10 = 0 → (PN (m.1 13) (m.1 19) (m.1 20) (m.1 21) (m.1 22) (m.1 23) (m.1 25) (m.1 26) (m.2 16) (m.2 17)) ∧ (CN (m.2 65) (m.2 67) (m.1 28)) ∧ (TdP (m.2 65) (m.1 28) (m.1 22) (m.1 99) (m.2 101) (m.2 103) (m.2 105) (m.2 106) (m.2 107) (m.2 108)) ∧ (AcP (m.1 25) (m.1 99) (m.2 109) (m.2 50)) ∧ ((m.1 99) ≤ 12 * (m.1 25)) ∧ ((m.1 7) ≠ 0)) : TC w D 267 [.ref 189] (mhp m c, N) (Q_takeAction m c N) := by
  obtain ⟨D, rfl⟩ : ∃ k, D = k + 1 := ⟨D - 1, by omega⟩
  have hLx := hLx0
  have hNM := hNM0
  have hFA := hFA0
  have hPA := hPA0
  have f7 : 0 ≤ m.1 7 ∧ m.1 7 ≤ 330 := hT.1 7
  have f8 : 0 ≤ m.1 8 ∧ m.1 8 ≤ 4000 := hT.1 8
  have f9 : 0 ≤ m.1 9 ∧ m.1 9 ≤ 4000 := hT.1 9
  have f10 : 0 ≤ m.1 10 ∧ m.1 10 ≤ 8 := hT.1 10
  have f11 : (-1) ≤ m.1 11 ∧ m.1 11 ≤ 4000 := hT.1 11
  have f12 : (-9223372036854775808) ≤ m.1 12 ∧ m.1 12 ≤ 9223372036854775807 := hT.1 12
  have f13 : 0 ≤ m.1 13 ∧ m.1 13 ≤ 120 := hT.1 13
  have f25 : 0 ≤ m.1 25 ∧ m.1 25 ≤ 16 := hT.1 25
  have f28 : 0 ≤ m.1 28 ∧ m.1 28 ≤ 800 := hT.1 28
  have f64 : (-1) ≤ m.1 64 ∧ m.1 64 ≤ 15 := hT.1 64
  have f69 : 0 ≤ m.1 69 ∧ m.1 69 ≤ 1024 := hT.1 69
  have f70 : 0 ≤ m.1 70 ∧ m.1 70 ≤ 4000 := hT.1 70
  have f71 : 0 ≤ m.1 71 ∧ m.1 71 ≤ 1 := hT.1 71
  have f72 : (-9223372036854775808) ≤ m.1 72 ∧ m.1 72 ≤ 9223372036854775807 := hT.1 72
  have f73 : 0 ≤ m.1 73 ∧ m.1 73 ≤ 60 := hT.1 73
  have f74 : 0 ≤ m.1 74 ∧ m.1 74 ≤ 24 := hT.1 74
  have f75 : 0 ≤ m.1 75 ∧ m.1 75 ≤ 3 := hT.1 75
  have f99 : 0 ≤ m.1 99 ∧ m.1 99 ≤ 240 := hT.1 99
  have f100 : 0 ≤ m.1 100 ∧ m.1 100 ≤ 64 := hT.1 100
  have f22 : 0 ≤ m.1 22 ∧ m.1 22 ≤ 8 := hT.1 22
  have f19 : 0 ≤ m.1 19 ∧ m.1 19 ≤ 12 := hT.1 19
  have f20 : 0 ≤ m.1 20 ∧ m.1 20 ≤ 12 := hT.1 20
  have f21 : 0 ≤ m.1 21 ∧ m.1 21 ≤ 16 := hT.1 21
  have f6 : 0 ≤ m.1 6 ∧ m.1 6 ≤ 4000 := hT.1 6
  have f23 : 0 ≤ m.1 23 ∧ m.1 23 ≤ 16 := hT.1 23
  have f26 : 0 ≤ m.1 26 ∧ m.1 26 ≤ 8 := hT.1 26
  refine Tc_of rfl ?_
  show TT w D pm_267 (0, [(0, .ref 189)], [], (mhp m c, N), 0, 0) (Q_takeAction m c N)
  rw [show (mhp m c, N) = (mhp (mO m [(7, (m.1 7)), (8, (m.1 8)), (9, (m.1 9)), (10, (m.1 10)), (11, (m.1 11)), (12, (m.1 12)), (13, (m.1 13)), (25, (m.1 25)), (28, (m.1 28)), (64, (m.1 64)), (69, (m.1 69)), (70, (m.1 70)), (71, (m.1 71)), (72, (m.1 72)), (73, (m.1 73)), (74, (m.1 74)), (75, (m.1 75)), (99, (m.1 99)), (100, (m.1 100))] [(14, (m.2 14)), (15, (m.2 15)), (16, (m.2 16)), (17, (m.2 17)), (46, (m.2 46)), (47, (m.2 47)), (48, (m.2 48)), (49, (m.2 49)), (50, (m.2 50)), (65, (m.2 65)), (66, (m.2 66)), (67, (m.2 67)), (68, (m.2 68)), (76, (m.2 76)), (77, (m.2 77)), (78, (m.2 78)), (79, (m.2 79)), (80, (m.2 80)), (81, (m.2 81)), (82, (m.2 82)), (83, (m.2 83)), (84, (m.2 84)), (85, (m.2 85)), (86, (m.2 86)), (87, (m.2 87)), (88, (m.2 88)), (89, (m.2 89)), (90, (m.2 90)), (91, (m.2 91)), (92, (m.2 92)), (101, (m.2 101)), (102, (m.2 102)), (103, (m.2 103)), (104, (m.2 104)), (105, (m.2 105)), (106, (m.2 106)), (107, (m.2 107)), (108, (m.2 108)), (109, (m.2 109))]) c, N) from congrArg (fun M => (mhp M c, N)) (mO_pad m [7, 8, 9, 10, 11, 12, 13, 25, 28, 64, 69, 70, 71, 72, 73, 74, 75, 99, 100] [14, 15, 16, 17, 46, 47, 48, 49, 50, 65, 66, 67, 68, 76, 77, 78, 79, 80, 81, 82, 83, 84, 85, 86, 87, 88, 89, 90, 91, 92, 101, 102, 103, 104, 105, 106, 107, 108, 109])]
  by_cases hf0 : m.1 10 = 0
  · skip
    obtain ⟨pPN, hCN, pTd, pAc, c1, c2⟩ := hC hf0
    have h7 := hLx (by omega)
    have hAgC := agr_r (m.2 65) (m.1 28)
    have hNM := hNM0
    have hPA := hPA0
    have hn := pPN.1
    refine T_ld 1 (.ref 189) rfl (fun _ => rfl) ?_
    refine T_call 4 212 [.ref 189] [] rfl (fun _ => rfl) rfl (c_next w (mO m [(7, (m.1 7)), (8, (m.1 8)), (9, (m.1 9)), (10, (m.1 10)), (11, (m.1 11)), (12, (m.1 12)), (13, (m.1 13)), (25, (m.1 25)), (28, (m.1 28)), (64, (m.1 64)), (69, (m.1 69)), (70, (m.1 70)), (71, (m.1 71)), (72, (m.1 72)), (73, (m.1 73)), (74, (m.1 74)), (75, (m.1 75)), (99, (m.1 99)), (100, (m.1 100))] [(14, (m.2 14)), (15, (m.2 15)), (16, (m.2 16)), (17, (m.2 17)), (46, (m.2 46)), (47, (m.2 47)), (48, (m.2 48)), (49, (m.2 49)), (50, (m.2 50)), (65, (m.2 65)), (66, (m.2 66)), (67, (m.2 67)), (68, (m.2 68)), (76, (m.2 76)), (77, (m.2 77)), (78, (m.2 78)), (79, (m.2 79)), (80, (m.2 80)), (81, (m.2 81)), (82, (m.2 82)), (83, (m.2 83)), (84, (m.2 84)), (85, (m.2 85)), (86, (m.2 86)), (87, (m.2 87)), (88, (m.2 88)), (89, (m.2 89)), (90, (m.2 90)), (91, (m.2 91)), (92, (m.2 92)), (101, (m.2 101)), (102, (m.2 102)), (103, (m.2 103)), (104, (m.2 104)), (105, (m.2 105)), (106, (m.2 106)), (107, (m.2 107)), (108, (m.2 108)), (109, (m.2 109))]) c N D (by omega) (Ty_mO hT rfl rfl ⟨f7, f8, f9, f10, f11, f12, f13, f25, f28, f64, f69, f70, f71, f72, f73, f74, f75, f99, f100, trivial⟩ ⟨(hT.2.1 14), (hT.2.1 15), (hT.2.1 16), (hT.2.1 17), (hT.2.1 46), (hT.2.1 47), (hT.2.1 48), (hT.2.1 49), (hT.2.1 50), (hT.2.1 65), (hT.2.1 66), (hT.2.1 67), (hT.2.1 68), (hT.2.1 76), (hT.2.1 77), (hT.2.1 78), (hT.2.1 79), (hT.2.1 80), (hT.2.1 81), (hT.2.1 82), (hT.2.1 83), (hT.2.1 84), (hT.2.1 85), (hT.2.1 86), (hT.2.1 87), (hT.2.1 88), (hT.2.1 89), (hT.2.1 90), (hT.2.1 91), (hT.2.1 92), (hT.2.1 101), (hT.2.1 102), (hT.2.1 103), (hT.2.1 104), (hT.2.1 105), (hT.2.1 106), (hT.2.1 107), (hT.2.1 108), (hT.2.1 109), trivial⟩) (show (m.1 10) = 0 → (m.1 8) + (m.1 9) ≤ (m.1 6) by first | omega | (intro h9; have h8 := hLx h9; omega))) (fun rr3 k4 => ?_)
    obtain ⟨y5, y7, y9, y11, y13, y15, g6, g8, g10, g12, g14, g16, h17, h18, h19, h20, rfl⟩ := k4
    refine ⟨_, _, rfl, ?_⟩
    refine T_nf (st' := []) (l' := [(7, y5), (8, y7), (9, y9), (10, y11), (11, y13), (12, y15), (13, (m.1 13)), (25, (m.1 25)), (28, (m.1 28)), (64, (m.1 64)), (69, (m.1 69)), (70, (m.1 70)), (71, (m.1 71)), (72, (m.1 72)), (73, (m.1 73)), (74, (m.1 74)), (75, (m.1 75)), (99, (m.1 99)), (100, (m.1 100))]) (a' := [(14, (m.2 14)), (15, (m.2 15)), (16, (m.2 16)), (17, (m.2 17)), (46, (m.2 46)), (47, (m.2 47)), (48, (m.2 48)), (49, (m.2 49)), (50, (m.2 50)), (65, (m.2 65)), (66, (m.2 66)), (67, (m.2 67)), (68, (m.2 68)), (76, (m.2 76)), (77, (m.2 77)), (78, (m.2 78)), (79, (m.2 79)), (80, (m.2 80)), (81, (m.2 81)), (82, (m.2 82)), (83, (m.2 83)), (84, (m.2 84)), (85, (m.2 85)), (86, (m.2 86)), (87, (m.2 87)), (88, (m.2 88)), (89, (m.2 89)), (90, (m.2 90)), (91, (m.2 91)), (92, (m.2 92)), (101, (m.2 101)), (102, (m.2 102)), (103, (m.2 103)), (104, (m.2 104)), (105, (m.2 105)), (106, (m.2 106)), (107, (m.2 107)), (108, (m.2 108)), (109, (m.2 109))]) rfl rfl rfl rfl rfl ?_
    by_cases hf21 : y11 = 0
    · skip
      subst hf21
      replace h17 : LxP y5 y7 y9 (m.1 6) (0 : Int) := h17
      have hLx := h17
      replace h18 : (m.1 10) = 0 := h18 rfl
      replace h19 : (m.1 8) ≤ y7 := h19
      replace h20 : (m.1 8) + (m.1 9) ≤ y7 := h20 rfl
      have u22 : (m.1 8) + 1 ≤ y7 := by omega
      have hAgC : agr (m.2 65) (m.2 65) (m.1 28) := by first | exact agr_r _ _ | exact hAgC | exact agr_t hAgC hAg (by omega)
      clear g12
      refine T_ld 5 (.ref 189) rfl (fun _ => rfl) ?_
      refine T_ld 7 (.int (i32 6)) rfl (fun _ => rfl) ?_
      refine T_gf 11 (.int (i32 (m.1 25))) rfl rfl rfl rfl rfl rfl ?_
      refine T_ld 13 (.int (i32 16)) rfl (fun _ => rfl) ?_
      refine T_call 16 225 [.ref 189, .int (i32 6), .int (i32 (m.1 25)), .int (i32 16)] [] rfl (fun _ => rfl) rfl (c_newName w (mO m [(7, y5), (8, y7), (9, y9), (10, 0), (11, y13), (12, y15), (13, (m.1 13)), (25, (m.1 25)), (28, (m.1 28)), (64, (m.1 64)), (69, (m.1 69)), (70, (m.1 70)), (71, (m.1 71)), (72, (m.1 72)), (73, (m.1 73)), (74, (m.1 74)), (75, (m.1 75)), (99, (m.1 99)), (100, (m.1 100))] [(14, (m.2 14)), (15, (m.2 15)), (16, (m.2 16)), (17, (m.2 17)), (46, (m.2 46)), (47, (m.2 47)), (48, (m.2 48)), (49, (m.2 49)), (50, (m.2 50)), (65, (m.2 65)), (66, (m.2 66)), (67, (m.2 67)), (68, (m.2 68)), (76, (m.2 76)), (77, (m.2 77)), (78, (m.2 78)), (79, (m.2 79)), (80, (m.2 80)), (81, (m.2 81)), (82, (m.2 82)), (83, (m.2 83)), (84, (m.2 84)), (85, (m.2 85)), (86, (m.2 86)), (87, (m.2 87)), (88, (m.2 88)), (89, (m.2 89)), (90, (m.2 90)), (91, (m.2 91)), (92, (m.2 92)), (101, (m.2 101)), (102, (m.2 102)), (103, (m.2 103)), (104, (m.2 104)), (105, (m.2 105)), (106, (m.2 106)), (107, (m.2 107)), (108, (m.2 108)), (109, (m.2 109))]) c N D (by omega) (Ty_mO hT rfl rfl ⟨g6, g8, g10, ⟨(by omega : (0 : Int) ≤ 0), (by omega : (0 : Int) ≤ 8)⟩, g14, g16, f13, f25, f28, f64, f69, f70, f71, f72, f73, f74, f75, f99, f100, trivial⟩ ⟨(hT.2.1 14), (hT.2.1 15), (hT.2.1 16), (hT.2.1 17), (hT.2.1 46), (hT.2.1 47), (hT.2.1 48), (hT.2.1 49), (hT.2.1 50), (hT.2.1 65), (hT.2.1 66), (hT.2.1 67), (hT.2.1 68), (hT.2.1 76), (hT.2.1 77), (hT.2.1 78), (hT.2.1 79), (hT.2.1 80), (hT.2.1 81), (hT.2.1 82), (hT.2.1 83), (hT.2.1 84), (hT.2.1 85), (hT.2.1 86), (hT.2.1 87), (hT.2.1 88), (hT.2.1 89), (hT.2.1 90), (hT.2.1 91), (hT.2.1 92), (hT.2.1 101), (hT.2.1 102), (hT.2.1 103), (hT.2.1 104), (hT.2.1 105), (hT.2.1 106), (hT.2.1 107), (hT.2.1 108), (hT.2.1 109), trivial⟩) 6 (m.1 25) 16 ⟨by decide, by decide⟩ (r32 (by omega) (by omega)) ⟨by decide, by decide⟩ (show LxP y5 y7 y9 (m.1 6) (0 : Int) by first | exact hLx | (intro h9; exfalso; omega) | (intro h9; have h8 := hLx (by omega); omega)) (show ∀ k, (m.2 14) k + (m.2 15) k ≤ 4000 by first | exact p1 | exact hNM) (show (0 : Int) = 0 → (m.1 13) ≤ 119 by omega) (show 1 ≤ (6 : Int) ∧ (6 : Int) ≤ 7 by omega) (show 0 ≤ (m.1 25) ∧ ((m.1 25) ≠ (16 : Int) → (m.1 25) ≤ 15) by omega)) (fun rr23 k24 => ?_)
      obtain ⟨y25, y27, y29, y31, y33, y35, y37, F39, F41, F43, F45, nn, g26, g28, g30, g32, g34, g36, g38, G40, G42, G44, G46, g47, h48, h49, h50, h51, h52, h53, h54, rfl⟩ := k24
      refine ⟨_, _, rfl, ?_⟩
      refine T_nf (st' := [.int (i32 nn)]) (l' := [(7, y25), (8, y27), (9, y29), (10, y31), (11, y33), (12, y35), (13, y37), (25, (m.1 25)), (28, (m.1 28)), (64, (m.1 64)), (69, (m.1 69)), (70, (m.1 70)), (71, (m.1 71)), (72, (m.1 72)), (73, (m.1 73)), (74, (m.1 74)), (75, (m.1 75)), (99, (m.1 99)), (100, (m.1 100))]) (a' := [(14, F39), (15, F41), (16, F43), (17, F45), (46, (m.2 46)), (47, (m.2 47)), (48, (m.2 48)), (49, (m.2 49)), (50, (m.2 50)), (65, (m.2 65)), (66, (m.2 66)), (67, (m.2 67)), (68, (m.2 68)), (76, (m.2 76)), (77, (m.2 77)), (78, (m.2 78)), (79, (m.2 79)), (80, (m.2 80)), (81, (m.2 81)), (82, (m.2 82)), (83, (m.2 83)), (84, (m.2 84)), (85, (m.2 85)), (86, (m.2 86)), (87, (m.2 87)), (88, (m.2 88)), (89, (m.2 89)), (90, (m.2 90)), (91, (m.2 91)), (92, (m.2 92)), (101, (m.2 101)), (102, (m.2 102)), (103, (m.2 103)), (104, (m.2 104)), (105, (m.2 105)), (106, (m.2 106)), (107, (m.2 107)), (108, (m.2 108)), (109, (m.2 109))]) rfl rfl rfl rfl rfl ?_
      obtain ⟨g47a, g47b⟩ := g47
      by_cases hf55 : y31 = 0
      · skip
        subst hf55
        replace h48 : LxP y25 y27 y29 (m.1 6) (0 : Int) := h48
        have hLx := h48
        replace h49 : y7 ≤ y27 := h49
        replace h50 : (0 : Int) = 0 ∧ y7 + y9 ≤ y27 := h50 rfl
        replace h51 : nn = 1 ∧ y5 = 1 := h51 rfl
        replace h52 : nn = 1 → (m.1 25) ≠ (16 : Int) := h52
        replace h53 : ∀ k, F39 k + F41 k ≤ 4000 := h53
        have hNM := h53
        replace h54 : (nn = 1 ∧ (0 : Int) = 0 ∧ y37 = (m.1 13) + 1 ∧ F39 = upI (m.2 14) (m.1 13) y7 ∧ F41 = upI (m.2 15) (m.1 13) y9 ∧ F43 = upI (m.2 16) (m.1 13) (6 : Int) ∧ F45 = upI (m.2 17) (m.1 13) (m.1 25)) ∨ (nn = 0 ∧ 0 < (0 : Int) ∧ y37 = (m.1 13) ∧ F39 = (m.2 14) ∧ F41 = (m.2 15) ∧ F43 = (m.2 16) ∧ F45 = (m.2 17)) := h54
        have hN := h54
        have u56 : (m.1 8) + 1 ≤ y27 := by omega
        have hAgC : agr (m.2 65) (m.2 65) (m.1 28) := by first | exact agr_r _ _ | exact hAgC | exact agr_t hAgC hAg (by omega)
        clear g6 g8 g10 g14 g16 h17 h19 h20 u22 g32 h49 h50 h51 h54
        refine T_if 20 19 rfl rfl rfl (r32 (by omega) (by omega)) (fun (h57 : nn ≠ 0) => ?_) (fun (h57 : ¬ (nn ≠ 0)) => by exfalso; omega)
        have hlt : (m.1 25) ≤ 15 := by omega
        have hn7 : y37 = (m.1 13) + 1 ∧ F43 = upI (m.2 16) (m.1 13) 6 ∧ F45 = upI (m.2 17) (m.1 13) (m.1 25) := by
          rcases hN with ⟨e1, e2, e3, e4, e5, e6, e7⟩ | ⟨e1, e2⟩
          · exact ⟨e3, e6, e7⟩
          · omega
        have pPN : PN y37 (m.1 19) (m.1 20) (m.1 21) (m.1 22) (m.1 23) ((m.1 25) + 1) (m.1 26) F43 F45 := by
          rw [hn7.1, hn7.2.1, hn7.2.2]
          exact PN_6 pPN (by omega)
        refine T_gf 24 (.int (i32 (m.1 25))) rfl rfl rfl rfl rfl rfl ?_
        refine T_sto 25 [(1, .int (i32 (m.1 25))), (0, .ref 189)] rfl (fun _ => rfl) ?_
        refine T_ld 26 (.ref 189) rfl (fun _ => rfl) ?_
        refine T_ld 27 (.ref 189) rfl (fun _ => rfl) ?_
        refine T_gf1 30 (.int (i32 (m.1 25))) rfl rfl rfl rfl ?_
        refine T_ld 31 (.int (i32 1)) rfl (fun _ => rfl) ?_
        refine T_iadd 32 rfl rfl ?_
        refine T_pf (l' := [(7, y25), (8, y27), (9, y29), (10, 0), (11, y33), (12, y35), (13, y37), (25, (m.1 25) + 1), (28, (m.1 28)), (64, (m.1 64)), (69, (m.1 69)), (70, (m.1 70)), (71, (m.1 71)), (72, (m.1 72)), (73, (m.1 73)), (74, (m.1 74)), (75, (m.1 75)), (99, (m.1 99)), (100, (m.1 100))]) 35 ((m.1 25) + 1) rfl rfl rfl rfl rfl rfl ?_
        have g58 : 0 ≤ (m.1 25) + 1 ∧ (m.1 25) + 1 ≤ 16 := ⟨by omega, by omega⟩
        refine T_gf 39 (.ref 269) rfl rfl rfl rfl rfl rfl ?_
        refine T_ld 40 (.int (i32 (m.1 25))) rfl (fun _ => rfl) ?_
        refine T_gf 44 (.int (i32 (m.1 99))) rfl rfl rfl rfl rfl rfl ?_
        have G59 : ∀ j, 0 ≤ (upI (m.2 109) (m.1 25) (m.1 99)) j ∧ (upI (m.2 109) (m.1 25) (m.1 99)) j ≤ 192 := upI_rg (hT.2.1 109) ⟨by omega, by omega⟩
        refine T_iast (a' := [(14, F39), (15, F41), (16, F43), (17, F45), (46, (m.2 46)), (47, (m.2 47)), (48, (m.2 48)), (49, (m.2 49)), (50, (m.2 50)), (65, (m.2 65)), (66, (m.2 66)), (67, (m.2 67)), (68, (m.2 68)), (76, (m.2 76)), (77, (m.2 77)), (78, (m.2 78)), (79, (m.2 79)), (80, (m.2 80)), (81, (m.2 81)), (82, (m.2 82)), (83, (m.2 83)), (84, (m.2 84)), (85, (m.2 85)), (86, (m.2 86)), (87, (m.2 87)), (88, (m.2 88)), (89, (m.2 89)), (90, (m.2 90)), (91, (m.2 91)), (92, (m.2 92)), (101, (m.2 101)), (102, (m.2 102)), (103, (m.2 103)), (104, (m.2 104)), (105, (m.2 105)), (106, (m.2 106)), (107, (m.2 107)), (108, (m.2 108)), (109, upI (m.2 109) (m.1 25) (m.1 99))]) 45 109 (m.2 109) rfl rfl rfl (by omega) (show (m.1 25) < (16 : Int) by omega) rfl rfl ?_
        refine T_gf 49 (.ref 216) rfl rfl rfl rfl rfl rfl ?_
        refine T_ld 50 (.int (i32 (m.1 25))) rfl (fun _ => rfl) ?_
        refine T_ld 51 (.int (i32 0)) rfl (fun _ => rfl) ?_
        have G60 : ∀ j, 0 ≤ (upI (m.2 46) (m.1 25) 0) j ∧ (upI (m.2 46) (m.1 25) 0) j ≤ 4 := upI_rg (hT.2.1 46) ⟨by omega, by omega⟩
        refine T_iast (a' := [(14, F39), (15, F41), (16, F43), (17, F45), (46, upI (m.2 46) (m.1 25) 0), (47, (m.2 47)), (48, (m.2 48)), (49, (m.2 49)), (50, (m.2 50)), (65, (m.2 65)), (66, (m.2 66)), (67, (m.2 67)), (68, (m.2 68)), (76, (m.2 76)), (77, (m.2 77)), (78, (m.2 78)), (79, (m.2 79)), (80, (m.2 80)), (81, (m.2 81)), (82, (m.2 82)), (83, (m.2 83)), (84, (m.2 84)), (85, (m.2 85)), (86, (m.2 86)), (87, (m.2 87)), (88, (m.2 88)), (89, (m.2 89)), (90, (m.2 90)), (91, (m.2 91)), (92, (m.2 92)), (101, (m.2 101)), (102, (m.2 102)), (103, (m.2 103)), (104, (m.2 104)), (105, (m.2 105)), (106, (m.2 106)), (107, (m.2 107)), (108, (m.2 108)), (109, upI (m.2 109) (m.1 25) (m.1 99))]) 52 46 (m.2 46) rfl rfl rfl (by omega) (show (m.1 25) < (16 : Int) by omega) rfl rfl ?_
        refine T_gf 56 (.ref 220) rfl rfl rfl rfl rfl rfl ?_
        refine T_ld 57 (.int (i32 (m.1 25))) rfl (fun _ => rfl) ?_
        refine T_ld 58 (.int (i32 0)) rfl (fun _ => rfl) ?_
        have G61 : ∀ j, 0 ≤ (upI (m.2 50) (m.1 25) 0) j ∧ (upI (m.2 50) (m.1 25) 0) j ≤ 13 := upI_rg (hT.2.1 50) ⟨by omega, by omega⟩
        refine T_iast (a' := [(14, F39), (15, F41), (16, F43), (17, F45), (46, upI (m.2 46) (m.1 25) 0), (47, (m.2 47)), (48, (m.2 48)), (49, (m.2 49)), (50, upI (m.2 50) (m.1 25) 0), (65, (m.2 65)), (66, (m.2 66)), (67, (m.2 67)), (68, (m.2 68)), (76, (m.2 76)), (77, (m.2 77)), (78, (m.2 78)), (79, (m.2 79)), (80, (m.2 80)), (81, (m.2 81)), (82, (m.2 82)), (83, (m.2 83)), (84, (m.2 84)), (85, (m.2 85)), (86, (m.2 86)), (87, (m.2 87)), (88, (m.2 88)), (89, (m.2 89)), (90, (m.2 90)), (91, (m.2 91)), (92, (m.2 92)), (101, (m.2 101)), (102, (m.2 102)), (103, (m.2 103)), (104, (m.2 104)), (105, (m.2 105)), (106, (m.2 106)), (107, (m.2 107)), (108, (m.2 108)), (109, upI (m.2 109) (m.1 25) (m.1 99))]) 59 50 (m.2 50) rfl rfl rfl (by omega) (show (m.1 25) < (16 : Int) by omega) rfl rfl ?_
        refine T_ld 60 (.ref 189) rfl (fun _ => rfl) ?_
        refine T_ld 62 (.int (i32 40)) rfl (fun _ => rfl) ?_
        refine T_call 65 232 [.ref 189, .int (i32 40)] [] rfl (fun _ => rfl) rfl (c_need w (mO m [(7, y25), (8, y27), (9, y29), (10, 0), (11, y33), (12, y35), (13, y37), (25, (m.1 25) + 1), (28, (m.1 28)), (64, (m.1 64)), (69, (m.1 69)), (70, (m.1 70)), (71, (m.1 71)), (72, (m.1 72)), (73, (m.1 73)), (74, (m.1 74)), (75, (m.1 75)), (99, (m.1 99)), (100, (m.1 100))] [(14, F39), (15, F41), (16, F43), (17, F45), (46, upI (m.2 46) (m.1 25) 0), (47, (m.2 47)), (48, (m.2 48)), (49, (m.2 49)), (50, upI (m.2 50) (m.1 25) 0), (65, (m.2 65)), (66, (m.2 66)), (67, (m.2 67)), (68, (m.2 68)), (76, (m.2 76)), (77, (m.2 77)), (78, (m.2 78)), (79, (m.2 79)), (80, (m.2 80)), (81, (m.2 81)), (82, (m.2 82)), (83, (m.2 83)), (84, (m.2 84)), (85, (m.2 85)), (86, (m.2 86)), (87, (m.2 87)), (88, (m.2 88)), (89, (m.2 89)), (90, (m.2 90)), (91, (m.2 91)), (92, (m.2 92)), (101, (m.2 101)), (102, (m.2 102)), (103, (m.2 103)), (104, (m.2 104)), (105, (m.2 105)), (106, (m.2 106)), (107, (m.2 107)), (108, (m.2 108)), (109, upI (m.2 109) (m.1 25) (m.1 99))]) c N D (by omega) (Ty_mO hT rfl rfl ⟨g26, g28, g30, ⟨(by omega : (0 : Int) ≤ 0), (by omega : (0 : Int) ≤ 8)⟩, g34, g36, g38, g58, f28, f64, f69, f70, f71, f72, f73, f74, f75, f99, f100, trivial⟩ ⟨G40, G42, G44, G46, G60, (hT.2.1 47), (hT.2.1 48), (hT.2.1 49), G61, (hT.2.1 65), (hT.2.1 66), (hT.2.1 67), (hT.2.1 68), (hT.2.1 76), (hT.2.1 77), (hT.2.1 78), (hT.2.1 79), (hT.2.1 80), (hT.2.1 81), (hT.2.1 82), (hT.2.1 83), (hT.2.1 84), (hT.2.1 85), (hT.2.1 86), (hT.2.1 87), (hT.2.1 88), (hT.2.1 89), (hT.2.1 90), (hT.2.1 91), (hT.2.1 92), (hT.2.1 101), (hT.2.1 102), (hT.2.1 103), (hT.2.1 104), (hT.2.1 105), (hT.2.1 106), (hT.2.1 107), (hT.2.1 108), G59, trivial⟩) 40 ⟨by decide, by decide⟩ (show 1 ≤ (40 : Int) by omega) (show LxP y25 y27 y29 (m.1 6) (0 : Int) by first | exact hLx | (intro h9; exfalso; omega) | (intro h9; have h8 := hLx (by omega); omega))) (fun rr62 k63 => ?_)
        obtain ⟨y64, y66, y68, y70, y72, y74, g65, g67, g69, g71, g73, g75, h76, h77, h78, h79, rfl⟩ := k63
        refine ⟨_, _, rfl, ?_⟩
        refine T_nf (st' := []) (l' := [(7, y64), (8, y66), (9, y68), (10, y70), (11, y72), (12, y74), (13, y37), (25, (m.1 25) + 1), (28, (m.1 28)), (64, (m.1 64)), (69, (m.1 69)), (70, (m.1 70)), (71, (m.1 71)), (72, (m.1 72)), (73, (m.1 73)), (74, (m.1 74)), (75, (m.1 75)), (99, (m.1 99)), (100, (m.1 100))]) (a' := [(14, F39), (15, F41), (16, F43), (17, F45), (46, upI (m.2 46) (m.1 25) 0), (47, (m.2 47)), (48, (m.2 48)), (49, (m.2 49)), (50, upI (m.2 50) (m.1 25) 0), (65, (m.2 65)), (66, (m.2 66)), (67, (m.2 67)), (68, (m.2 68)), (76, (m.2 76)), (77, (m.2 77)), (78, (m.2 78)), (79, (m.2 79)), (80, (m.2 80)), (81, (m.2 81)), (82, (m.2 82)), (83, (m.2 83)), (84, (m.2 84)), (85, (m.2 85)), (86, (m.2 86)), (87, (m.2 87)), (88, (m.2 88)), (89, (m.2 89)), (90, (m.2 90)), (91, (m.2 91)), (92, (m.2 92)), (101, (m.2 101)), (102, (m.2 102)), (103, (m.2 103)), (104, (m.2 104)), (105, (m.2 105)), (106, (m.2 106)), (107, (m.2 107)), (108, (m.2 108)), (109, upI (m.2 109) (m.1 25) (m.1 99))]) rfl rfl rfl rfl rfl ?_
        by_cases hf80 : y70 = 0
        · skip
          subst hf80
          replace h76 : LxP y64 y66 y68 (m.1 6) (0 : Int) := h76
          have hLx := h76
          replace h77 : (0 : Int) = 0 ∧ y25 = (40 : Int) := h77 rfl
          replace h78 : y27 ≤ y66 := h78
          replace h79 : y27 + y29 ≤ y66 := h79 rfl
          have u81 : (m.1 8) + 1 ≤ y66 := by omega
          have hAgC : agr (m.2 65) (m.2 65) (m.1 28) := by first | exact agr_r _ _ | exact hAgC | exact agr_t hAgC hAg (by omega)
          clear g26 g28 g30 g34 g36 g47a g47b h48 h52 u56 h57 g71 h77 h78 h79
          refine T_gf 69 (.int (i32 0)) rfl rfl rfl rfl rfl rfl ?_
          refine T_if 85 72 rfl rfl rfl ⟨by decide, by decide⟩ (fun h82 => absurd (show (0 : Int) ≠ 0 from h82) (by decide)) (fun _ => ?_)
          refine T_gf 76 (.int (i32 y64)) rfl rfl rfl rfl rfl rfl ?_
          refine T_ld 78 (.int (i32 41)) rfl (fun _ => rfl) ?_
          have J86_84 : ∀ (s83 : Int), (R32 s83) → (0 ≤ s83) → (s83 ≤ 1) → TT w D pm_267 (86, [(0, .ref 189), (1, .int (i32 (m.1 25)))], [.int (i32 s83)], (mhp (mO m [(7, y64), (8, y66), (9, y68), (10, 0), (11, y72), (12, y74), (13, y37), (25, (m.1 25) + 1), (28, (m.1 28)), (64, (m.1 64)), (69, (m.1 69)), (70, (m.1 70)), (71, (m.1 71)), (72, (m.1 72)), (73, (m.1 73)), (74, (m.1 74)), (75, (m.1 75)), (99, (m.1 99)), (100, (m.1 100))] [(14, F39), (15, F41), (16, F43), (17, F45), (46, upI (m.2 46) (m.1 25) 0), (47, (m.2 47)), (48, (m.2 48)), (49, (m.2 49)), (50, upI (m.2 50) (m.1 25) 0), (65, (m.2 65)), (66, (m.2 66)), (67, (m.2 67)), (68, (m.2 68)), (76, (m.2 76)), (77, (m.2 77)), (78, (m.2 78)), (79, (m.2 79)), (80, (m.2 80)), (81, (m.2 81)), (82, (m.2 82)), (83, (m.2 83)), (84, (m.2 84)), (85, (m.2 85)), (86, (m.2 86)), (87, (m.2 87)), (88, (m.2 88)), (89, (m.2 89)), (90, (m.2 90)), (91, (m.2 91)), (92, (m.2 92)), (101, (m.2 101)), (102, (m.2 102)), (103, (m.2 103)), (104, (m.2 104)), (105, (m.2 105)), (106, (m.2 106)), (107, (m.2 107)), (108, (m.2 108)), (109, upI (m.2 109) (m.1 25) (m.1 99))]) c, N), 0, 0) (Q_takeAction m c N) := by
            intro s83 q85 ic86 ic87
            obtain ⟨q85a, q85b⟩ := id q85
            refine T_sto 87 [(2, .int (i32 s83)), (0, .ref 189), (1, .int (i32 (m.1 25)))] rfl (fun _ => rfl) ?_
            have L87_100 : ∀ (n : Nat) (v89 : Int) (y90 : Int) (y91 : Int) (y92 : Int) (y93 : Int) (y94 : Int) (y95 : Int) (F96 : Int → Int) (F97 : Int → Int) (F98 : Int → Int) (F99 : Int → Int), (R32 v89) → (0 ≤ y90 ∧ y90 ≤ 330) → (0 ≤ y91 ∧ y91 ≤ 4000) → (0 ≤ y92 ∧ y92 ≤ 4000) → (0 ≤ y93 ∧ y93 ≤ 8) → ((-1) ≤ y94 ∧ y94 ≤ 4000) → ((-9223372036854775808) ≤ y95 ∧ y95 ≤ 9223372036854775807) → (∀ j, 0 ≤ F96 j ∧ F96 j ≤ 4) → (∀ j, 0 ≤ F97 j ∧ F97 j ≤ 4000) → (∀ j, 0 ≤ F98 j ∧ F98 j ≤ 4000) → (∀ j, 0 ≤ F99 j ∧ F99 j ≤ 64) → (0 ≤ v89) → (v89 ≤ 1) → (LxP y90 y91 y92 (m.1 6) y93) → (∀ k, F97 k + F98 k ≤ 4000) → (v89 = 0 ∨ v89 = 1) → (y93 = 0 → ((m.1 8) + 1 ≤ y91)) → 1000000 * (8 - y93) + 2 * (4000 - y91) + v89 < (n : Int) → TT w D pm_267 (87, [(0, .ref 189), (1, .int (i32 (m.1 25))), (2, .int (i32 v89))], [], (mhp (mO m [(7, y90), (8, y91), (9, y92), (10, y93), (11, y94), (12, y95), (13, y37), (25, (m.1 25) + 1), (28, (m.1 28)), (64, (m.1 64)), (69, (m.1 69)), (70, (m.1 70)), (71, (m.1 71)), (72, (m.1 72)), (73, (m.1 73)), (74, (m.1 74)), (75, (m.1 75)), (99, (m.1 99)), (100, (m.1 100))] [(14, F39), (15, F41), (16, F43), (17, F45), (46, F96), (47, F97), (48, F98), (49, F99), (50, upI (m.2 50) (m.1 25) 0), (65, (m.2 65)), (66, (m.2 66)), (67, (m.2 67)), (68, (m.2 68)), (76, (m.2 76)), (77, (m.2 77)), (78, (m.2 78)), (79, (m.2 79)), (80, (m.2 80)), (81, (m.2 81)), (82, (m.2 82)), (83, (m.2 83)), (84, (m.2 84)), (85, (m.2 85)), (86, (m.2 86)), (87, (m.2 87)), (88, (m.2 88)), (89, (m.2 89)), (90, (m.2 90)), (91, (m.2 91)), (92, (m.2 92)), (101, (m.2 101)), (102, (m.2 102)), (103, (m.2 103)), (104, (m.2 104)), (105, (m.2 105)), (106, (m.2 106)), (107, (m.2 107)), (108, (m.2 108)), (109, upI (m.2 109) (m.1 25) (m.1 99))]) c, N), 0, 0) (Q_takeAction m c N) := by
              intro n
              induction n with
              | zero =>
                intro v89 y90 y91 y92 y93 y94 y95 F96 F97 F98 F99 q101 q102 q103 q104 q105 q106 q107 q108 q109 q110 q111 ic112 ic113 ic114 ic115 ic116 c117 hmu
                obtain ⟨q101a, q101b⟩ := id q101
                have hLx := ic114
                have hPA := ic115
                exfalso
                omega
              | succ n ih =>
                intro v89 y90 y91 y92 y93 y94 y95 F96 F97 F98 F99 q101 q102 q103 q104 q105 q106 q107 q108 q109 q110 q111 ic112 ic113 ic114 ic115 ic116 c117 hmu
                obtain ⟨q101a, q101b⟩ := id q101
                have hLx := ic114
                have hPA := ic115
                have ih118 := ih
                by_cases hf119 : y93 = 0
                · skip
                  subst hf119
                  have c120 := c117 rfl
                  refine T_ld 88 (.int (i32 v89)) rfl (fun _ => rfl) ?_
                  refine T_if 136 91 rfl rfl rfl (r32 (by omega) (by omega)) (fun (h121 : v89 = 0) => ?_) (fun (h121 : ¬ (v89 = 0)) => ?_)
                  · skip
                    refine T_ld 137 (.ref 189) rfl (fun _ => rfl) ?_
                    refine T_ld 139 (.int (i32 41)) rfl (fun _ => rfl) ?_
                    refine T_call 142 232 [.ref 189, .int (i32 41)] [] rfl (fun _ => rfl) rfl (c_need w (mO m [(7, y90), (8, y91), (9, y92), (10, 0), (11, y94), (12, y95), (13, y37), (25, (m.1 25) + 1), (28, (m.1 28)), (64, (m.1 64)), (69, (m.1 69)), (70, (m.1 70)), (71, (m.1 71)), (72, (m.1 72)), (73, (m.1 73)), (74, (m.1 74)), (75, (m.1 75)), (99, (m.1 99)), (100, (m.1 100))] [(14, F39), (15, F41), (16, F43), (17, F45), (46, F96), (47, F97), (48, F98), (49, F99), (50, upI (m.2 50) (m.1 25) 0), (65, (m.2 65)), (66, (m.2 66)), (67, (m.2 67)), (68, (m.2 68)), (76, (m.2 76)), (77, (m.2 77)), (78, (m.2 78)), (79, (m.2 79)), (80, (m.2 80)), (81, (m.2 81)), (82, (m.2 82)), (83, (m.2 83)), (84, (m.2 84)), (85, (m.2 85)), (86, (m.2 86)), (87, (m.2 87)), (88, (m.2 88)), (89, (m.2 89)), (90, (m.2 90)), (91, (m.2 91)), (92, (m.2 92)), (101, (m.2 101)), (102, (m.2 102)), (103, (m.2 103)), (104, (m.2 104)), (105, (m.2 105)), (106, (m.2 106)), (107, (m.2 107)), (108, (m.2 108)), (109, upI (m.2 109) (m.1 25) (m.1 99))]) c N D (by omega) (Ty_mO hT rfl rfl ⟨q102, q103, q104, ⟨(by omega : (0 : Int) ≤ 0), (by omega : (0 : Int) ≤ 8)⟩, q106, q107, g38, g58, f28, f64, f69, f70, f71, f72, f73, f74, f75, f99, f100, trivial⟩ ⟨G40, G42, G44, G46, q108, q109, q110, q111, G61, (hT.2.1 65), (hT.2.1 66), (hT.2.1 67), (hT.2.1 68), (hT.2.1 76), (hT.2.1 77), (hT.2.1 78), (hT.2.1 79), (hT.2.1 80), (hT.2.1 81), (hT.2.1 82), (hT.2.1 83), (hT.2.1 84), (hT.2.1 85), (hT.2.1 86), (hT.2.1 87), (hT.2.1 88), (hT.2.1 89), (hT.2.1 90), (hT.2.1 91), (hT.2.1 92), (hT.2.1 101), (hT.2.1 102), (hT.2.1 103), (hT.2.1 104), (hT.2.1 105), (hT.2.1 106), (hT.2.1 107), (hT.2.1 108), G59, trivial⟩) 41 ⟨by decide, by decide⟩ (show 1 ≤ (41 : Int) by omega) (show LxP y90 y91 y92 (m.1 6) (0 : Int) by first | exact hLx | (intro h9; exfalso; omega) | (intro h9; have h8 := hLx (by omega); omega))) (fun rr122 k123 => ?_)
                    obtain ⟨y124, y126, y128, y130, y132, y134, g125, g127, g129, g131, g133, g135, h136, h137, h138, h139, rfl⟩ := k123
                    refine ⟨_, _, rfl, ?_⟩
                    refine T_nf (st' := []) (l' := [(7, y124), (8, y126), (9, y128), (10, y130), (11, y132), (12, y134), (13, y37), (25, (m.1 25) + 1), (28, (m.1 28)), (64, (m.1 64)), (69, (m.1 69)), (70, (m.1 70)), (71, (m.1 71)), (72, (m.1 72)), (73, (m.1 73)), (74, (m.1 74)), (75, (m.1 75)), (99, (m.1 99)), (100, (m.1 100))]) (a' := [(14, F39), (15, F41), (16, F43), (17, F45), (46, F96), (47, F97), (48, F98), (49, F99), (50, upI (m.2 50) (m.1 25) 0), (65, (m.2 65)), (66, (m.2 66)), (67, (m.2 67)), (68, (m.2 68)), (76, (m.2 76)), (77, (m.2 77)), (78, (m.2 78)), (79, (m.2 79)), (80, (m.2 80)), (81, (m.2 81)), (82, (m.2 82)), (83, (m.2 83)), (84, (m.2 84)), (85, (m.2 85)), (86, (m.2 86)), (87, (m.2 87)), (88, (m.2 88)), (89, (m.2 89)), (90, (m.2 90)), (91, (m.2 91)), (92, (m.2 92)), (101, (m.2 101)), (102, (m.2 102)), (103, (m.2 103)), (104, (m.2 104)), (105, (m.2 105)), (106, (m.2 106)), (107, (m.2 107)), (108, (m.2 108)), (109, upI (m.2 109) (m.1 25) (m.1 99))]) rfl rfl rfl rfl rfl ?_
                    by_cases hf140 : y130 = 0
                    · skip
                      subst hf140
                      replace h136 : LxP y124 y126 y128 (m.1 6) (0 : Int) := h136
                      have hLx := h136
                      replace h137 : (0 : Int) = 0 ∧ y90 = (41 : Int) := h137 rfl
                      replace h138 : y91 ≤ y126 := h138
                      replace h139 : y91 + y92 ≤ y126 := h139 rfl
                      have u141 : (m.1 8) + 1 ≤ y126 := by omega
                      have hAgC : agr (m.2 65) (m.2 65) (m.1 28) := by first | exact agr_r _ _ | exact hAgC | exact agr_t hAgC hAg (by omega)
                      clear g65 g67 g69 g73 g75 h76 u81 q85a q85b q85 ic86 ic87 q102 q103 q104 q105 q106 q107 ic114 c120 g131 h137 h138 h139
                      refine T_ld 143 (.ref 189) rfl (fun _ => rfl) ?_
                      refine T_ld 145 (.int (i32 123)) rfl (fun _ => rfl) ?_
                      refine T_call 148 232 [.ref 189, .int (i32 123)] [] rfl (fun _ => rfl) rfl (c_need w (mO m [(7, y124), (8, y126), (9, y128), (10, 0), (11, y132), (12, y134), (13, y37), (25, (m.1 25) + 1), (28, (m.1 28)), (64, (m.1 64)), (69, (m.1 69)), (70, (m.1 70)), (71, (m.1 71)), (72, (m.1 72)), (73, (m.1 73)), (74, (m.1 74)), (75, (m.1 75)), (99, (m.1 99)), (100, (m.1 100))] [(14, F39), (15, F41), (16, F43), (17, F45), (46, F96), (47, F97), (48, F98), (49, F99), (50, upI (m.2 50) (m.1 25) 0), (65, (m.2 65)), (66, (m.2 66)), (67, (m.2 67)), (68, (m.2 68)), (76, (m.2 76)), (77, (m.2 77)), (78, (m.2 78)), (79, (m.2 79)), (80, (m.2 80)), (81, (m.2 81)), (82, (m.2 82)), (83, (m.2 83)), (84, (m.2 84)), (85, (m.2 85)), (86, (m.2 86)), (87, (m.2 87)), (88, (m.2 88)), (89, (m.2 89)), (90, (m.2 90)), (91, (m.2 91)), (92, (m.2 92)), (101, (m.2 101)), (102, (m.2 102)), (103, (m.2 103)), (104, (m.2 104)), (105, (m.2 105)), (106, (m.2 106)), (107, (m.2 107)), (108, (m.2 108)), (109, upI (m.2 109) (m.1 25) (m.1 99))]) c N D (by omega) (Ty_mO hT rfl rfl ⟨g125, g127, g129, ⟨(by omega : (0 : Int) ≤ 0), (by omega : (0 : Int) ≤ 8)⟩, g133, g135, g38, g58, f28, f64, f69, f70, f71, f72, f73, f74, f75, f99, f100, trivial⟩ ⟨G40, G42, G44, G46, q108, q109, q110, q111, G61, (hT.2.1 65), (hT.2.1 66), (hT.2.1 67), (hT.2.1 68), (hT.2.1 76), (hT.2.1 77), (hT.2.1 78), (hT.2.1 79), (hT.2.1 80), (hT.2.1 81), (hT.2.1 82), (hT.2.1 83), (hT.2.1 84), (hT.2.1 85), (hT.2.1 86), (hT.2.1 87), (hT.2.1 88), (hT.2.1 89), (hT.2.1 90), (hT.2.1 91), (hT.2.1 92), (hT.2.1 101), (hT.2.1 102), (hT.2.1 103), (hT.2.1 104), (hT.2.1 105), (hT.2.1 106), (hT.2.1 107), (hT.2.1 108), G59, trivial⟩) 123 ⟨by decide, by decide⟩ (show 1 ≤ (123 : Int) by omega) (show LxP y124 y126 y128 (m.1 6) (0 : Int) by first | exact hLx | (intro h9; exfalso; omega) | (intro h9; have h8 := hLx (by omega); omega))) (fun rr142 k143 => ?_)
                      obtain ⟨y144, y146, y148, y150, y152, y154, g145, g147, g149, g151, g153, g155, h156, h157, h158, h159, rfl⟩ := k143
                      refine ⟨_, _, rfl, ?_⟩
                      refine T_nf (st' := []) (l' := [(7, y144), (8, y146), (9, y148), (10, y150), (11, y152), (12, y154), (13, y37), (25, (m.1 25) + 1), (28, (m.1 28)), (64, (m.1 64)), (69, (m.1 69)), (70, (m.1 70)), (71, (m.1 71)), (72, (m.1 72)), (73, (m.1 73)), (74, (m.1 74)), (75, (m.1 75)), (99, (m.1 99)), (100, (m.1 100))]) (a' := [(14, F39), (15, F41), (16, F43), (17, F45), (46, F96), (47, F97), (48, F98), (49, F99), (50, upI (m.2 50) (m.1 25) 0), (65, (m.2 65)), (66, (m.2 66)), (67, (m.2 67)), (68, (m.2 68)), (76, (m.2 76)), (77, (m.2 77)), (78, (m.2 78)), (79, (m.2 79)), (80, (m.2 80)), (81, (m.2 81)), (82, (m.2 82)), (83, (m.2 83)), (84, (m.2 84)), (85, (m.2 85)), (86, (m.2 86)), (87, (m.2 87)), (88, (m.2 88)), (89, (m.2 89)), (90, (m.2 90)), (91, (m.2 91)), (92, (m.2 92)), (101, (m.2 101)), (102, (m.2 102)), (103, (m.2 103)), (104, (m.2 104)), (105, (m.2 105)), (106, (m.2 106)), (107, (m.2 107)), (108, (m.2 108)), (109, upI (m.2 109) (m.1 25) (m.1 99))]) rfl rfl rfl rfl rfl ?_
                      by_cases hf160 : y150 = 0
                      · skip
                        subst hf160
                        replace h156 : LxP y144 y146 y148 (m.1 6) (0 : Int) := h156
                        have hLx := h156
                        replace h157 : (0 : Int) = 0 ∧ y124 = (123 : Int) := h157 rfl
                        replace h158 : y126 ≤ y146 := h158
                        replace h159 : y126 + y128 ≤ y146 := h159 rfl
                        have u161 : (m.1 8) + 1 ≤ y146 := by omega
                        have hAgC : agr (m.2 65) (m.2 65) (m.1 28) := by first | exact agr_r _ _ | exact hAgC | exact agr_t hAgC hAg (by omega)
                        clear g125 g127 g129 g133 g135 h136 u141 g151 h157 h158 h159
                        refine T_ld 149 (.ref 189) rfl (fun _ => rfl) ?_
                        refine T_ld 150 (.int (i32 (m.1 25))) rfl (fun _ => rfl) ?_
                        refine T_pf (l' := [(7, y144), (8, y146), (9, y148), (10, 0), (11, y152), (12, y154), (13, y37), (25, (m.1 25) + 1), (28, (m.1 28)), (64, (m.1 25)), (69, (m.1 69)), (70, (m.1 70)), (71, (m.1 71)), (72, (m.1 72)), (73, (m.1 73)), (74, (m.1 74)), (75, (m.1 75)), (99, (m.1 99)), (100, (m.1 100))]) 153 (m.1 25) rfl rfl rfl rfl rfl rfl ?_
                        have g162 : (-1) ≤ (m.1 25) ∧ (m.1 25) ≤ 15 := ⟨by omega, by omega⟩
                        have L153_209 : ∀ (n : Nat) (y163 : Int) (y164 : Int) (y165 : Int) (y166 : Int) (y167 : Int) (y168 : Int) (y169 : Int) (y170 : Int) (y171 : Int) (y172 : Int) (y173 : Int) (y174 : Int) (y175 : Int) (y176 : Int) (y177 : Int) (y178 : Int) (F179 : Int → Int) (F180 : Int → Int) (F181 : Int → Int) (F182 : Int → Int) (F183 : Int → Int) (F184 : Int → Int) (F185 : Int → Int) (F186 : Int → Int) (F187 : Int → Int) (F188 : Int → Int) (F189 : Int → Int) (F190 : Int → Int) (F191 : Int → Int) (F192 : Int → Int) (F193 : Int → Int) (F194 : Int → Int) (F195 : Int → Int) (F196 : Int → Int) (F197 : Int → Int) (F198 : Int → Int) (F199 : Int → Int) (F200 : Int → Int) (F201 : Int → Int) (F202 : Int → Int) (F203 : Int → Int) (F204 : Int → Int) (F205 : Int → Int) (F206 : Int → Int) (F207 : Int → Int) (F208 : Int → Int), (0 ≤ y163 ∧ y163 ≤ 330) → (0 ≤ y164 ∧ y164 ≤ 4000) → (0 ≤ y165 ∧ y165 ≤ 4000) → (0 ≤ y166 ∧ y166 ≤ 8) → ((-1) ≤ y167 ∧ y167 ≤ 4000) → ((-9223372036854775808) ≤ y168 ∧ y168 ≤ 9223372036854775807) → (0 ≤ y169 ∧ y169 ≤ 800) → (0 ≤ y170 ∧ y170 ≤ 1024) → (0 ≤ y171 ∧ y171 ≤ 4000) → (0 ≤ y172 ∧ y172 ≤ 1) → ((-9223372036854775808) ≤ y173 ∧ y173 ≤ 9223372036854775807) → (0 ≤ y174 ∧ y174 ≤ 60) → (0 ≤ y175 ∧ y175 ≤ 24) → (0 ≤ y176 ∧ y176 ≤ 3) → (0 ≤ y177 ∧ y177 ≤ 240) → (0 ≤ y178 ∧ y178 ≤ 64) → (∀ j, 0 ≤ F179 j ∧ F179 j ≤ 13) → (∀ j, 0 ≤ F180 j ∧ F180 j ≤ 408) → (∀ j, 0 ≤ F181 j ∧ F181 j ≤ 64) → (∀ j, 0 ≤ F182 j ∧ F182 j ≤ 191) → (∀ j, (-9223372036854775808) ≤ F183 j ∧ F183 j ≤ 9223372036854775807) → (∀ j, 0 ≤ F184 j ∧ F184 j ≤ 2) → (∀ j, 0 ≤ F185 j ∧ F185 j ≤ 4000) → (∀ j, 0 ≤ F186 j ∧ F186 j ≤ 330) → (∀ j, 0 ≤ F187 j ∧ F187 j ≤ 2) → (∀ j, (-1) ≤ F188 j ∧ F188 j ≤ 330) → (∀ j, 0 ≤ F189 j ∧ F189 j ≤ 64) → (∀ j, 0 ≤ F190 j ∧ F190 j ≤ 4000) → (∀ j, 0 ≤ F191 j ∧ F191 j ≤ 1) → (∀ j, (-9223372036854775808) ≤ F192 j ∧ F192 j ≤ 9223372036854775807) → (∀ j, 0 ≤ F193 j ∧ F193 j ≤ 64) → (∀ j, 0 ≤ F194 j ∧ F194 j ≤ 4000) → (∀ j, 0 ≤ F195 j ∧ F195 j ≤ 64) → (∀ j, 0 ≤ F196 j ∧ F196 j ≤ 4000) → (∀ j, 0 ≤ F197 j ∧ F197 j ≤ 1) → (∀ j, 0 ≤ F198 j ∧ F198 j ≤ 1) → (∀ j, (-9223372036854775808) ≤ F199 j ∧ F199 j ≤ 9223372036854775807) → (∀ j, (-9223372036854775808) ≤ F200 j ∧ F200 j ≤ 9223372036854775807) → (∀ j, 0 ≤ F201 j ∧ F201 j ≤ 330) → (∀ j, 0 ≤ F202 j ∧ F202 j ≤ 207) → (∀ j, 0 ≤ F203 j ∧ F203 j ≤ 7) → (∀ j, 0 ≤ F204 j ∧ F204 j ≤ 11) → (∀ j, 0 ≤ F205 j ∧ F205 j ≤ 800) → (∀ j, 0 ≤ F206 j ∧ F206 j ≤ 800) → (∀ j, 0 ≤ F207 j ∧ F207 j ≤ 800) → (∀ j, 0 ≤ F208 j ∧ F208 j ≤ 800) → (LxP y163 y164 y165 (m.1 6) y166) → (F179 (m.1 25) ≤ 13) → (y166 = 0 → ((m.1 8) + 1 ≤ y164) ∧ (CN F180 F182 y169) ∧ ((m.1 28) ≤ y169) ∧ (agr (m.2 65) F180 (m.1 28)) ∧ (TdP F180 y169 (m.1 22) y177 F201 F203 F205 F206 F207 F208) ∧ (y177 = (m.1 99) + F179 (m.1 25)) ∧ (F179 (m.1 25) ≤ 12) ∧ (agr (m.2 50) F179 (m.1 25))) → 1000000 * (8 - y166) + (4000 - y164) < (n : Int) → TT w D pm_267 (153, [(0, .ref 189), (1, .int (i32 (m.1 25))), (2, .int (i32 v89))], [], (mhp (mO m [(7, y163), (8, y164), (9, y165), (10, y166), (11, y167), (12, y168), (13, y37), (25, (m.1 25) + 1), (28, y169), (64, (m.1 25)), (69, y170), (70, y171), (71, y172), (72, y173), (73, y174), (74, y175), (75, y176), (99, y177), (100, y178)] [(14, F39), (15, F41), (16, F43), (17, F45), (46, F96), (47, F97), (48, F98), (49, F99), (50, F179), (65, F180), (66, F181), (67, F182), (68, F183), (76, F184), (77, F185), (78, F186), (79, F187), (80, F188), (81, F189), (82, F190), (83, F191), (84, F192), (85, F193), (86, F194), (87, F195), (88, F196), (89, F197), (90, F198), (91, F199), (92, F200), (101, F201), (102, F202), (103, F203), (104, F204), (105, F205), (106, F206), (107, F207), (108, F208), (109, upI (m.2 109) (m.1 25) (m.1 99))]) c, N), 0, 0) (Q_takeAction m c N) := by
                          intro n
                          induction n with
                          | zero =>
                            intro y163 y164 y165 y166 y167 y168 y169 y170 y171 y172 y173 y174 y175 y176 y177 y178 F179 F180 F181 F182 F183 F184 F185 F186 F187 F188 F189 F190 F191 F192 F193 F194 F195 F196 F197 F198 F199 F200 F201 F202 F203 F204 F205 F206 F207 F208 q210 q211 q212 q213 q214 q215 q216 q217 q218 q219 q220 q221 q222 q223 q224 q225 q226 q227 q228 q229 q230 q231 q232 q233 q234 q235 q236 q237 q238 q239 q240 q241 q242 q243 q244 q245 q246 q247 q248 q249 q250 q251 q252 q253 q254 q255 ic256 ic257 c258 hmu
                            have hLx := ic256
                            exfalso
                            omega
                          | succ n ih =>
                            intro y163 y164 y165 y166 y167 y168 y169 y170 y171 y172 y173 y174 y175 y176 y177 y178 F179 F180 F181 F182 F183 F184 F185 F186 F187 F188 F189 F190 F191 F192 F193 F194 F195 F196 F197 F198 F199 F200 F201 F202 F203 F204 F205 F206 F207 F208 q210 q211 q212 q213 q214 q215 q216 q217 q218 q219 q220 q221 q222 q223 q224 q225 q226 q227 q228 q229 q230 q231 q232 q233 q234 q235 q236 q237 q238 q239 q240 q241 q242 q243 q244 q245 q246 q247 q248 q249 q250 q251 q252 q253 q254 q255 ic256 ic257 c258 hmu
                            have hLx := ic256
                            have ih259 := ih
                            by_cases hf260 : y166 = 0
                            · skip
                              subst hf260
                              obtain ⟨c261, c262, c263, c264, c265, c266, c267, c268⟩ := c258 rfl
                              have hCN := c262
                              have hAgC := c264
                              have pTd := c265
                              have hS1 := c268
                              refine T_gf 157 (.int (i32 0)) rfl rfl rfl rfl rfl rfl ?_
                              refine T_if 211 160 rfl rfl rfl ⟨by decide, by decide⟩ (fun h269 => absurd (show (0 : Int) ≠ 0 from h269) (by decide)) (fun _ => ?_)
                              refine T_ld 161 (.ref 189) rfl (fun _ => rfl) ?_
                              refine T_call 164 269 [.ref 189] [] rfl (fun _ => rfl) rfl (c_isStatement w (mO m [(7, y163), (8, y164), (9, y165), (10, 0), (11, y167), (12, y168), (13, y37), (25, (m.1 25) + 1), (28, y169), (64, (m.1 25)), (69, y170), (70, y171), (71, y172), (72, y173), (73, y174), (74, y175), (75, y176), (99, y177), (100, y178)] [(14, F39), (15, F41), (16, F43), (17, F45), (46, F96), (47, F97), (48, F98), (49, F99), (50, F179), (65, F180), (66, F181), (67, F182), (68, F183), (76, F184), (77, F185), (78, F186), (79, F187), (80, F188), (81, F189), (82, F190), (83, F191), (84, F192), (85, F193), (86, F194), (87, F195), (88, F196), (89, F197), (90, F198), (91, F199), (92, F200), (101, F201), (102, F202), (103, F203), (104, F204), (105, F205), (106, F206), (107, F207), (108, F208), (109, upI (m.2 109) (m.1 25) (m.1 99))]) c N D (by omega) (Ty_mO hT rfl rfl ⟨q210, q211, q212, ⟨(by omega : (0 : Int) ≤ 0), (by omega : (0 : Int) ≤ 8)⟩, q214, q215, g38, g58, q216, g162, q217, q218, q219, q220, q221, q222, q223, q224, q225, trivial⟩ ⟨G40, G42, G44, G46, q108, q109, q110, q111, q226, q227, q228, q229, q230, q231, q232, q233, q234, q235, q236, q237, q238, q239, q240, q241, q242, q243, q244, q245, q246, q247, q248, q249, q250, q251, q252, q253, q254, q255, G59, trivial⟩) ) (fun rr270 k271 => ?_)
                              obtain ⟨x272, g273, h274, rfl⟩ := k271
                              refine ⟨_, _, rfl, ?_⟩
                              refine T_nf (st' := [.int (i32 x272)]) (l' := [(7, y163), (8, y164), (9, y165), (10, 0), (11, y167), (12, y168), (13, y37), (25, (m.1 25) + 1), (28, y169), (64, (m.1 25)), (69, y170), (70, y171), (71, y172), (72, y173), (73, y174), (74, y175), (75, y176), (99, y177), (100, y178)]) (a' := [(14, F39), (15, F41), (16, F43), (17, F45), (46, F96), (47, F97), (48, F98), (49, F99), (50, F179), (65, F180), (66, F181), (67, F182), (68, F183), (76, F184), (77, F185), (78, F186), (79, F187), (80, F188), (81, F189), (82, F190), (83, F191), (84, F192), (85, F193), (86, F194), (87, F195), (88, F196), (89, F197), (90, F198), (91, F199), (92, F200), (101, F201), (102, F202), (103, F203), (104, F204), (105, F205), (106, F206), (107, F207), (108, F208), (109, upI (m.2 109) (m.1 25) (m.1 99))]) rfl rfl rfl rfl rfl ?_
                              obtain ⟨g273a, g273b⟩ := g273
                              replace h274 : x272 = 1 → y163 ≠ 0 := h274
                              have u275 : (m.1 8) + 1 ≤ y164 := by omega
                              have hAgC : agr (m.2 65) F180 (m.1 28) := by first | exact agr_r _ _ | exact hAgC | exact agr_t hAgC hAg (by omega)
                              clear g145 g147 g149 g153 g155 h156 u161 q213 ic256
                              refine T_if 211 167 rfl rfl rfl (r32 (by omega) (by omega)) (fun (h276 : x272 = 0) => ?_) (fun (h276 : ¬ (x272 = 0)) => ?_)
                              · skip
                                refine T_ld 212 (.ref 189) rfl (fun _ => rfl) ?_
                                refine T_ld 213 (.int (i32 (-1))) rfl (fun _ => rfl) ?_
                                refine T_pf (l' := [(7, y163), (8, y164), (9, y165), (10, 0), (11, y167), (12, y168), (13, y37), (25, (m.1 25) + 1), (28, y169), (64, (-1)), (69, y170), (70, y171), (71, y172), (72, y173), (73, y174), (74, y175), (75, y176), (99, y177), (100, y178)]) 216 (-1) rfl rfl rfl rfl rfl rfl ?_
                                have hAc2 : AcP ((m.1 25) + 1) y177 (upI (m.2 109) (m.1 25) (m.1 99)) F179 := AcP_add (AcP_k pAc (by omega)) (agr_u (Int.le_refl _)) hS1 (by rw [upI_s]; omega)
                                refine T_ld 217 (.ref 189) rfl (fun _ => rfl) ?_
                                refine T_ld 219 (.int (i32 125)) rfl (fun _ => rfl) ?_
                                refine T_call 222 232 [.ref 189, .int (i32 125)] [] rfl (fun _ => rfl) rfl (c_need w (mO m [(7, y163), (8, y164), (9, y165), (10, 0), (11, y167), (12, y168), (13, y37), (25, (m.1 25) + 1), (28, y169), (64, (-1)), (69, y170), (70, y171), (71, y172), (72, y173), (73, y174), (74, y175), (75, y176), (99, y177), (100, y178)] [(14, F39), (15, F41), (16, F43), (17, F45), (46, F96), (47, F97), (48, F98), (49, F99), (50, F179), (65, F180), (66, F181), (67, F182), (68, F183), (76, F184), (77, F185), (78, F186), (79, F187), (80, F188), (81, F189), (82, F190), (83, F191), (84, F192), (85, F193), (86, F194), (87, F195), (88, F196), (89, F197), (90, F198), (91, F199), (92, F200), (101, F201), (102, F202), (103, F203), (104, F204), (105, F205), (106, F206), (107, F207), (108, F208), (109, upI (m.2 109) (m.1 25) (m.1 99))]) c N D (by omega) (Ty_mO hT rfl rfl ⟨q210, q211, q212, ⟨(by omega : (0 : Int) ≤ 0), (by omega : (0 : Int) ≤ 8)⟩, q214, q215, g38, g58, q216, ⟨(by omega : ((-1) : Int) ≤ (-1)), (by omega : ((-1) : Int) ≤ 15)⟩, q217, q218, q219, q220, q221, q222, q223, q224, q225, trivial⟩ ⟨G40, G42, G44, G46, q108, q109, q110, q111, q226, q227, q228, q229, q230, q231, q232, q233, q234, q235, q236, q237, q238, q239, q240, q241, q242, q243, q244, q245, q246, q247, q248, q249, q250, q251, q252, q253, q254, q255, G59, trivial⟩) 125 ⟨by decide, by decide⟩ (show 1 ≤ (125 : Int) by omega) (show LxP y163 y164 y165 (m.1 6) (0 : Int) by first | exact hLx | (intro h9; exfalso; omega) | (intro h9; have h8 := hLx (by omega); omega))) (fun rr277 k278 => ?_)
                                obtain ⟨y279, y281, y283, y285, y287, y289, g280, g282, g284, g286, g288, g290, h291, h292, h293, h294, rfl⟩ := k278
                                refine ⟨_, _, rfl, ?_⟩
                                refine T_nf (st' := []) (l' := [(7, y279), (8, y281), (9, y283), (10, y285), (11, y287), (12, y289), (13, y37), (25, (m.1 25) + 1), (28, y169), (64, (-1)), (69, y170), (70, y171), (71, y172), (72, y173), (73, y174), (74, y175), (75, y176), (99, y177), (100, y178)]) (a' := [(14, F39), (15, F41), (16, F43), (17, F45), (46, F96), (47, F97), (48, F98), (49, F99), (50, F179), (65, F180), (66, F181), (67, F182), (68, F183), (76, F184), (77, F185), (78, F186), (79, F187), (80, F188), (81, F189), (82, F190), (83, F191), (84, F192), (85, F193), (86, F194), (87, F195), (88, F196), (89, F197), (90, F198), (91, F199), (92, F200), (101, F201), (102, F202), (103, F203), (104, F204), (105, F205), (106, F206), (107, F207), (108, F208), (109, upI (m.2 109) (m.1 25) (m.1 99))]) rfl rfl rfl rfl rfl ?_
                                by_cases hf295 : y285 = 0
                                · skip
                                  subst hf295
                                  replace h291 : LxP y279 y281 y283 (m.1 6) (0 : Int) := h291
                                  have hLx := h291
                                  replace h292 : (0 : Int) = 0 ∧ y163 = (125 : Int) := h292 rfl
                                  replace h293 : y164 ≤ y281 := h293
                                  replace h294 : y164 + y165 ≤ y281 := h294 rfl
                                  have u296 : (m.1 8) + 1 ≤ y281 := by omega
                                  have hAgC : agr (m.2 65) F180 (m.1 28) := by first | exact agr_r _ _ | exact hAgC | exact agr_t hAgC hAg (by omega)
                                  clear q210 q211 q212 q214 q215 c261 g273a g273b h274 u275 h276 g286 h292 h293 h294
                                  refine T_ret rfl (fun _ => rfl) ?_
                                  exact ⟨y279, y281, y283, 0, y287, y289, y37, (m.1 25) + 1, y169, (-1), y170, y171, y172, y173, y174, y175, y176, y177, y178, F39, F41, F43, F45, F96, F97, F98, F99, F179, F180, F181, F182, F183, F184, F185, F186, F187, F188, F189, F190, F191, F192, F193, F194, F195, F196, F197, F198, F199, F200, F201, F202, F203, F204, F205, F206, F207, F208, upI (m.2 109) (m.1 25) (m.1 99), g280, g282, g284, ⟨by omega, by omega⟩, g288, g290, g38, g58, q216, ⟨by omega, by omega⟩, q217, q218, q219, q220, q221, q222, q223, q224, q225, G40, G42, G44, G46, q108, q109, q110, q111, q226, q227, q228, q229, q230, q231, q232, q233, q234, q235, q236, q237, q238, q239, q240, q241, q242, q243, q244, q245, q246, q247, q248, q249, q250, q251, q252, q253, q254, q255, G59, (by omega), (by first | (first | exact hLx | (intro h9; exfalso; omega)) | (exfalso; omega)), (by first | (exact hNM) | (exfalso; omega)), (by first | (exact hPA) | (exfalso; omega)), (fun _ => ⟨(by omega), (by first | (exact pPN) | (exfalso; omega)), (by first | (exact hCN) | (exfalso; omega)), (by omega), (by first | (exact hAgC) | (exfalso; omega)), (by first | (exact pTd) | (exfalso; omega)), (by first | (exact hAc2) | (exfalso; omega)), (by omega), (by omega)⟩), rfl⟩
                                · skip
                                  replace h291 : LxP y279 y281 y283 (m.1 6) y285 := h291
                                  have hLx := h291
                                  clear h292
                                  replace h293 : y164 ≤ y281 := h293
                                  clear h294
                                  have hf297 : 1 ≤ y285 := by omega
                                  clear q210 q211 q212 q214 q215 c261 g273a g273b h274 u275 h276 h293
                                  refine T_ret rfl (fun _ => rfl) ?_
                                  exact ⟨y279, y281, y283, y285, y287, y289, y37, (m.1 25) + 1, y169, (-1), y170, y171, y172, y173, y174, y175, y176, y177, y178, F39, F41, F43, F45, F96, F97, F98, F99, F179, F180, F181, F182, F183, F184, F185, F186, F187, F188, F189, F190, F191, F192, F193, F194, F195, F196, F197, F198, F199, F200, F201, F202, F203, F204, F205, F206, F207, F208, upI (m.2 109) (m.1 25) (m.1 99), g280, g282, g284, g286, g288, g290, g38, g58, q216, ⟨by omega, by omega⟩, q217, q218, q219, q220, q221, q222, q223, q224, q225, G40, G42, G44, G46, q108, q109, q110, q111, q226, q227, q228, q229, q230, q231, q232, q233, q234, q235, q236, q237, q238, q239, q240, q241, q242, q243, q244, q245, q246, q247, q248, q249, q250, q251, q252, q253, q254, q255, G59, (by omega), (by first | (first | exact hLx | (intro h9; exfalso; omega)) | (exfalso; omega)), (by first | (exact hNM) | (exfalso; omega)), (by first | (exact hPA) | (exfalso; omega)), (fun h => absurd h (by omega)), rfl⟩
                              · skip
                                refine T_gf 171 (.ref 220) rfl rfl rfl rfl rfl rfl ?_
                                refine T_ld 172 (.int (i32 (m.1 25))) rfl (fun _ => rfl) ?_
                                refine T_iald 173 50 F179 rfl rfl rfl (by omega) (show (m.1 25) < (16 : Int) by omega) rfl ?_
                                have e298 : 0 ≤ F179 (m.1 25) ∧ F179 (m.1 25) ≤ 13 := q226 (m.1 25)
                                refine T_ld 175 (.int (i32 12)) rfl (fun _ => rfl) ?_
                                refine T_icmp 187 178 rfl rfl rfl (r32 (by omega) (by omega)) ⟨by decide, by decide⟩ (fun (h299 : F179 (m.1 25) ≠ 12) => ?_) (fun (h299 : ¬ (F179 (m.1 25) ≠ 12)) => ?_)
                                · skip
                                  refine T_gf 191 (.int (i32 0)) rfl rfl rfl rfl rfl rfl ?_
                                  refine T_if 198 194 rfl rfl rfl ⟨by decide, by decide⟩ (fun h300 => absurd (show (0 : Int) ≠ 0 from h300) (by decide)) (fun _ => ?_)
                                  refine T_ld 195 (.ref 189) rfl (fun _ => rfl) ?_
                                  refine T_call 198 270 [.ref 189] [] rfl (fun _ => rfl) rfl (c_takeStatement w (mO m [(7, y163), (8, y164), (9, y165), (10, 0), (11, y167), (12, y168), (13, y37), (25, (m.1 25) + 1), (28, y169), (64, (m.1 25)), (69, y170), (70, y171), (71, y172), (72, y173), (73, y174), (74, y175), (75, y176), (99, y177), (100, y178)] [(14, F39), (15, F41), (16, F43), (17, F45), (46, F96), (47, F97), (48, F98), (49, F99), (50, F179), (65, F180), (66, F181), (67, F182), (68, F183), (76, F184), (77, F185), (78, F186), (79, F187), (80, F188), (81, F189), (82, F190), (83, F191), (84, F192), (85, F193), (86, F194), (87, F195), (88, F196), (89, F197), (90, F198), (91, F199), (92, F200), (101, F201), (102, F202), (103, F203), (104, F204), (105, F205), (106, F206), (107, F207), (108, F208), (109, upI (m.2 109) (m.1 25) (m.1 99))]) c N D (by omega) (Ty_mO hT rfl rfl ⟨q210, q211, q212, ⟨(by omega : (0 : Int) ≤ 0), (by omega : (0 : Int) ≤ 8)⟩, q214, q215, g38, g58, q216, g162, q217, q218, q219, q220, q221, q222, q223, q224, q225, trivial⟩ ⟨G40, G42, G44, G46, q108, q109, q110, q111, q226, q227, q228, q229, q230, q231, q232, q233, q234, q235, q236, q237, q238, q239, q240, q241, q242, q243, q244, q245, q246, q247, q248, q249, q250, q251, q252, q253, q254, q255, G59, trivial⟩) (show LxP y163 y164 y165 (m.1 6) (0 : Int) by first | exact hLx | (intro h9; exfalso; omega)) (show ∀ k, F39 k + F41 k ≤ 4000 by assumption) (show ∀ k, (m.2 31) k + (m.2 32) k ≤ 4000 by assumption) (show ∀ k, F97 k + F98 k ≤ 4000 by assumption) (show y177 ≤ 239 by omega) (show 0 = 0 by omega) ⟨(show PN y37 (m.1 19) (m.1 20) (m.1 21) (m.1 22) (m.1 23) ((m.1 25) + 1) (m.1 26) F43 F45 by assumption), (show CN F180 F182 y169 by assumption), (show y163 ≠ 0 by omega), (show TdP F180 y169 (m.1 22) y177 F201 F203 F205 F206 F207 F208 by assumption)⟩) (fun rr301 k302 => ?_)
                                  obtain ⟨y303, y305, y307, y309, y311, y313, y315, y317, y319, y321, y323, y325, y327, y329, y331, y333, F335, F337, F339, F341, F343, F345, F347, F349, F351, F353, F355, F357, F359, F361, F363, F365, F367, F369, F371, F373, F375, F377, F379, F381, F383, F385, F387, F389, F391, g304, g306, g308, g310, g312, g314, g316, g318, g320, g322, g324, g326, g328, g330, g332, g334, G336, G338, G340, G342, G344, G346, G348, G350, G352, G354, G356, G358, G360, G362, G364, G366, G368, G370, G372, G374, G376, G378, G380, G382, G384, G386, G388, G390, G392, h393, h394, h395, c396, rfl⟩ := k302
                                  refine ⟨_, _, rfl, ?_⟩
                                  refine T_nf (st' := []) (l' := [(7, y303), (8, y305), (9, y307), (10, y309), (11, y311), (12, y313), (13, y37), (25, (m.1 25) + 1), (28, y315), (64, (m.1 25)), (69, y317), (70, y319), (71, y321), (72, y323), (73, y325), (74, y327), (75, y329), (99, y331), (100, y333)]) (a' := [(14, F39), (15, F41), (16, F43), (17, F45), (46, F96), (47, F97), (48, F98), (49, F99), (50, F179), (65, F335), (66, F337), (67, F339), (68, F341), (76, F343), (77, F345), (78, F347), (79, F349), (80, F351), (81, F353), (82, F355), (83, F357), (84, F359), (85, F361), (86, F363), (87, F365), (88, F367), (89, F369), (90, F371), (91, F373), (92, F375), (101, F377), (102, F379), (103, F381), (104, F383), (105, F385), (106, F387), (107, F389), (108, F391), (109, upI (m.2 109) (m.1 25) (m.1 99))]) rfl rfl rfl rfl rfl ?_
                                  by_cases hf397 : y309 = 0
                                  · skip
                                    subst hf397
                                    replace h393 : (0 : Int) = 0 := h393 rfl
                                    replace h394 : LxP y303 y305 y307 (m.1 6) (0 : Int) := h394
                                    have hLx := h394
                                    replace h395 : y331 = y177 + 1 := h395
                                    obtain ⟨c398, c399, c400, c401, c402⟩ := c396 rfl
                                    replace c398 : y164 + 1 ≤ y305 := c398
                                    replace c399 : y169 ≤ y315 := c399
                                    replace c400 : CN F335 F339 y315 := c400
                                    have hCN := c400
                                    replace c401 : agr F180 F335 y169 := c401
                                    have hAg := c401
                                    replace c402 : TdP F335 y315 (m.1 22) y331 F377 F381 F385 F387 F389 F391 := c402
                                    have pTd := c402
                                    clear c396
                                    have u403 : (m.1 8) + 1 ≤ y305 := by omega
                                    have hAgC : agr (m.2 65) F335 (m.1 28) := by first | exact agr_r _ _ | exact hAgC | exact agr_t hAgC hAg (by omega)
                                    clear q210 q211 q212 q214 q215 q216 q217 q218 q219 q220 q221 q222 q223 q224 q225 c261 c262 c263 c264 c265 c266 g273a g273b h274 u275 h276 g310 h395 c398 c399 c401
                                    refine T_gf 202 (.ref 220) rfl rfl rfl rfl rfl rfl ?_
                                    refine T_ld 203 (.int (i32 (m.1 25))) rfl (fun _ => rfl) ?_
                                    refine T_dup2 204 rfl (fun _ => rfl) ?_
                                    refine T_iald 205 50 F179 rfl rfl rfl (by omega) (show (m.1 25) < (16 : Int) by omega) rfl ?_
                                    have e404 : 0 ≤ F179 (m.1 25) ∧ F179 (m.1 25) ≤ 13 := q226 (m.1 25)
                                    refine T_ld 206 (.int (i32 1)) rfl (fun _ => rfl) ?_
                                    refine T_iadd 207 rfl rfl ?_
                                    have G405 : ∀ j, 0 ≤ (upI F179 (m.1 25) ((F179 (m.1 25)) + 1)) j ∧ (upI F179 (m.1 25) ((F179 (m.1 25)) + 1)) j ≤ 13 := upI_rg q226 ⟨by omega, by omega⟩
                                    refine T_iast (a' := [(14, F39), (15, F41), (16, F43), (17, F45), (46, F96), (47, F97), (48, F98), (49, F99), (50, upI F179 (m.1 25) ((F179 (m.1 25)) + 1)), (65, F335), (66, F337), (67, F339), (68, F341), (76, F343), (77, F345), (78, F347), (79, F349), (80, F351), (81, F353), (82, F355), (83, F357), (84, F359), (85, F361), (86, F363), (87, F365), (88, F367), (89, F369), (90, F371), (91, F373), (92, F375), (101, F377), (102, F379), (103, F381), (104, F383), (105, F385), (106, F387), (107, F389), (108, F391), (109, upI (m.2 109) (m.1 25) (m.1 99))]) 208 50 F179 rfl rfl rfl (by omega) (show (m.1 25) < (16 : Int) by omega) rfl rfl ?_
                                    refine T_goto 153 rfl (fun _ => rfl) ?_
                                    exact ih259 y303 y305 y307 0 y311 y313 y315 y317 y319 y321 y323 y325 y327 y329 y331 y333 (upI F179 (m.1 25) ((F179 (m.1 25)) + 1)) F335 F337 F339 F341 F343 F345 F347 F349 F351 F353 F355 F357 F359 F361 F363 F365 F367 F369 F371 F373 F375 F377 F379 F381 F383 F385 F387 F389 F391 g304 g306 g308 ⟨by omega, by omega⟩ g312 g314 g316 g318 g320 g322 g324 g326 g328 g330 g332 g334 G405 G336 G338 G340 G342 G344 G346 G348 G350 G352 G354 G356 G358 G360 G362 G364 G366 G368 G370 G372 G374 G376 G378 G380 G382 G384 G386 G388 G390 G392 (by exact hLx) (by omega) (fun _ => ⟨(by omega), (by exact hCN), (by omega), (by exact hAgC), (by exact pTd), (by omega), (by omega), (by first | exact agr_u (Int.le_refl _) | exact agr_t hS1 (agr_u (Int.le_refl _)) (Int.le_refl _))⟩) (by omega)
                                  · skip
                                    clear c396
                                    clear h393
                                    replace h394 : LxP y303 y305 y307 (m.1 6) y309 := h394
                                    have hLx := h394
                                    replace h395 : y331 = y177 + 1 := h395
                                    have hf406 : 1 ≤ y309 := by omega
                                    clear q210 q211 q212 q214 q215 q216 q217 q218 q219 q220 q221 q222 q223 q224 q225 c261 c262 c263 c264 c265 c266 g273a g273b h274 u275 h276 h395
                                    refine T_gf 202 (.ref 220) rfl rfl rfl rfl rfl rfl ?_
                                    refine T_ld 203 (.int (i32 (m.1 25))) rfl (fun _ => rfl) ?_
                                    refine T_dup2 204 rfl (fun _ => rfl) ?_
                                    refine T_iald 205 50 F179 rfl rfl rfl (by omega) (show (m.1 25) < (16 : Int) by omega) rfl ?_
                                    have e407 : 0 ≤ F179 (m.1 25) ∧ F179 (m.1 25) ≤ 13 := q226 (m.1 25)
                                    refine T_ld 206 (.int (i32 1)) rfl (fun _ => rfl) ?_
                                    refine T_iadd 207 rfl rfl ?_
                                    have G408 : ∀ j, 0 ≤ (upI F179 (m.1 25) ((F179 (m.1 25)) + 1)) j ∧ (upI F179 (m.1 25) ((F179 (m.1 25)) + 1)) j ≤ 13 := upI_rg q226 ⟨by omega, by omega⟩
                                    refine T_iast (a' := [(14, F39), (15, F41), (16, F43), (17, F45), (46, F96), (47, F97), (48, F98), (49, F99), (50, upI F179 (m.1 25) ((F179 (m.1 25)) + 1)), (65, F335), (66, F337), (67, F339), (68, F341), (76, F343), (77, F345), (78, F347), (79, F349), (80, F351), (81, F353), (82, F355), (83, F357), (84, F359), (85, F361), (86, F363), (87, F365), (88, F367), (89, F369), (90, F371), (91, F373), (92, F375), (101, F377), (102, F379), (103, F381), (104, F383), (105, F385), (106, F387), (107, F389), (108, F391), (109, upI (m.2 109) (m.1 25) (m.1 99))]) 208 50 F179 rfl rfl rfl (by omega) (show (m.1 25) < (16 : Int) by omega) rfl rfl ?_
                                    refine T_goto 153 rfl (fun _ => rfl) ?_
                                    exact ih259 y303 y305 y307 y309 y311 y313 y315 y317 y319 y321 y323 y325 y327 y329 y331 y333 (upI F179 (m.1 25) ((F179 (m.1 25)) + 1)) F335 F337 F339 F341 F343 F345 F347 F349 F351 F353 F355 F357 F359 F361 F363 F365 F367 F369 F371 F373 F375 F377 F379 F381 F383 F385 F387 F389 F391 g304 g306 g308 g310 g312 g314 g316 g318 g320 g322 g324 g326 g328 g330 g332 g334 G408 G336 G338 G340 G342 G344 G346 G348 G350 G352 G354 G356 G358 G360 G362 G364 G366 G368 G370 G372 G374 G376 G378 G380 G382 G384 G386 G388 G390 G392 (by exact hLx) (by omega) (fun h => absurd h (by omega)) (by omega)
                                · skip
                                  refine T_ld 179 (.ref 189) rfl (fun _ => rfl) ?_
                                  refine T_ld 180 (.int (i32 4)) rfl (fun _ => rfl) ?_
                                  refine T_gf 184 (.int (i32 y164)) rfl rfl rfl rfl rfl rfl ?_
                                  refine T_call 187 222 [.ref 189, .int (i32 4), .int (i32 y164)] [] rfl (fun _ => rfl) rfl (c_wrong w (mO m [(7, y163), (8, y164), (9, y165), (10, 0), (11, y167), (12, y168), (13, y37), (25, (m.1 25) + 1), (28, y169), (64, (m.1 25)), (69, y170), (70, y171), (71, y172), (72, y173), (73, y174), (74, y175), (75, y176), (99, y177), (100, y178)] [(14, F39), (15, F41), (16, F43), (17, F45), (46, F96), (47, F97), (48, F98), (49, F99), (50, F179), (65, F180), (66, F181), (67, F182), (68, F183), (76, F184), (77, F185), (78, F186), (79, F187), (80, F188), (81, F189), (82, F190), (83, F191), (84, F192), (85, F193), (86, F194), (87, F195), (88, F196), (89, F197), (90, F198), (91, F199), (92, F200), (101, F201), (102, F202), (103, F203), (104, F204), (105, F205), (106, F206), (107, F207), (108, F208), (109, upI (m.2 109) (m.1 25) (m.1 99))]) c N D (by omega) (Ty_mO hT rfl rfl ⟨q210, q211, q212, ⟨(by omega : (0 : Int) ≤ 0), (by omega : (0 : Int) ≤ 8)⟩, q214, q215, g38, g58, q216, g162, q217, q218, q219, q220, q221, q222, q223, q224, q225, trivial⟩ ⟨G40, G42, G44, G46, q108, q109, q110, q111, q226, q227, q228, q229, q230, q231, q232, q233, q234, q235, q236, q237, q238, q239, q240, q241, q242, q243, q244, q245, q246, q247, q248, q249, q250, q251, q252, q253, q254, q255, G59, trivial⟩) 4 y164 ⟨by decide, by decide⟩ (r32 (by omega) (by omega)) (show 1 ≤ (4 : Int) ∧ (4 : Int) ≤ 8 by omega) (show 0 ≤ y164 ∧ y164 ≤ 4000 by omega)) (fun rr409 k410 => ?_)
                                  obtain ⟨y411, y413, g412, g414, h415, rfl⟩ := k410
                                  refine ⟨_, _, rfl, ?_⟩
                                  refine T_nf (st' := []) (l' := [(7, y163), (8, y164), (9, y165), (10, y411), (11, y413), (12, y168), (13, y37), (25, (m.1 25) + 1), (28, y169), (64, (m.1 25)), (69, y170), (70, y171), (71, y172), (72, y173), (73, y174), (74, y175), (75, y176), (99, y177), (100, y178)]) (a' := [(14, F39), (15, F41), (16, F43), (17, F45), (46, F96), (47, F97), (48, F98), (49, F99), (50, F179), (65, F180), (66, F181), (67, F182), (68, F183), (76, F184), (77, F185), (78, F186), (79, F187), (80, F188), (81, F189), (82, F190), (83, F191), (84, F192), (85, F193), (86, F194), (87, F195), (88, F196), (89, F197), (90, F198), (91, F199), (92, F200), (101, F201), (102, F202), (103, F203), (104, F204), (105, F205), (106, F206), (107, F207), (108, F208), (109, upI (m.2 109) (m.1 25) (m.1 99))]) rfl rfl rfl rfl rfl ?_
                                  replace h415 : (0 < (0 : Int) → y411 = (0 : Int) ∧ y413 = y167) ∧ ((0 : Int) ≤ 0 → y411 = (4 : Int) ∧ y413 = y164) := h415
                                  have hf416 : 1 ≤ y411 := by omega
                                  clear q214 g273a g273b h274 h276 h415
                                  refine T_gf 191 (.int (i32 y411)) rfl rfl rfl rfl rfl rfl ?_
                                  refine T_if 198 194 rfl rfl rfl (r32 (by omega) (by omega)) (fun (h417 : y411 ≠ 0) => ?_) (fun (h417 : ¬ (y411 ≠ 0)) => by exfalso; omega)
                                  refine T_gf 202 (.ref 220) rfl rfl rfl rfl rfl rfl ?_
                                  refine T_ld 203 (.int (i32 (m.1 25))) rfl (fun _ => rfl) ?_
                                  refine T_dup2 204 rfl (fun _ => rfl) ?_
                                  refine T_iald 205 50 F179 rfl rfl rfl (by omega) (show (m.1 25) < (16 : Int) by omega) rfl ?_
                                  have e418 : 0 ≤ F179 (m.1 25) ∧ F179 (m.1 25) ≤ 13 := q226 (m.1 25)
                                  refine T_ld 206 (.int (i32 1)) rfl (fun _ => rfl) ?_
                                  refine T_iadd 207 rfl rfl ?_
                                  have G419 : ∀ j, 0 ≤ (upI F179 (m.1 25) ((F179 (m.1 25)) + 1)) j ∧ (upI F179 (m.1 25) ((F179 (m.1 25)) + 1)) j ≤ 13 := upI_rg q226 ⟨by omega, by omega⟩
                                  refine T_iast (a' := [(14, F39), (15, F41), (16, F43), (17, F45), (46, F96), (47, F97), (48, F98), (49, F99), (50, upI F179 (m.1 25) ((F179 (m.1 25)) + 1)), (65, F180), (66, F181), (67, F182), (68, F183), (76, F184), (77, F185), (78, F186), (79, F187), (80, F188), (81, F189), (82, F190), (83, F191), (84, F192), (85, F193), (86, F194), (87, F195), (88, F196), (89, F197), (90, F198), (91, F199), (92, F200), (101, F201), (102, F202), (103, F203), (104, F204), (105, F205), (106, F206), (107, F207), (108, F208), (109, upI (m.2 109) (m.1 25) (m.1 99))]) 208 50 F179 rfl rfl rfl (by omega) (show (m.1 25) < (16 : Int) by omega) rfl rfl ?_
                                  refine T_goto 153 rfl (fun _ => rfl) ?_
                                  exact ih259 y163 y164 y165 y411 y413 y168 y169 y170 y171 y172 y173 y174 y175 y176 y177 y178 (upI F179 (m.1 25) ((F179 (m.1 25)) + 1)) F180 F181 F182 F183 F184 F185 F186 F187 F188 F189 F190 F191 F192 F193 F194 F195 F196 F197 F198 F199 F200 F201 F202 F203 F204 F205 F206 F207 F208 q210 q211 q212 g412 g414 q215 q216 q217 q218 q219 q220 q221 q222 q223 q224 q225 G419 q227 q228 q229 q230 q231 q232 q233 q234 q235 q236 q237 q238 q239 q240 q241 q242 q243 q244 q245 q246 q247 q248 q249 q250 q251 q252 q253 q254 q255 (by exact hLx) (by omega) (fun h => absurd h (by omega)) (by omega)
                            · skip
                              clear c258
                              have hf420 : 1 ≤ y166 := by omega
                              refine T_gf 157 (.int (i32 y166)) rfl rfl rfl rfl rfl rfl ?_
                              refine T_if 211 160 rfl rfl rfl (r32 (by omega) (by omega)) (fun (h421 : y166 ≠ 0) => ?_) (fun (h421 : ¬ (y166 ≠ 0)) => by exfalso; omega)
                              refine T_ld 212 (.ref 189) rfl (fun _ => rfl) ?_
                              refine T_ld 213 (.int (i32 (-1))) rfl (fun _ => rfl) ?_
                              refine T_pf (l' := [(7, y163), (8, y164), (9, y165), (10, y166), (11, y167), (12, y168), (13, y37), (25, (m.1 25) + 1), (28, y169), (64, (-1)), (69, y170), (70, y171), (71, y172), (72, y173), (73, y174), (74, y175), (75, y176), (99, y177), (100, y178)]) 216 (-1) rfl rfl rfl rfl rfl rfl ?_
                              refine T_ld 217 (.ref 189) rfl (fun _ => rfl) ?_
                              refine T_ld 219 (.int (i32 125)) rfl (fun _ => rfl) ?_
                              refine T_call 222 232 [.ref 189, .int (i32 125)] [] rfl (fun _ => rfl) rfl (c_need w (mO m [(7, y163), (8, y164), (9, y165), (10, y166), (11, y167), (12, y168), (13, y37), (25, (m.1 25) + 1), (28, y169), (64, (-1)), (69, y170), (70, y171), (71, y172), (72, y173), (73, y174), (74, y175), (75, y176), (99, y177), (100, y178)] [(14, F39), (15, F41), (16, F43), (17, F45), (46, F96), (47, F97), (48, F98), (49, F99), (50, F179), (65, F180), (66, F181), (67, F182), (68, F183), (76, F184), (77, F185), (78, F186), (79, F187), (80, F188), (81, F189), (82, F190), (83, F191), (84, F192), (85, F193), (86, F194), (87, F195), (88, F196), (89, F197), (90, F198), (91, F199), (92, F200), (101, F201), (102, F202), (103, F203), (104, F204), (105, F205), (106, F206), (107, F207), (108, F208), (109, upI (m.2 109) (m.1 25) (m.1 99))]) c N D (by omega) (Ty_mO hT rfl rfl ⟨q210, q211, q212, q213, q214, q215, g38, g58, q216, ⟨(by omega : ((-1) : Int) ≤ (-1)), (by omega : ((-1) : Int) ≤ 15)⟩, q217, q218, q219, q220, q221, q222, q223, q224, q225, trivial⟩ ⟨G40, G42, G44, G46, q108, q109, q110, q111, q226, q227, q228, q229, q230, q231, q232, q233, q234, q235, q236, q237, q238, q239, q240, q241, q242, q243, q244, q245, q246, q247, q248, q249, q250, q251, q252, q253, q254, q255, G59, trivial⟩) 125 ⟨by decide, by decide⟩ (show 1 ≤ (125 : Int) by omega) (show LxP y163 y164 y165 (m.1 6) y166 by first | exact hLx | (intro h9; exfalso; omega) | (intro h9; have h8 := hLx (by omega); omega))) (fun rr422 k423 => ?_)
                              obtain ⟨y424, y426, y428, y430, y432, y434, g425, g427, g429, g431, g433, g435, h436, h437, h438, h439, rfl⟩ := k423
                              refine ⟨_, _, rfl, ?_⟩
                              refine T_nf (st' := []) (l' := [(7, y424), (8, y426), (9, y428), (10, y430), (11, y432), (12, y434), (13, y37), (25, (m.1 25) + 1), (28, y169), (64, (-1)), (69, y170), (70, y171), (71, y172), (72, y173), (73, y174), (74, y175), (75, y176), (99, y177), (100, y178)]) (a' := [(14, F39), (15, F41), (16, F43), (17, F45), (46, F96), (47, F97), (48, F98), (49, F99), (50, F179), (65, F180), (66, F181), (67, F182), (68, F183), (76, F184), (77, F185), (78, F186), (79, F187), (80, F188), (81, F189), (82, F190), (83, F191), (84, F192), (85, F193), (86, F194), (87, F195), (88, F196), (89, F197), (90, F198), (91, F199), (92, F200), (101, F201), (102, F202), (103, F203), (104, F204), (105, F205), (106, F206), (107, F207), (108, F208), (109, upI (m.2 109) (m.1 25) (m.1 99))]) rfl rfl rfl rfl rfl ?_
                              replace h436 : LxP y424 y426 y428 (m.1 6) y430 := h436
                              replace h437 : y430 = 0 → y166 = 0 ∧ y163 = (125 : Int) := h437
                              replace h438 : y164 ≤ y426 := h438
                              replace h439 : y430 = 0 → y164 + y165 ≤ y426 := h439
                              have hf440 : 1 ≤ y430 := by omega
                              clear h437
                              clear h439
                              have hLx := h436
                              clear g145 g147 g149 g153 g155 h156 u161 q210 q211 q212 q213 q214 q215 ic256 hf420 h421 h438
                              refine T_ret rfl (fun _ => rfl) ?_
                              exact ⟨y424, y426, y428, y430, y432, y434, y37, (m.1 25) + 1, y169, (-1), y170, y171, y172, y173, y174, y175, y176, y177, y178, F39, F41, F43, F45, F96, F97, F98, F99, F179, F180, F181, F182, F183, F184, F185, F186, F187, F188, F189, F190, F191, F192, F193, F194, F195, F196, F197, F198, F199, F200, F201, F202, F203, F204, F205, F206, F207, F208, upI (m.2 109) (m.1 25) (m.1 99), g425, g427, g429, g431, g433, g435, g38, g58, q216, ⟨by omega, by omega⟩, q217, q218, q219, q220, q221, q222, q223, q224, q225, G40, G42, G44, G46, q108, q109, q110, q111, q226, q227, q228, q229, q230, q231, q232, q233, q234, q235, q236, q237, q238, q239, q240, q241, q242, q243, q244, q245, q246, q247, q248, q249, q250, q251, q252, q253, q254, q255, G59, (by omega), (by first | (first | exact hLx | (intro h9; exfalso; omega)) | (exfalso; omega)), (by first | (exact hNM) | (exfalso; omega)), (by first | (exact hPA) | (exfalso; omega)), (fun h => absurd h (by omega)), rfl⟩
                        exact L153_209 ((1000000 * (8 - (0 : Int)) + (4000 - y146) : Int) + 1).toNat y144 y146 y148 0 y152 y154 (m.1 28) (m.1 69) (m.1 70) (m.1 71) (m.1 72) (m.1 73) (m.1 74) (m.1 75) (m.1 99) (m.1 100) (upI (m.2 50) (m.1 25) 0) (m.2 65) (m.2 66) (m.2 67) (m.2 68) (m.2 76) (m.2 77) (m.2 78) (m.2 79) (m.2 80) (m.2 81) (m.2 82) (m.2 83) (m.2 84) (m.2 85) (m.2 86) (m.2 87) (m.2 88) (m.2 89) (m.2 90) (m.2 91) (m.2 92) (m.2 101) (m.2 102) (m.2 103) (m.2 104) (m.2 105) (m.2 106) (m.2 107) (m.2 108) g145 g147 g149 ⟨by omega, by omega⟩ g153 g155 f28 f69 f70 f71 f72 f73 f74 f75 f99 f100 G61 (hT.2.1 65) (hT.2.1 66) (hT.2.1 67) (hT.2.1 68) (hT.2.1 76) (hT.2.1 77) (hT.2.1 78) (hT.2.1 79) (hT.2.1 80) (hT.2.1 81) (hT.2.1 82) (hT.2.1 83) (hT.2.1 84) (hT.2.1 85) (hT.2.1 86) (hT.2.1 87) (hT.2.1 88) (hT.2.1 89) (hT.2.1 90) (hT.2.1 91) (hT.2.1 92) (hT.2.1 101) (hT.2.1 102) (hT.2.1 103) (hT.2.1 104) (hT.2.1 105) (hT.2.1 106) (hT.2.1 107) (hT.2.1 108) (by exact hLx) (by omega) (fun _ => ⟨(by omega), (by exact hCN), (by omega), (by exact hAgC), (by exact pTd), (by omega), (by omega), (by first | exact agr_u (Int.le_refl _) | exact agr_t hS1 (agr_u (Int.le_refl _)) (Int.le_refl _))⟩) (by omega)
                      · skip
                        replace h156 : LxP y144 y146 y148 (m.1 6) y150 := h156
                        have hLx := h156
                        clear h157
                        replace h158 : y126 ≤ y146 := h158
                        clear h159
                        have hf441 : 1 ≤ y150 := by omega
                        clear g125 g127 g129 g133 g135 h136 u141 h158
                        refine T_ld 149 (.ref 189) rfl (fun _ => rfl) ?_
                        refine T_ld 150 (.int (i32 (m.1 25))) rfl (fun _ => rfl) ?_
                        refine T_pf (l' := [(7, y144), (8, y146), (9, y148), (10, y150), (11, y152), (12, y154), (13, y37), (25, (m.1 25) + 1), (28, (m.1 28)), (64, (m.1 25)), (69, (m.1 69)), (70, (m.1 70)), (71, (m.1 71)), (72, (m.1 72)), (73, (m.1 73)), (74, (m.1 74)), (75, (m.1 75)), (99, (m.1 99)), (100, (m.1 100))]) 153 (m.1 25) rfl rfl rfl rfl rfl rfl ?_
                        have g442 : (-1) ≤ (m.1 25) ∧ (m.1 25) ≤ 15 := ⟨by omega, by omega⟩
                        refine T_gf 157 (.int (i32 y150)) rfl rfl rfl rfl rfl rfl ?_
                        refine T_if 211 160 rfl rfl rfl (r32 (by omega) (by omega)) (fun (h443 : y150 ≠ 0) => ?_) (fun (h443 : ¬ (y150 ≠ 0)) => by exfalso; omega)
                        refine T_ld 212 (.ref 189) rfl (fun _ => rfl) ?_
                        refine T_ld 213 (.int (i32 (-1))) rfl (fun _ => rfl) ?_
                        refine T_pf (l' := [(7, y144), (8, y146), (9, y148), (10, y150), (11, y152), (12, y154), (13, y37), (25, (m.1 25) + 1), (28, (m.1 28)), (64, (-1)), (69, (m.1 69)), (70, (m.1 70)), (71, (m.1 71)), (72, (m.1 72)), (73, (m.1 73)), (74, (m.1 74)), (75, (m.1 75)), (99, (m.1 99)), (100, (m.1 100))]) 216 (-1) rfl rfl rfl rfl rfl rfl ?_
                        refine T_ld 217 (.ref 189) rfl (fun _ => rfl) ?_
                        refine T_ld 219 (.int (i32 125)) rfl (fun _ => rfl) ?_
                        refine T_call 222 232 [.ref 189, .int (i32 125)] [] rfl (fun _ => rfl) rfl (c_need w (mO m [(7, y144), (8, y146), (9, y148), (10, y150), (11, y152), (12, y154), (13, y37), (25, (m.1 25) + 1), (28, (m.1 28)), (64, (-1)), (69, (m.1 69)), (70, (m.1 70)), (71, (m.1 71)), (72, (m.1 72)), (73, (m.1 73)), (74, (m.1 74)), (75, (m.1 75)), (99, (m.1 99)), (100, (m.1 100))] [(14, F39), (15, F41), (16, F43), (17, F45), (46, F96), (47, F97), (48, F98), (49, F99), (50, upI (m.2 50) (m.1 25) 0), (65, (m.2 65)), (66, (m.2 66)), (67, (m.2 67)), (68, (m.2 68)), (76, (m.2 76)), (77, (m.2 77)), (78, (m.2 78)), (79, (m.2 79)), (80, (m.2 80)), (81, (m.2 81)), (82, (m.2 82)), (83, (m.2 83)), (84, (m.2 84)), (85, (m.2 85)), (86, (m.2 86)), (87, (m.2 87)), (88, (m.2 88)), (89, (m.2 89)), (90, (m.2 90)), (91, (m.2 91)), (92, (m.2 92)), (101, (m.2 101)), (102, (m.2 102)), (103, (m.2 103)), (104, (m.2 104)), (105, (m.2 105)), (106, (m.2 106)), (107, (m.2 107)), (108, (m.2 108)), (109, upI (m.2 109) (m.1 25) (m.1 99))]) c N D (by omega) (Ty_mO hT rfl rfl ⟨g145, g147, g149, g151, g153, g155, g38, g58, f28, ⟨(by omega : ((-1) : Int) ≤ (-1)), (by omega : ((-1) : Int) ≤ 15)⟩, f69, f70, f71, f72, f73, f74, f75, f99, f100, trivial⟩ ⟨G40, G42, G44, G46, q108, q109, q110, q111, G61, (hT.2.1 65), (hT.2.1 66), (hT.2.1 67), (hT.2.1 68), (hT.2.1 76), (hT.2.1 77), (hT.2.1 78), (hT.2.1 79), (hT.2.1 80), (hT.2.1 81), (hT.2.1 82), (hT.2.1 83), (hT.2.1 84), (hT.2.1 85), (hT.2.1 86), (hT.2.1 87), (hT.2.1 88), (hT.2.1 89), (hT.2.1 90), (hT.2.1 91), (hT.2.1 92), (hT.2.1 101), (hT.2.1 102), (hT.2.1 103), (hT.2.1 104), (hT.2.1 105), (hT.2.1 106), (hT.2.1 107), (hT.2.1 108), G59, trivial⟩) 125 ⟨by decide, by decide⟩ (show 1 ≤ (125 : Int) by omega) (show LxP y144 y146 y148 (m.1 6) y150 by first | exact hLx | (intro h9; exfalso; omega) | (intro h9; have h8 := hLx (by omega); omega))) (fun rr444 k445 => ?_)
                        obtain ⟨y446, y448, y450, y452, y454, y456, g447, g449, g451, g453, g455, g457, h458, h459, h460, h461, rfl⟩ := k445
                        refine ⟨_, _, rfl, ?_⟩
                        refine T_nf (st' := []) (l' := [(7, y446), (8, y448), (9, y450), (10, y452), (11, y454), (12, y456), (13, y37), (25, (m.1 25) + 1), (28, (m.1 28)), (64, (-1)), (69, (m.1 69)), (70, (m.1 70)), (71, (m.1 71)), (72, (m.1 72)), (73, (m.1 73)), (74, (m.1 74)), (75, (m.1 75)), (99, (m.1 99)), (100, (m.1 100))]) (a' := [(14, F39), (15, F41), (16, F43), (17, F45), (46, F96), (47, F97), (48, F98), (49, F99), (50, upI (m.2 50) (m.1 25) 0), (65, (m.2 65)), (66, (m.2 66)), (67, (m.2 67)), (68, (m.2 68)), (76, (m.2 76)), (77, (m.2 77)), (78, (m.2 78)), (79, (m.2 79)), (80, (m.2 80)), (81, (m.2 81)), (82, (m.2 82)), (83, (m.2 83)), (84, (m.2 84)), (85, (m.2 85)), (86, (m.2 86)), (87, (m.2 87)), (88, (m.2 88)), (89, (m.2 89)), (90, (m.2 90)), (91, (m.2 91)), (92, (m.2 92)), (101, (m.2 101)), (102, (m.2 102)), (103, (m.2 103)), (104, (m.2 104)), (105, (m.2 105)), (106, (m.2 106)), (107, (m.2 107)), (108, (m.2 108)), (109, upI (m.2 109) (m.1 25) (m.1 99))]) rfl rfl rfl rfl rfl ?_
                        replace h458 : LxP y446 y448 y450 (m.1 6) y452 := h458
                        replace h459 : y452 = 0 → y150 = 0 ∧ y144 = (125 : Int) := h459
                        replace h460 : y146 ≤ y448 := h460
                        replace h461 : y452 = 0 → y146 + y148 ≤ y448 := h461
                        have hf462 : 1 ≤ y452 := by omega
                        clear h459
                        clear h461
                        have hLx := h458
                        clear g145 g147 g149 g151 g153 g155 h156 hf441 h443 h460
                        refine T_ret rfl (fun _ => rfl) ?_
                        exact ⟨y446, y448, y450, y452, y454, y456, y37, (m.1 25) + 1, (m.1 28), (-1), (m.1 69), (m.1 70), (m.1 71), (m.1 72), (m.1 73), (m.1 74), (m.1 75), (m.1 99), (m.1 100), F39, F41, F43, F45, F96, F97, F98, F99, upI (m.2 50) (m.1 25) 0, (m.2 65), (m.2 66), (m.2 67), (m.2 68), (m.2 76), (m.2 77), (m.2 78), (m.2 79), (m.2 80), (m.2 81), (m.2 82), (m.2 83), (m.2 84), (m.2 85), (m.2 86), (m.2 87), (m.2 88), (m.2 89), (m.2 90), (m.2 91), (m.2 92), (m.2 101), (m.2 102), (m.2 103), (m.2 104), (m.2 105), (m.2 106), (m.2 107), (m.2 108), upI (m.2 109) (m.1 25) (m.1 99), g447, g449, g451, g453, g455, g457, g38, g58, f28, ⟨by omega, by omega⟩, f69, f70, f71, f72, f73, f74, f75, f99, f100, G40, G42, G44, G46, q108, q109, q110, q111, G61, (hT.2.1 65), (hT.2.1 66), (hT.2.1 67), (hT.2.1 68), (hT.2.1 76), (hT.2.1 77), (hT.2.1 78), (hT.2.1 79), (hT.2.1 80), (hT.2.1 81), (hT.2.1 82), (hT.2.1 83), (hT.2.1 84), (hT.2.1 85), (hT.2.1 86), (hT.2.1 87), (hT.2.1 88), (hT.2.1 89), (hT.2.1 90), (hT.2.1 91), (hT.2.1 92), (hT.2.1 101), (hT.2.1 102), (hT.2.1 103), (hT.2.1 104), (hT.2.1 105), (hT.2.1 106), (hT.2.1 107), (hT.2.1 108), G59, (by omega), (by first | (first | exact hLx | (intro h9; exfalso; omega)) | (exfalso; omega)), (by first | (exact hNM) | (exfalso; omega)), (by first | (exact hPA) | (exfalso; omega)), (fun h => absurd h (by omega)), rfl⟩
                    · skip
                      replace h136 : LxP y124 y126 y128 (m.1 6) y130 := h136
                      have hLx := h136
                      clear h137
                      replace h138 : y91 ≤ y126 := h138
                      clear h139
                      have hf463 : 1 ≤ y130 := by omega
                      clear g65 g67 g69 g73 g75 h76 u81 q85a q85b q85 ic86 ic87 q102 q103 q104 q105 q106 q107 ic114 c120 h138
                      refine T_ld 143 (.ref 189) rfl (fun _ => rfl) ?_
                      refine T_ld 145 (.int (i32 123)) rfl (fun _ => rfl) ?_
                      refine T_call 148 232 [.ref 189, .int (i32 123)] [] rfl (fun _ => rfl) rfl (c_need w (mO m [(7, y124), (8, y126), (9, y128), (10, y130), (11, y132), (12, y134), (13, y37), (25, (m.1 25) + 1), (28, (m.1 28)), (64, (m.1 64)), (69, (m.1 69)), (70, (m.1 70)), (71, (m.1 71)), (72, (m.1 72)), (73, (m.1 73)), (74, (m.1 74)), (75, (m.1 75)), (99, (m.1 99)), (100, (m.1 100))] [(14, F39), (15, F41), (16, F43), (17, F45), (46, F96), (47, F97), (48, F98), (49, F99), (50, upI (m.2 50) (m.1 25) 0), (65, (m.2 65)), (66, (m.2 66)), (67, (m.2 67)), (68, (m.2 68)), (76, (m.2 76)), (77, (m.2 77)), (78, (m.2 78)), (79, (m.2 79)), (80, (m.2 80)), (81, (m.2 81)), (82, (m.2 82)), (83, (m.2 83)), (84, (m.2 84)), (85, (m.2 85)), (86, (m.2 86)), (87, (m.2 87)), (88, (m.2 88)), (89, (m.2 89)), (90, (m.2 90)), (91, (m.2 91)), (92, (m.2 92)), (101, (m.2 101)), (102, (m.2 102)), (103, (m.2 103)), (104, (m.2 104)), (105, (m.2 105)), (106, (m.2 106)), (107, (m.2 107)), (108, (m.2 108)), (109, upI (m.2 109) (m.1 25) (m.1 99))]) c N D (by omega) (Ty_mO hT rfl rfl ⟨g125, g127, g129, g131, g133, g135, g38, g58, f28, f64, f69, f70, f71, f72, f73, f74, f75, f99, f100, trivial⟩ ⟨G40, G42, G44, G46, q108, q109, q110, q111, G61, (hT.2.1 65), (hT.2.1 66), (hT.2.1 67), (hT.2.1 68), (hT.2.1 76), (hT.2.1 77), (hT.2.1 78), (hT.2.1 79), (hT.2.1 80), (hT.2.1 81), (hT.2.1 82), (hT.2.1 83), (hT.2.1 84), (hT.2.1 85), (hT.2.1 86), (hT.2.1 87), (hT.2.1 88), (hT.2.1 89), (hT.2.1 90), (hT.2.1 91), (hT.2.1 92), (hT.2.1 101), (hT.2.1 102), (hT.2.1 103), (hT.2.1 104), (hT.2.1 105), (hT.2.1 106), (hT.2.1 107), (hT.2.1 108), G59, trivial⟩) 123 ⟨by decide, by decide⟩ (show 1 ≤ (123 : Int) by omega) (show LxP y124 y126 y128 (m.1 6) y130 by first | exact hLx | (intro h9; exfalso; omega) | (intro h9; have h8 := hLx (by omega); omega))) (fun rr464 k465 => ?_)
                      obtain ⟨y466, y468, y470, y472, y474, y476, g467, g469, g471, g473, g475, g477, h478, h479, h480, h481, rfl⟩ := k465
                      refine ⟨_, _, rfl, ?_⟩
                      refine T_nf (st' := []) (l' := [(7, y466), (8, y468), (9, y470), (10, y472), (11, y474), (12, y476), (13, y37), (25, (m.1 25) + 1), (28, (m.1 28)), (64, (m.1 64)), (69, (m.1 69)), (70, (m.1 70)), (71, (m.1 71)), (72, (m.1 72)), (73, (m.1 73)), (74, (m.1 74)), (75, (m.1 75)), (99, (m.1 99)), (100, (m.1 100))]) (a' := [(14, F39), (15, F41), (16, F43), (17, F45), (46, F96), (47, F97), (48, F98), (49, F99), (50, upI (m.2 50) (m.1 25) 0), (65, (m.2 65)), (66, (m.2 66)), (67, (m.2 67)), (68, (m.2 68)), (76, (m.2 76)), (77, (m.2 77)), (78, (m.2 78)), (79, (m.2 79)), (80, (m.2 80)), (81, (m.2 81)), (82, (m.2 82)), (83, (m.2 83)), (84, (m.2 84)), (85, (m.2 85)), (86, (m.2 86)), (87, (m.2 87)), (88, (m.2 88)), (89, (m.2 89)), (90, (m.2 90)), (91, (m.2 91)), (92, (m.2 92)), (101, (m.2 101)), (102, (m.2 102)), (103, (m.2 103)), (104, (m.2 104)), (105, (m.2 105)), (106, (m.2 106)), (107, (m.2 107)), (108, (m.2 108)), (109, upI (m.2 109) (m.1 25) (m.1 99))]) rfl rfl rfl rfl rfl ?_
                      replace h478 : LxP y466 y468 y470 (m.1 6) y472 := h478
                      replace h479 : y472 = 0 → y130 = 0 ∧ y124 = (123 : Int) := h479
                      replace h480 : y126 ≤ y468 := h480
                      replace h481 : y472 = 0 → y126 + y128 ≤ y468 := h481
                      have hf482 : 1 ≤ y472 := by omega
                      clear h479
                      clear h481
                      have hLx := h478
                      clear g125 g127 g129 g131 g133 g135 h136 hf463 h480
                      refine T_ld 149 (.ref 189) rfl (fun _ => rfl) ?_
                      refine T_ld 150 (.int (i32 (m.1 25))) rfl (fun _ => rfl) ?_
                      refine T_pf (l' := [(7, y466), (8, y468), (9, y470), (10, y472), (11, y474), (12, y476), (13, y37), (25, (m.1 25) + 1), (28, (m.1 28)), (64, (m.1 25)), (69, (m.1 69)), (70, (m.1 70)), (71, (m.1 71)), (72, (m.1 72)), (73, (m.1 73)), (74, (m.1 74)), (75, (m.1 75)), (99, (m.1 99)), (100, (m.1 100))]) 153 (m.1 25) rfl rfl rfl rfl rfl rfl ?_
                      have g483 : (-1) ≤ (m.1 25) ∧ (m.1 25) ≤ 15 := ⟨by omega, by omega⟩
                      refine T_gf 157 (.int (i32 y472)) rfl rfl rfl rfl rfl rfl ?_
                      refine T_if 211 160 rfl rfl rfl (r32 (by omega) (by omega)) (fun (h484 : y472 ≠ 0) => ?_) (fun (h484 : ¬ (y472 ≠ 0)) => by exfalso; omega)
                      refine T_ld 212 (.ref 189) rfl (fun _ => rfl) ?_
                      refine T_ld 213 (.int (i32 (-1))) rfl (fun _ => rfl) ?_
                      refine T_pf (l' := [(7, y466), (8, y468), (9, y470), (10, y472), (11, y474), (12, y476), (13, y37), (25, (m.1 25) + 1), (28, (m.1 28)), (64, (-1)), (69, (m.1 69)), (70, (m.1 70)), (71, (m.1 71)), (72, (m.1 72)), (73, (m.1 73)), (74, (m.1 74)), (75, (m.1 75)), (99, (m.1 99)), (100, (m.1 100))]) 216 (-1) rfl rfl rfl rfl rfl rfl ?_
                      refine T_ld 217 (.ref 189) rfl (fun _ => rfl) ?_
                      refine T_ld 219 (.int (i32 125)) rfl (fun _ => rfl) ?_
                      refine T_call 222 232 [.ref 189, .int (i32 125)] [] rfl (fun _ => rfl) rfl (c_need w (mO m [(7, y466), (8, y468), (9, y470), (10, y472), (11, y474), (12, y476), (13, y37), (25, (m.1 25) + 1), (28, (m.1 28)), (64, (-1)), (69, (m.1 69)), (70, (m.1 70)), (71, (m.1 71)), (72, (m.1 72)), (73, (m.1 73)), (74, (m.1 74)), (75, (m.1 75)), (99, (m.1 99)), (100, (m.1 100))] [(14, F39), (15, F41), (16, F43), (17, F45), (46, F96), (47, F97), (48, F98), (49, F99), (50, upI (m.2 50) (m.1 25) 0), (65, (m.2 65)), (66, (m.2 66)), (67, (m.2 67)), (68, (m.2 68)), (76, (m.2 76)), (77, (m.2 77)), (78, (m.2 78)), (79, (m.2 79)), (80, (m.2 80)), (81, (m.2 81)), (82, (m.2 82)), (83, (m.2 83)), (84, (m.2 84)), (85, (m.2 85)), (86, (m.2 86)), (87, (m.2 87)), (88, (m.2 88)), (89, (m.2 89)), (90, (m.2 90)), (91, (m.2 91)), (92, (m.2 92)), (101, (m.2 101)), (102, (m.2 102)), (103, (m.2 103)), (104, (m.2 104)), (105, (m.2 105)), (106, (m.2 106)), (107, (m.2 107)), (108, (m.2 108)), (109, upI (m.2 109) (m.1 25) (m.1 99))]) c N D (by omega) (Ty_mO hT rfl rfl ⟨g467, g469, g471, g473, g475, g477, g38, g58, f28, ⟨(by omega : ((-1) : Int) ≤ (-1)), (by omega : ((-1) : Int) ≤ 15)⟩, f69, f70, f71, f72, f73, f74, f75, f99, f100, trivial⟩ ⟨G40, G42, G44, G46, q108, q109, q110, q111, G61, (hT.2.1 65), (hT.2.1 66), (hT.2.1 67), (hT.2.1 68), (hT.2.1 76), (hT.2.1 77), (hT.2.1 78), (hT.2.1 79), (hT.2.1 80), (hT.2.1 81), (hT.2.1 82), (hT.2.1 83), (hT.2.1 84), (hT.2.1 85), (hT.2.1 86), (hT.2.1 87), (hT.2.1 88), (hT.2.1 89), (hT.2.1 90), (hT.2.1 91), (hT.2.1 92), (hT.2.1 101), (hT.2.1 102), (hT.2.1 103), (hT.2.1 104), (hT.2.1 105), (hT.2.1 106), (hT.2.1 107), (hT.2.1 108), G59, trivial⟩) 125 ⟨by decide, by decide⟩ (show 1 ≤ (125 : Int) by omega) (show LxP y466 y468 y470 (m.1 6) y472 by first | exact hLx | (intro h9; exfalso; omega) | (intro h9; have h8 := hLx (by omega); omega))) (fun rr485 k486 => ?_)
                      obtain ⟨y487, y489, y491, y493, y495, y497, g488, g490, g492, g494, g496, g498, h499, h500, h501, h502, rfl⟩ := k486
                      refine ⟨_, _, rfl, ?_⟩
                      refine T_nf (st' := []) (l' := [(7, y487), (8, y489), (9, y491), (10, y493), (11, y495), (12, y497), (13, y37), (25, (m.1 25) + 1), (28, (m.1 28)), (64, (-1)), (69, (m.1 69)), (70, (m.1 70)), (71, (m.1 71)), (72, (m.1 72)), (73, (m.1 73)), (74, (m.1 74)), (75, (m.1 75)), (99, (m.1 99)), (100, (m.1 100))]) (a' := [(14, F39), (15, F41), (16, F43), (17, F45), (46, F96), (47, F97), (48, F98), (49, F99), (50, upI (m.2 50) (m.1 25) 0), (65, (m.2 65)), (66, (m.2 66)), (67, (m.2 67)), (68, (m.2 68)), (76, (m.2 76)), (77, (m.2 77)), (78, (m.2 78)), (79, (m.2 79)), (80, (m.2 80)), (81, (m.2 81)), (82, (m.2 82)), (83, (m.2 83)), (84, (m.2 84)), (85, (m.2 85)), (86, (m.2 86)), (87, (m.2 87)), (88, (m.2 88)), (89, (m.2 89)), (90, (m.2 90)), (91, (m.2 91)), (92, (m.2 92)), (101, (m.2 101)), (102, (m.2 102)), (103, (m.2 103)), (104, (m.2 104)), (105, (m.2 105)), (106, (m.2 106)), (107, (m.2 107)), (108, (m.2 108)), (109, upI (m.2 109) (m.1 25) (m.1 99))]) rfl rfl rfl rfl rfl ?_
                      replace h499 : LxP y487 y489 y491 (m.1 6) y493 := h499
                      replace h500 : y493 = 0 → y472 = 0 ∧ y466 = (125 : Int) := h500
                      replace h501 : y468 ≤ y489 := h501
                      replace h502 : y493 = 0 → y468 + y470 ≤ y489 := h502
                      have hf503 : 1 ≤ y493 := by omega
                      clear h500
                      clear h502
                      have hLx := h499
                      clear g467 g469 g471 g473 g475 g477 hf482 h478 h484 h501
                      refine T_ret rfl (fun _ => rfl) ?_
                      exact ⟨y487, y489, y491, y493, y495, y497, y37, (m.1 25) + 1, (m.1 28), (-1), (m.1 69), (m.1 70), (m.1 71), (m.1 72), (m.1 73), (m.1 74), (m.1 75), (m.1 99), (m.1 100), F39, F41, F43, F45, F96, F97, F98, F99, upI (m.2 50) (m.1 25) 0, (m.2 65), (m.2 66), (m.2 67), (m.2 68), (m.2 76), (m.2 77), (m.2 78), (m.2 79), (m.2 80), (m.2 81), (m.2 82), (m.2 83), (m.2 84), (m.2 85), (m.2 86), (m.2 87), (m.2 88), (m.2 89), (m.2 90), (m.2 91), (m.2 92), (m.2 101), (m.2 102), (m.2 103), (m.2 104), (m.2 105), (m.2 106), (m.2 107), (m.2 108), upI (m.2 109) (m.1 25) (m.1 99), g488, g490, g492, g494, g496, g498, g38, g58, f28, ⟨by omega, by omega⟩, f69, f70, f71, f72, f73, f74, f75, f99, f100, G40, G42, G44, G46, q108, q109, q110, q111, G61, (hT.2.1 65), (hT.2.1 66), (hT.2.1 67), (hT.2.1 68), (hT.2.1 76), (hT.2.1 77), (hT.2.1 78), (hT.2.1 79), (hT.2.1 80), (hT.2.1 81), (hT.2.1 82), (hT.2.1 83), (hT.2.1 84), (hT.2.1 85), (hT.2.1 86), (hT.2.1 87), (hT.2.1 88), (hT.2.1 89), (hT.2.1 90), (hT.2.1 91), (hT.2.1 92), (hT.2.1 101), (hT.2.1 102), (hT.2.1 103), (hT.2.1 104), (hT.2.1 105), (hT.2.1 106), (hT.2.1 107), (hT.2.1 108), G59, (by omega), (by first | (first | exact hLx | (intro h9; exfalso; omega)) | (exfalso; omega)), (by first | (exact hNM) | (exfalso; omega)), (by first | (exact hPA) | (exfalso; omega)), (fun h => absurd h (by omega)), rfl⟩
                  · skip
                    refine T_gf 95 (.int (i32 0)) rfl rfl rfl rfl rfl rfl ?_
                    refine T_if 136 98 rfl rfl rfl ⟨by decide, by decide⟩ (fun h504 => absurd (show (0 : Int) ≠ 0 from h504) (by decide)) (fun _ => ?_)
                    refine T_ld 99 (.ref 189) rfl (fun _ => rfl) ?_
                    refine T_ld 100 (.int (i32 (m.1 25))) rfl (fun _ => rfl) ?_
                    refine T_call 103 268 [.ref 189, .int (i32 (m.1 25))] [] rfl (fun _ => rfl) rfl (c_takeParameter w (mO m [(7, y90), (8, y91), (9, y92), (10, 0), (11, y94), (12, y95), (13, y37), (25, (m.1 25) + 1), (28, (m.1 28)), (64, (m.1 64)), (69, (m.1 69)), (70, (m.1 70)), (71, (m.1 71)), (72, (m.1 72)), (73, (m.1 73)), (74, (m.1 74)), (75, (m.1 75)), (99, (m.1 99)), (100, (m.1 100))] [(14, F39), (15, F41), (16, F43), (17, F45), (46, F96), (47, F97), (48, F98), (49, F99), (50, upI (m.2 50) (m.1 25) 0), (65, (m.2 65)), (66, (m.2 66)), (67, (m.2 67)), (68, (m.2 68)), (76, (m.2 76)), (77, (m.2 77)), (78, (m.2 78)), (79, (m.2 79)), (80, (m.2 80)), (81, (m.2 81)), (82, (m.2 82)), (83, (m.2 83)), (84, (m.2 84)), (85, (m.2 85)), (86, (m.2 86)), (87, (m.2 87)), (88, (m.2 88)), (89, (m.2 89)), (90, (m.2 90)), (91, (m.2 91)), (92, (m.2 92)), (101, (m.2 101)), (102, (m.2 102)), (103, (m.2 103)), (104, (m.2 104)), (105, (m.2 105)), (106, (m.2 106)), (107, (m.2 107)), (108, (m.2 108)), (109, upI (m.2 109) (m.1 25) (m.1 99))]) c N D (by omega) (Ty_mO hT rfl rfl ⟨q102, q103, q104, ⟨(by omega : (0 : Int) ≤ 0), (by omega : (0 : Int) ≤ 8)⟩, q106, q107, g38, g58, f28, f64, f69, f70, f71, f72, f73, f74, f75, f99, f100, trivial⟩ ⟨G40, G42, G44, G46, q108, q109, q110, q111, G61, (hT.2.1 65), (hT.2.1 66), (hT.2.1 67), (hT.2.1 68), (hT.2.1 76), (hT.2.1 77), (hT.2.1 78), (hT.2.1 79), (hT.2.1 80), (hT.2.1 81), (hT.2.1 82), (hT.2.1 83), (hT.2.1 84), (hT.2.1 85), (hT.2.1 86), (hT.2.1 87), (hT.2.1 88), (hT.2.1 89), (hT.2.1 90), (hT.2.1 91), (hT.2.1 92), (hT.2.1 101), (hT.2.1 102), (hT.2.1 103), (hT.2.1 104), (hT.2.1 105), (hT.2.1 106), (hT.2.1 107), (hT.2.1 108), G59, trivial⟩) (m.1 25) (r32 (by omega) (by omega)) (show LxP y90 y91 y92 (m.1 6) (0 : Int) by first | exact hLx | (intro h9; exfalso; omega)) (show ∀ k, F97 k + F98 k ≤ 4000 by assumption) (show 0 ≤ (m.1 25) ∧ (m.1 25) ≤ 15 by omega) (fun _ => trivial)) (fun rr505 k506 => ?_)
                    obtain ⟨y507, y509, y511, y513, y515, y517, F519, F521, F523, F525, g508, g510, g512, g514, g516, g518, G520, G522, G524, G526, h527, h528, h529, c530, rfl⟩ := k506
                    refine ⟨_, _, rfl, ?_⟩
                    refine T_nf (st' := []) (l' := [(7, y507), (8, y509), (9, y511), (10, y513), (11, y515), (12, y517), (13, y37), (25, (m.1 25) + 1), (28, (m.1 28)), (64, (m.1 64)), (69, (m.1 69)), (70, (m.1 70)), (71, (m.1 71)), (72, (m.1 72)), (73, (m.1 73)), (74, (m.1 74)), (75, (m.1 75)), (99, (m.1 99)), (100, (m.1 100))]) (a' := [(14, F39), (15, F41), (16, F43), (17, F45), (46, F519), (47, F521), (48, F523), (49, F525), (50, upI (m.2 50) (m.1 25) 0), (65, (m.2 65)), (66, (m.2 66)), (67, (m.2 67)), (68, (m.2 68)), (76, (m.2 76)), (77, (m.2 77)), (78, (m.2 78)), (79, (m.2 79)), (80, (m.2 80)), (81, (m.2 81)), (82, (m.2 82)), (83, (m.2 83)), (84, (m.2 84)), (85, (m.2 85)), (86, (m.2 86)), (87, (m.2 87)), (88, (m.2 88)), (89, (m.2 89)), (90, (m.2 90)), (91, (m.2 91)), (92, (m.2 92)), (101, (m.2 101)), (102, (m.2 102)), (103, (m.2 103)), (104, (m.2 104)), (105, (m.2 105)), (106, (m.2 106)), (107, (m.2 107)), (108, (m.2 108)), (109, upI (m.2 109) (m.1 25) (m.1 99))]) rfl rfl rfl rfl rfl ?_
                    by_cases hf531 : y513 = 0
                    · skip
                      subst hf531
                      replace h527 : (0 : Int) = 0 := h527 rfl
                      replace h528 : LxP y507 y509 y511 (m.1 6) (0 : Int) := h528
                      have hLx := h528
                      replace h529 : ∀ k, F521 k + F523 k ≤ 4000 := h529
                      have hPA := h529
                      have c532 := c530 rfl
                      replace c532 : y91 + 1 ≤ y509 := c532
                      clear c530
                      have u533 : (m.1 8) + 1 ≤ y509 := by omega
                      have hAgC : agr (m.2 65) (m.2 65) (m.1 28) := by first | exact agr_r _ _ | exact hAgC | exact agr_t hAgC hAg (by omega)
                      clear g65 g67 g69 g73 g75 h76 u81 q85a q85b q85 ic86 ic87 q102 q103 q104 q105 q106 q107 ic114 ic115 c120 g514 c532
                      refine T_gf 107 (.int (i32 0)) rfl rfl rfl rfl rfl rfl ?_
                      refine T_if 123 110 rfl rfl rfl ⟨by decide, by decide⟩ (fun h534 => absurd (show (0 : Int) ≠ 0 from h534) (by decide)) (fun _ => ?_)
                      refine T_gf 114 (.int (i32 y507)) rfl rfl rfl rfl rfl rfl ?_
                      refine T_ld 116 (.int (i32 44)) rfl (fun _ => rfl) ?_
                      have J124_536 : ∀ (s535 : Int), (R32 s535) → (0 ≤ s535) → (s535 ≤ 1) → TT w D pm_267 (124, [(0, .ref 189), (1, .int (i32 (m.1 25))), (2, .int (i32 v89))], [.int (i32 s535)], (mhp (mO m [(7, y507), (8, y509), (9, y511), (10, 0), (11, y515), (12, y517), (13, y37), (25, (m.1 25) + 1), (28, (m.1 28)), (64, (m.1 64)), (69, (m.1 69)), (70, (m.1 70)), (71, (m.1 71)), (72, (m.1 72)), (73, (m.1 73)), (74, (m.1 74)), (75, (m.1 75)), (99, (m.1 99)), (100, (m.1 100))] [(14, F39), (15, F41), (16, F43), (17, F45), (46, F519), (47, F521), (48, F523), (49, F525), (50, upI (m.2 50) (m.1 25) 0), (65, (m.2 65)), (66, (m.2 66)), (67, (m.2 67)), (68, (m.2 68)), (76, (m.2 76)), (77, (m.2 77)), (78, (m.2 78)), (79, (m.2 79)), (80, (m.2 80)), (81, (m.2 81)), (82, (m.2 82)), (83, (m.2 83)), (84, (m.2 84)), (85, (m.2 85)), (86, (m.2 86)), (87, (m.2 87)), (88, (m.2 88)), (89, (m.2 89)), (90, (m.2 90)), (91, (m.2 91)), (92, (m.2 92)), (101, (m.2 101)), (102, (m.2 102)), (103, (m.2 103)), (104, (m.2 104)), (105, (m.2 105)), (106, (m.2 106)), (107, (m.2 107)), (108, (m.2 108)), (109, upI (m.2 109) (m.1 25) (m.1 99))]) c, N), 0, 0) (Q_takeAction m c N) := by
                        intro s535 q537 ic538 ic539
                        obtain ⟨q537a, q537b⟩ := id q537
                        refine T_sto 125 [(2, .int (i32 s535)), (0, .ref 189), (1, .int (i32 (m.1 25)))] rfl (fun _ => rfl) ?_
                        refine T_ld 126 (.int (i32 s535)) rfl (fun _ => rfl) ?_
                        refine T_if 87 129 rfl rfl rfl (r32 (by omega) (by omega)) (fun (h541 : s535 = 0) => ?_) (fun (h541 : ¬ (s535 = 0)) => ?_)
                        · skip
                          refine Tm_lv (a := [(0, .ref 189), (1, .int (i32 (m.1 25))), (2, .int (i32 s535))]) rfl rfl ⟨rfl, rfl, rfl, trivial⟩ ?_
                          exact ih118 s535 y507 y509 y511 0 y515 y517 F519 F521 F523 F525 (r32 (by omega) (by omega)) g508 g510 g512 ⟨by omega, by omega⟩ g516 g518 G520 G522 G524 G526 (by omega) (by omega) (by exact hLx) (by exact hPA) (by omega) (fun _ => (by omega)) (by omega)
                        · skip
                          refine T_ld 130 (.ref 189) rfl (fun _ => rfl) ?_
                          refine T_call 133 212 [.ref 189] [] rfl (fun _ => rfl) rfl (c_next w (mO m [(7, y507), (8, y509), (9, y511), (10, 0), (11, y515), (12, y517), (13, y37), (25, (m.1 25) + 1), (28, (m.1 28)), (64, (m.1 64)), (69, (m.1 69)), (70, (m.1 70)), (71, (m.1 71)), (72, (m.1 72)), (73, (m.1 73)), (74, (m.1 74)), (75, (m.1 75)), (99, (m.1 99)), (100, (m.1 100))] [(14, F39), (15, F41), (16, F43), (17, F45), (46, F519), (47, F521), (48, F523), (49, F525), (50, upI (m.2 50) (m.1 25) 0), (65, (m.2 65)), (66, (m.2 66)), (67, (m.2 67)), (68, (m.2 68)), (76, (m.2 76)), (77, (m.2 77)), (78, (m.2 78)), (79, (m.2 79)), (80, (m.2 80)), (81, (m.2 81)), (82, (m.2 82)), (83, (m.2 83)), (84, (m.2 84)), (85, (m.2 85)), (86, (m.2 86)), (87, (m.2 87)), (88, (m.2 88)), (89, (m.2 89)), (90, (m.2 90)), (91, (m.2 91)), (92, (m.2 92)), (101, (m.2 101)), (102, (m.2 102)), (103, (m.2 103)), (104, (m.2 104)), (105, (m.2 105)), (106, (m.2 106)), (107, (m.2 107)), (108, (m.2 108)), (109, upI (m.2 109) (m.1 25) (m.1 99))]) c N D (by omega) (Ty_mO hT rfl rfl ⟨g508, g510, g512, ⟨(by omega : (0 : Int) ≤ 0), (by omega : (0 : Int) ≤ 8)⟩, g516, g518, g38, g58, f28, f64, f69, f70, f71, f72, f73, f74, f75, f99, f100, trivial⟩ ⟨G40, G42, G44, G46, G520, G522, G524, G526, G61, (hT.2.1 65), (hT.2.1 66), (hT.2.1 67), (hT.2.1 68), (hT.2.1 76), (hT.2.1 77), (hT.2.1 78), (hT.2.1 79), (hT.2.1 80), (hT.2.1 81), (hT.2.1 82), (hT.2.1 83), (hT.2.1 84), (hT.2.1 85), (hT.2.1 86), (hT.2.1 87), (hT.2.1 88), (hT.2.1 89), (hT.2.1 90), (hT.2.1 91), (hT.2.1 92), (hT.2.1 101), (hT.2.1 102), (hT.2.1 103), (hT.2.1 104), (hT.2.1 105), (hT.2.1 106), (hT.2.1 107), (hT.2.1 108), G59, trivial⟩) (show (0 : Int) = 0 → y509 + y511 ≤ (m.1 6) by first | omega | (intro h9; have h8 := hLx h9; omega))) (fun rr542 k543 => ?_)
                          obtain ⟨y544, y546, y548, y550, y552, y554, g545, g547, g549, g551, g553, g555, h556, h557, h558, h559, rfl⟩ := k543
                          refine ⟨_, _, rfl, ?_⟩
                          refine T_nf (st' := []) (l' := [(7, y544), (8, y546), (9, y548), (10, y550), (11, y552), (12, y554), (13, y37), (25, (m.1 25) + 1), (28, (m.1 28)), (64, (m.1 64)), (69, (m.1 69)), (70, (m.1 70)), (71, (m.1 71)), (72, (m.1 72)), (73, (m.1 73)), (74, (m.1 74)), (75, (m.1 75)), (99, (m.1 99)), (100, (m.1 100))]) (a' := [(14, F39), (15, F41), (16, F43), (17, F45), (46, F519), (47, F521), (48, F523), (49, F525), (50, upI (m.2 50) (m.1 25) 0), (65, (m.2 65)), (66, (m.2 66)), (67, (m.2 67)), (68, (m.2 68)), (76, (m.2 76)), (77, (m.2 77)), (78, (m.2 78)), (79, (m.2 79)), (80, (m.2 80)), (81, (m.2 81)), (82, (m.2 82)), (83, (m.2 83)), (84, (m.2 84)), (85, (m.2 85)), (86, (m.2 86)), (87, (m.2 87)), (88, (m.2 88)), (89, (m.2 89)), (90, (m.2 90)), (91, (m.2 91)), (92, (m.2 92)), (101, (m.2 101)), (102, (m.2 102)), (103, (m.2 103)), (104, (m.2 104)), (105, (m.2 105)), (106, (m.2 106)), (107, (m.2 107)), (108, (m.2 108)), (109, upI (m.2 109) (m.1 25) (m.1 99))]) rfl rfl rfl rfl rfl ?_
                          by_cases hf560 : y550 = 0
                          · skip
                            subst hf560
                            replace h556 : LxP y544 y546 y548 (m.1 6) (0 : Int) := h556
                            have hLx := h556
                            replace h557 : (0 : Int) = 0 := h557 rfl
                            replace h558 : y509 ≤ y546 := h558
                            replace h559 : y509 + y511 ≤ y546 := h559 rfl
                            have u561 : (m.1 8) + 1 ≤ y546 := by omega
                            have hAgC : agr (m.2 65) (m.2 65) (m.1 28) := by first | exact agr_r _ _ | exact hAgC | exact agr_t hAgC hAg (by omega)
                            clear q101a q101b q101 ic112 ic113 ic116 h121 g508 g510 g512 g516 g518 h528 u533 g551 h558 h559
                            refine T_goto 87 rfl (fun _ => rfl) ?_
                            refine Tm_lv (a := [(0, .ref 189), (1, .int (i32 (m.1 25))), (2, .int (i32 s535))]) rfl rfl ⟨rfl, rfl, rfl, trivial⟩ ?_
                            exact ih118 s535 y544 y546 y548 0 y552 y554 F519 F521 F523 F525 (r32 (by omega) (by omega)) g545 g547 g549 ⟨by omega, by omega⟩ g553 g555 G520 G522 G524 G526 (by omega) (by omega) (by exact hLx) (by exact hPA) (by omega) (fun _ => (by omega)) (by omega)
                          · skip
                            replace h556 : LxP y544 y546 y548 (m.1 6) y550 := h556
                            have hLx := h556
                            clear h557
                            replace h558 : y509 ≤ y546 := h558
                            clear h559
                            have hf562 : 1 ≤ y550 := by omega
                            clear q101a q101b q101 ic112 ic113 ic116 h121 g508 g510 g512 g516 g518 h528 u533 h558
                            refine T_goto 87 rfl (fun _ => rfl) ?_
                            refine Tm_lv (a := [(0, .ref 189), (1, .int (i32 (m.1 25))), (2, .int (i32 s535))]) rfl rfl ⟨rfl, rfl, rfl, trivial⟩ ?_
                            exact ih118 s535 y544 y546 y548 y550 y552 y554 F519 F521 F523 F525 (r32 (by omega) (by omega)) g545 g547 g549 g551 g553 g555 G520 G522 G524 G526 (by omega) (by omega) (by exact hLx) (by exact hPA) (by omega) (fun h => absurd h (by omega)) (by omega)
                      refine T_icmp 123 119 rfl rfl rfl (r32 (by omega) (by omega)) ⟨by decide, by decide⟩ (fun (h563 : y507 ≠ 44) => ?_) (fun (h563 : ¬ (y507 ≠ 44)) => ?_)
                      · skip
                        refine T_ld 124 (.int (i32 0)) rfl (fun _ => rfl) ?_
                        exact J124_536 0 ⟨by decide, by decide⟩ (by omega) (by omega)
                      · skip
                        refine T_ld 120 (.int (i32 1)) rfl (fun _ => rfl) ?_
                        refine T_goto 124 rfl (fun _ => rfl) ?_
                        exact J124_536 1 ⟨by decide, by decide⟩ (by omega) (by omega)
                    · skip
                      clear c530
                      clear h527
                      replace h528 : LxP y507 y509 y511 (m.1 6) y513 := h528
                      have hLx := h528
                      replace h529 : ∀ k, F521 k + F523 k ≤ 4000 := h529
                      have hPA := h529
                      have hf564 : 1 ≤ y513 := by omega
                      clear g65 g67 g69 g73 g75 h76 u81 q85a q85b q85 ic86 ic87 q102 q103 q104 q105 q106 q107 ic114 ic115 c120
                      refine T_gf 107 (.int (i32 y513)) rfl rfl rfl rfl rfl rfl ?_
                      refine T_if 123 110 rfl rfl rfl (r32 (by omega) (by omega)) (fun (h565 : y513 ≠ 0) => ?_) (fun (h565 : ¬ (y513 ≠ 0)) => by exfalso; omega)
                      refine T_ld 124 (.int (i32 0)) rfl (fun _ => rfl) ?_
                      refine T_sto 125 [(2, .int (i32 0)), (0, .ref 189), (1, .int (i32 (m.1 25)))] rfl (fun _ => rfl) ?_
                      refine T_ld 126 (.int (i32 0)) rfl (fun _ => rfl) ?_
                      refine T_if 87 129 rfl rfl rfl ⟨by decide, by decide⟩ (fun _ => ?_) (fun h566 => absurd (show (0 : Int) = 0 by decide) h566)
                      refine Tm_lv (a := [(0, .ref 189), (1, .int (i32 (m.1 25))), (2, .int (i32 0))]) rfl rfl ⟨rfl, rfl, rfl, trivial⟩ ?_
                      exact ih118 0 y507 y509 y511 y513 y515 y517 F519 F521 F523 F525 ⟨by decide, by decide⟩ g508 g510 g512 g514 g516 g518 G520 G522 G524 G526 (by omega) (by omega) (by exact hLx) (by exact hPA) (by omega) (fun h => absurd h (by omega)) (by omega)
                · skip
                  clear c117
                  have hf567 : 1 ≤ y93 := by omega
                  refine T_ld 88 (.int (i32 v89)) rfl (fun _ => rfl) ?_
                  refine T_if 136 91 rfl rfl rfl (r32 (by omega) (by omega)) (fun (h568 : v89 = 0) => ?_) (fun (h568 : ¬ (v89 = 0)) => ?_)
                  · skip
                    refine T_ld 137 (.ref 189) rfl (fun _ => rfl) ?_
                    refine T_ld 139 (.int (i32 41)) rfl (fun _ => rfl) ?_
                    refine T_call 142 232 [.ref 189, .int (i32 41)] [] rfl (fun _ => rfl) rfl (c_need w (mO m [(7, y90), (8, y91), (9, y92), (10, y93), (11, y94), (12, y95), (13, y37), (25, (m.1 25) + 1), (28, (m.1 28)), (64, (m.1 64)), (69, (m.1 69)), (70, (m.1 70)), (71, (m.1 71)), (72, (m.1 72)), (73, (m.1 73)), (74, (m.1 74)), (75, (m.1 75)), (99, (m.1 99)), (100, (m.1 100))] [(14, F39), (15, F41), (16, F43), (17, F45), (46, F96), (47, F97), (48, F98), (49, F99), (50, upI (m.2 50) (m.1 25) 0), (65, (m.2 65)), (66, (m.2 66)), (67, (m.2 67)), (68, (m.2 68)), (76, (m.2 76)), (77, (m.2 77)), (78, (m.2 78)), (79, (m.2 79)), (80, (m.2 80)), (81, (m.2 81)), (82, (m.2 82)), (83, (m.2 83)), (84, (m.2 84)), (85, (m.2 85)), (86, (m.2 86)), (87, (m.2 87)), (88, (m.2 88)), (89, (m.2 89)), (90, (m.2 90)), (91, (m.2 91)), (92, (m.2 92)), (101, (m.2 101)), (102, (m.2 102)), (103, (m.2 103)), (104, (m.2 104)), (105, (m.2 105)), (106, (m.2 106)), (107, (m.2 107)), (108, (m.2 108)), (109, upI (m.2 109) (m.1 25) (m.1 99))]) c N D (by omega) (Ty_mO hT rfl rfl ⟨q102, q103, q104, q105, q106, q107, g38, g58, f28, f64, f69, f70, f71, f72, f73, f74, f75, f99, f100, trivial⟩ ⟨G40, G42, G44, G46, q108, q109, q110, q111, G61, (hT.2.1 65), (hT.2.1 66), (hT.2.1 67), (hT.2.1 68), (hT.2.1 76), (hT.2.1 77), (hT.2.1 78), (hT.2.1 79), (hT.2.1 80), (hT.2.1 81), (hT.2.1 82), (hT.2.1 83), (hT.2.1 84), (hT.2.1 85), (hT.2.1 86), (hT.2.1 87), (hT.2.1 88), (hT.2.1 89), (hT.2.1 90), (hT.2.1 91), (hT.2.1 92), (hT.2.1 101), (hT.2.1 102), (hT.2.1 103), (hT.2.1 104), (hT.2.1 105), (hT.2.1 106), (hT.2.1 107), (hT.2.1 108), G59, trivial⟩) 41 ⟨by decide, by decide⟩ (show 1 ≤ (41 : Int) by omega) (show LxP y90 y91 y92 (m.1 6) y93 by first | exact hLx | (intro h9; exfalso; omega) | (intro h9; have h8 := hLx (by omega); omega))) (fun rr569 k570 => ?_)
                    obtain ⟨y571, y573, y575, y577, y579, y581, g572, g574, g576, g578, g580, g582, h583, h584, h585, h586, rfl⟩ := k570
                    refine ⟨_, _, rfl, ?_⟩
                    refine T_nf (st' := []) (l' := [(7, y571), (8, y573), (9, y575), (10, y577), (11, y579), (12, y581), (13, y37), (25, (m.1 25) + 1), (28, (m.1 28)), (64, (m.1 64)), (69, (m.1 69)), (70, (m.1 70)), (71, (m.1 71)), (72, (m.1 72)), (73, (m.1 73)), (74, (m.1 74)), (75, (m.1 75)), (99, (m.1 99)), (100, (m.1 100))]) (a' := [(14, F39), (15, F41), (16, F43), (17, F45), (46, F96), (47, F97), (48, F98), (49, F99), (50, upI (m.2 50) (m.1 25) 0), (65, (m.2 65)), (66, (m.2 66)), (67, (m.2 67)), (68, (m.2 68)), (76, (m.2 76)), (77, (m.2 77)), (78, (m.2 78)), (79, (m.2 79)), (80, (m.2 80)), (81, (m.2 81)), (82, (m.2 82)), (83, (m.2 83)), (84, (m.2 84)), (85, (m.2 85)), (86, (m.2 86)), (87, (m.2 87)), (88, (m.2 88)), (89, (m.2 89)), (90, (m.2 90)), (91, (m.2 91)), (92, (m.2 92)), (101, (m.2 101)), (102, (m.2 102)), (103, (m.2 103)), (104, (m.2 104)), (105, (m.2 105)), (106, (m.2 106)), (107, (m.2 107)), (108, (m.2 108)), (109, upI (m.2 109) (m.1 25) (m.1 99))]) rfl rfl rfl rfl rfl ?_
                    replace h583 : LxP y571 y573 y575 (m.1 6) y577 := h583
                    replace h584 : y577 = 0 → y93 = 0 ∧ y90 = (41 : Int) := h584
                    replace h585 : y91 ≤ y573 := h585
                    replace h586 : y577 = 0 → y91 + y92 ≤ y573 := h586
                    have hf587 : 1 ≤ y577 := by omega
                    clear h584
                    clear h586
                    have hLx := h583
                    clear g65 g67 g69 g73 g75 h76 u81 q85a q85b q85 ic86 ic87 q102 q103 q104 q105 q106 q107 ic114 hf567 h585
                    refine T_ld 143 (.ref 189) rfl (fun _ => rfl) ?_
                    refine T_ld 145 (.int (i32 123)) rfl (fun _ => rfl) ?_
                    refine T_call 148 232 [.ref 189, .int (i32 123)] [] rfl (fun _ => rfl) rfl (c_need w (mO m [(7, y571), (8, y573), (9, y575), (10, y577), (11, y579), (12, y581), (13, y37), (25, (m.1 25) + 1), (28, (m.1 28)), (64, (m.1 64)), (69, (m.1 69)), (70, (m.1 70)), (71, (m.1 71)), (72, (m.1 72)), (73, (m.1 73)), (74, (m.1 74)), (75, (m.1 75)), (99, (m.1 99)), (100, (m.1 100))] [(14, F39), (15, F41), (16, F43), (17, F45), (46, F96), (47, F97), (48, F98), (49, F99), (50, upI (m.2 50) (m.1 25) 0), (65, (m.2 65)), (66, (m.2 66)), (67, (m.2 67)), (68, (m.2 68)), (76, (m.2 76)), (77, (m.2 77)), (78, (m.2 78)), (79, (m.2 79)), (80, (m.2 80)), (81, (m.2 81)), (82, (m.2 82)), (83, (m.2 83)), (84, (m.2 84)), (85, (m.2 85)), (86, (m.2 86)), (87, (m.2 87)), (88, (m.2 88)), (89, (m.2 89)), (90, (m.2 90)), (91, (m.2 91)), (92, (m.2 92)), (101, (m.2 101)), (102, (m.2 102)), (103, (m.2 103)), (104, (m.2 104)), (105, (m.2 105)), (106, (m.2 106)), (107, (m.2 107)), (108, (m.2 108)), (109, upI (m.2 109) (m.1 25) (m.1 99))]) c N D (by omega) (Ty_mO hT rfl rfl ⟨g572, g574, g576, g578, g580, g582, g38, g58, f28, f64, f69, f70, f71, f72, f73, f74, f75, f99, f100, trivial⟩ ⟨G40, G42, G44, G46, q108, q109, q110, q111, G61, (hT.2.1 65), (hT.2.1 66), (hT.2.1 67), (hT.2.1 68), (hT.2.1 76), (hT.2.1 77), (hT.2.1 78), (hT.2.1 79), (hT.2.1 80), (hT.2.1 81), (hT.2.1 82), (hT.2.1 83), (hT.2.1 84), (hT.2.1 85), (hT.2.1 86), (hT.2.1 87), (hT.2.1 88), (hT.2.1 89), (hT.2.1 90), (hT.2.1 91), (hT.2.1 92), (hT.2.1 101), (hT.2.1 102), (hT.2.1 103), (hT.2.1 104), (hT.2.1 105), (hT.2.1 106), (hT.2.1 107), (hT.2.1 108), G59, trivial⟩) 123 ⟨by decide, by decide⟩ (show 1 ≤ (123 : Int) by omega) (show LxP y571 y573 y575 (m.1 6) y577 by first | exact hLx | (intro h9; exfalso; omega) | (intro h9; have h8 := hLx (by omega); omega))) (fun rr588 k589 => ?_)
                    obtain ⟨y590, y592, y594, y596, y598, y600, g591, g593, g595, g597, g599, g601, h602, h603, h604, h605, rfl⟩ := k589
                    refine ⟨_, _, rfl, ?_⟩
                    refine T_nf (st' := []) (l' := [(7, y590), (8, y592), (9, y594), (10, y596), (11, y598), (12, y600), (13, y37), (25, (m.1 25) + 1), (28, (m.1 28)), (64, (m.1 64)), (69, (m.1 69)), (70, (m.1 70)), (71, (m.1 71)), (72, (m.1 72)), (73, (m.1 73)), (74, (m.1 74)), (75, (m.1 75)), (99, (m.1 99)), (100, (m.1 100))]) (a' := [(14, F39), (15, F41), (16, F43), (17, F45), (46, F96), (47, F97), (48, F98), (49, F99), (50, upI (m.2 50) (m.1 25) 0), (65, (m.2 65)), (66, (m.2 66)), (67, (m.2 67)), (68, (m.2 68)), (76, (m.2 76)), (77, (m.2 77)), (78, (m.2 78)), (79, (m.2 79)), (80, (m.2 80)), (81, (m.2 81)), (82, (m.2 82)), (83, (m.2 83)), (84, (m.2 84)), (85, (m.2 85)), (86, (m.2 86)), (87, (m.2 87)), (88, (m.2 88)), (89, (m.2 89)), (90, (m.2 90)), (91, (m.2 91)), (92, (m.2 92)), (101, (m.2 101)), (102, (m.2 102)), (103, (m.2 103)), (104, (m.2 104)), (105, (m.2 105)), (106, (m.2 106)), (107, (m.2 107)), (108, (m.2 108)), (109, upI (m.2 109) (m.1 25) (m.1 99))]) rfl rfl rfl rfl rfl ?_
                    replace h602 : LxP y590 y592 y594 (m.1 6) y596 := h602
                    replace h603 : y596 = 0 → y577 = 0 ∧ y571 = (123 : Int) := h603
                    replace h604 : y573 ≤ y592 := h604
                    replace h605 : y596 = 0 → y573 + y575 ≤ y592 := h605
                    have hf606 : 1 ≤ y596 := by omega
                    clear h603
                    clear h605
                    have hLx := h602
                    clear g572 g574 g576 g578 g580 g582 hf587 h583 h604
                    refine T_ld 149 (.ref 189) rfl (fun _ => rfl) ?_
                    refine T_ld 150 (.int (i32 (m.1 25))) rfl (fun _ => rfl) ?_
                    refine T_pf (l' := [(7, y590), (8, y592), (9, y594), (10, y596), (11, y598), (12, y600), (13, y37), (25, (m.1 25) + 1), (28, (m.1 28)), (64, (m.1 25)), (69, (m.1 69)), (70, (m.1 70)), (71, (m.1 71)), (72, (m.1 72)), (73, (m.1 73)), (74, (m.1 74)), (75, (m.1 75)), (99, (m.1 99)), (100, (m.1 100))]) 153 (m.1 25) rfl rfl rfl rfl rfl rfl ?_
                    have g607 : (-1) ≤ (m.1 25) ∧ (m.1 25) ≤ 15 := ⟨by omega, by omega⟩
                    refine T_gf 157 (.int (i32 y596)) rfl rfl rfl rfl rfl rfl ?_
                    refine T_if 211 160 rfl rfl rfl (r32 (by omega) (by omega)) (fun (h608 : y596 ≠ 0) => ?_) (fun (h608 : ¬ (y596 ≠ 0)) => by exfalso; omega)
                    refine T_ld 212 (.ref 189) rfl (fun _ => rfl) ?_
                    refine T_ld 213 (.int (i32 (-1))) rfl (fun _ => rfl) ?_
                    refine T_pf (l' := [(7, y590), (8, y592), (9, y594), (10, y596), (11, y598), (12, y600), (13, y37), (25, (m.1 25) + 1), (28, (m.1 28)), (64, (-1)), (69, (m.1 69)), (70, (m.1 70)), (71, (m.1 71)), (72, (m.1 72)), (73, (m.1 73)), (74, (m.1 74)), (75, (m.1 75)), (99, (m.1 99)), (100, (m.1 100))]) 216 (-1) rfl rfl rfl rfl rfl rfl ?_
                    refine T_ld 217 (.ref 189) rfl (fun _ => rfl) ?_
                    refine T_ld 219 (.int (i32 125)) rfl (fun _ => rfl) ?_
                    refine T_call 222 232 [.ref 189, .int (i32 125)] [] rfl (fun _ => rfl) rfl (c_need w (mO m [(7, y590), (8, y592), (9, y594), (10, y596), (11, y598), (12, y600), (13, y37), (25, (m.1 25) + 1), (28, (m.1 28)), (64, (-1)), (69, (m.1 69)), (70, (m.1 70)), (71, (m.1 71)), (72, (m.1 72)), (73, (m.1 73)), (74, (m.1 74)), (75, (m.1 75)), (99, (m.1 99)), (100, (m.1 100))] [(14, F39), (15, F41), (16, F43), (17, F45), (46, F96), (47, F97), (48, F98), (49, F99), (50, upI (m.2 50) (m.1 25) 0), (65, (m.2 65)), (66, (m.2 66)), (67, (m.2 67)), (68, (m.2 68)), (76, (m.2 76)), (77, (m.2 77)), (78, (m.2 78)), (79, (m.2 79)), (80, (m.2 80)), (81, (m.2 81)), (82, (m.2 82)), (83, (m.2 83)), (84, (m.2 84)), (85, (m.2 85)), (86, (m.2 86)), (87, (m.2 87)), (88, (m.2 88)), (89, (m.2 89)), (90, (m.2 90)), (91, (m.2 91)), (92, (m.2 92)), (101, (m.2 101)), (102, (m.2 102)), (103, (m.2 103)), (104, (m.2 104)), (105, (m.2 105)), (106, (m.2 106)), (107, (m.2 107)), (108, (m.2 108)), (109, upI (m.2 109) (m.1 25) (m.1 99))]) c N D (by omega) (Ty_mO hT rfl rfl ⟨g591, g593, g595, g597, g599, g601, g38, g58, f28, ⟨(by omega : ((-1) : Int) ≤ (-1)), (by omega : ((-1) : Int) ≤ 15)⟩, f69, f70, f71, f72, f73, f74, f75, f99, f100, trivial⟩ ⟨G40, G42, G44, G46, q108, q109, q110, q111, G61, (hT.2.1 65), (hT.2.1 66), (hT.2.1 67), (hT.2.1 68), (hT.2.1 76), (hT.2.1 77), (hT.2.1 78), (hT.2.1 79), (hT.2.1 80), (hT.2.1 81), (hT.2.1 82), (hT.2.1 83), (hT.2.1 84), (hT.2.1 85), (hT.2.1 86), (hT.2.1 87), (hT.2.1 88), (hT.2.1 89), (hT.2.1 90), (hT.2.1 91), (hT.2.1 92), (hT.2.1 101), (hT.2.1 102), (hT.2.1 103), (hT.2.1 104), (hT.2.1 105), (hT.2.1 106), (hT.2.1 107), (hT.2.1 108), G59, trivial⟩) 125 ⟨by decide, by decide⟩ (show 1 ≤ (125 : Int) by omega) (show LxP y590 y592 y594 (m.1 6) y596 by first | exact hLx | (intro h9; exfalso; omega) | (intro h9; have h8 := hLx (by omega); omega))) (fun rr609 k610 => ?_)
                    obtain ⟨y611, y613, y615, y617, y619, y621, g612, g614, g616, g618, g620, g622, h623, h624, h625, h626, rfl⟩ := k610
                    refine ⟨_, _, rfl, ?_⟩
                    refine T_nf (st' := []) (l' := [(7, y611), (8, y613), (9, y615), (10, y617), (11, y619), (12, y621), (13, y37), (25, (m.1 25) + 1), (28, (m.1 28)), (64, (-1)), (69, (m.1 69)), (70, (m.1 70)), (71, (m.1 71)), (72, (m.1 72)), (73, (m.1 73)), (74, (m.1 74)), (75, (m.1 75)), (99, (m.1 99)), (100, (m.1 100))]) (a' := [(14, F39), (15, F41), (16, F43), (17, F45), (46, F96), (47, F97), (48, F98), (49, F99), (50, upI (m.2 50) (m.1 25) 0), (65, (m.2 65)), (66, (m.2 66)), (67, (m.2 67)), (68, (m.2 68)), (76, (m.2 76)), (77, (m.2 77)), (78, (m.2 78)), (79, (m.2 79)), (80, (m.2 80)), (81, (m.2 81)), (82, (m.2 82)), (83, (m.2 83)), (84, (m.2 84)), (85, (m.2 85)), (86, (m.2 86)), (87, (m.2 87)), (88, (m.2 88)), (89, (m.2 89)), (90, (m.2 90)), (91, (m.2 91)), (92, (m.2 92)), (101, (m.2 101)), (102, (m.2 102)), (103, (m.2 103)), (104, (m.2 104)), (105, (m.2 105)), (106, (m.2 106)), (107, (m.2 107)), (108, (m.2 108)), (109, upI (m.2 109) (m.1 25) (m.1 99))]) rfl rfl rfl rfl rfl ?_
                    replace h623 : LxP y611 y613 y615 (m.1 6) y617 := h623
                    replace h624 : y617 = 0 → y596 = 0 ∧ y590 = (125 : Int) := h624
                    replace h625 : y592 ≤ y613 := h625
                    replace h626 : y617 = 0 → y592 + y594 ≤ y613 := h626
                    have hf627 : 1 ≤ y617 := by omega
                    clear h624
                    clear h626
                    have hLx := h623
                    clear g591 g593 g595 g597 g599 g601 hf606 h602 h608 h625
                    refine T_ret rfl (fun _ => rfl) ?_
                    exact ⟨y611, y613, y615, y617, y619, y621, y37, (m.1 25) + 1, (m.1 28), (-1), (m.1 69), (m.1 70), (m.1 71), (m.1 72), (m.1 73), (m.1 74), (m.1 75), (m.1 99), (m.1 100), F39, F41, F43, F45, F96, F97, F98, F99, upI (m.2 50) (m.1 25) 0, (m.2 65), (m.2 66), (m.2 67), (m.2 68), (m.2 76), (m.2 77), (m.2 78), (m.2 79), (m.2 80), (m.2 81), (m.2 82), (m.2 83), (m.2 84), (m.2 85), (m.2 86), (m.2 87), (m.2 88), (m.2 89), (m.2 90), (m.2 91), (m.2 92), (m.2 101), (m.2 102), (m.2 103), (m.2 104), (m.2 105), (m.2 106), (m.2 107), (m.2 108), upI (m.2 109) (m.1 25) (m.1 99), g612, g614, g616, g618, g620, g622, g38, g58, f28, ⟨by omega, by omega⟩, f69, f70, f71, f72, f73, f74, f75, f99, f100, G40, G42, G44, G46, q108, q109, q110, q111, G61, (hT.2.1 65), (hT.2.1 66), (hT.2.1 67), (hT.2.1 68), (hT.2.1 76), (hT.2.1 77), (hT.2.1 78), (hT.2.1 79), (hT.2.1 80), (hT.2.1 81), (hT.2.1 82), (hT.2.1 83), (hT.2.1 84), (hT.2.1 85), (hT.2.1 86), (hT.2.1 87), (hT.2.1 88), (hT.2.1 89), (hT.2.1 90), (hT.2.1 91), (hT.2.1 92), (hT.2.1 101), (hT.2.1 102), (hT.2.1 103), (hT.2.1 104), (hT.2.1 105), (hT.2.1 106), (hT.2.1 107), (hT.2.1 108), G59, (by omega), (by first | (first | exact hLx | (intro h9; exfalso; omega)) | (exfalso; omega)), (by first | (exact hNM) | (exfalso; omega)), (by first | (exact hPA) | (exfalso; omega)), (fun h => absurd h (by omega)), rfl⟩
                  · skip
                    refine T_gf 95 (.int (i32 y93)) rfl rfl rfl rfl rfl rfl ?_
                    refine T_if 136 98 rfl rfl rfl (r32 (by omega) (by omega)) (fun (h628 : y93 ≠ 0) => ?_) (fun (h628 : ¬ (y93 ≠ 0)) => by exfalso; omega)
                    refine T_ld 137 (.ref 189) rfl (fun _ => rfl) ?_
                    refine T_ld 139 (.int (i32 41)) rfl (fun _ => rfl) ?_
                    refine T_call 142 232 [.ref 189, .int (i32 41)] [] rfl (fun _ => rfl) rfl (c_need w (mO m [(7, y90), (8, y91), (9, y92), (10, y93), (11, y94), (12, y95), (13, y37), (25, (m.1 25) + 1), (28, (m.1 28)), (64, (m.1 64)), (69, (m.1 69)), (70, (m.1 70)), (71, (m.1 71)), (72, (m.1 72)), (73, (m.1 73)), (74, (m.1 74)), (75, (m.1 75)), (99, (m.1 99)), (100, (m.1 100))] [(14, F39), (15, F41), (16, F43), (17, F45), (46, F96), (47, F97), (48, F98), (49, F99), (50, upI (m.2 50) (m.1 25) 0), (65, (m.2 65)), (66, (m.2 66)), (67, (m.2 67)), (68, (m.2 68)), (76, (m.2 76)), (77, (m.2 77)), (78, (m.2 78)), (79, (m.2 79)), (80, (m.2 80)), (81, (m.2 81)), (82, (m.2 82)), (83, (m.2 83)), (84, (m.2 84)), (85, (m.2 85)), (86, (m.2 86)), (87, (m.2 87)), (88, (m.2 88)), (89, (m.2 89)), (90, (m.2 90)), (91, (m.2 91)), (92, (m.2 92)), (101, (m.2 101)), (102, (m.2 102)), (103, (m.2 103)), (104, (m.2 104)), (105, (m.2 105)), (106, (m.2 106)), (107, (m.2 107)), (108, (m.2 108)), (109, upI (m.2 109) (m.1 25) (m.1 99))]) c N D (by omega) (Ty_mO hT rfl rfl ⟨q102, q103, q104, q105, q106, q107, g38, g58, f28, f64, f69, f70, f71, f72, f73, f74, f75, f99, f100, trivial⟩ ⟨G40, G42, G44, G46, q108, q109, q110, q111, G61, (hT.2.1 65), (hT.2.1 66), (hT.2.1 67), (hT.2.1 68), (hT.2.1 76), (hT.2.1 77), (hT.2.1 78), (hT.2.1 79), (hT.2.1 80), (hT.2.1 81), (hT.2.1 82), (hT.2.1 83), (hT.2.1 84), (hT.2.1 85), (hT.2.1 86), (hT.2.1 87), (hT.2.1 88), (hT.2.1 89), (hT.2.1 90), (hT.2.1 91), (hT.2.1 92), (hT.2.1 101), (hT.2.1 102), (hT.2.1 103), (hT.2.1 104), (hT.2.1 105), (hT.2.1 106), (hT.2.1 107), (hT.2.1 108), G59, trivial⟩) 41 ⟨by decide, by decide⟩ (show 1 ≤ (41 : Int) by omega) (show LxP y90 y91 y92 (m.1 6) y93 by first | exact hLx | (intro h9; exfalso; omega) | (intro h9; have h8 := hLx (by omega); omega))) (fun rr629 k630 => ?_)
                    obtain ⟨y631, y633, y635, y637, y639, y641, g632, g634, g636, g638, g640, g642, h643, h644, h645, h646, rfl⟩ := k630
                    refine ⟨_, _, rfl, ?_⟩
                    refine T_nf (st' := []) (l' := [(7, y631), (8, y633), (9, y635), (10, y637), (11, y639), (12, y641), (13, y37), (25, (m.1 25) + 1), (28, (m.1 28)), (64, (m.1 64)), (69, (m.1 69)), (70, (m.1 70)), (71, (m.1 71)), (72, (m.1 72)), (73, (m.1 73)), (74, (m.1 74)), (75, (m.1 75)), (99, (m.1 99)), (100, (m.1 100))]) (a' := [(14, F39), (15, F41), (16, F43), (17, F45), (46, F96), (47, F97), (48, F98), (49, F99), (50, upI (m.2 50) (m.1 25) 0), (65, (m.2 65)), (66, (m.2 66)), (67, (m.2 67)), (68, (m.2 68)), (76, (m.2 76)), (77, (m.2 77)), (78, (m.2 78)), (79, (m.2 79)), (80, (m.2 80)), (81, (m.2 81)), (82, (m.2 82)), (83, (m.2 83)), (84, (m.2 84)), (85, (m.2 85)), (86, (m.2 86)), (87, (m.2 87)), (88, (m.2 88)), (89, (m.2 89)), (90, (m.2 90)), (91, (m.2 91)), (92, (m.2 92)), (101, (m.2 101)), (102, (m.2 102)), (103, (m.2 103)), (104, (m.2 104)), (105, (m.2 105)), (106, (m.2 106)), (107, (m.2 107)), (108, (m.2 108)), (109, upI (m.2 109) (m.1 25) (m.1 99))]) rfl rfl rfl rfl rfl ?_
                    replace h643 : LxP y631 y633 y635 (m.1 6) y637 := h643
                    replace h644 : y637 = 0 → y93 = 0 ∧ y90 = (41 : Int) := h644
                    replace h645 : y91 ≤ y633 := h645
                    replace h646 : y637 = 0 → y91 + y92 ≤ y633 := h646
                    have hf647 : 1 ≤ y637 := by omega
                    clear h644
                    clear h646
                    have hLx := h643
                    clear g65 g67 g69 g73 g75 h76 u81 q85a q85b q85 ic86 ic87 q102 q103 q104 q105 q106 q107 ic114 hf567 h628 h645
                    refine T_ld 143 (.ref 189) rfl (fun _ => rfl) ?_
                    refine T_ld 145 (.int (i32 123)) rfl (fun _ => rfl) ?_
                    refine T_call 148 232 [.ref 189, .int (i32 123)] [] rfl (fun _ => rfl) rfl (c_need w (mO m [(7, y631), (8, y633), (9, y635), (10, y637), (11, y639), (12, y641), (13, y37), (25, (m.1 25) + 1), (28, (m.1 28)), (64, (m.1 64)), (69, (m.1 69)), (70, (m.1 70)), (71, (m.1 71)), (72, (m.1 72)), (73, (m.1 73)), (74, (m.1 74)), (75, (m.1 75)), (99, (m.1 99)), (100, (m.1 100))] [(14, F39), (15, F41), (16, F43), (17, F45), (46, F96), (47, F97), (48, F98), (49, F99), (50, upI (m.2 50) (m.1 25) 0), (65, (m.2 65)), (66, (m.2 66)), (67, (m.2 67)), (68, (m.2 68)), (76, (m.2 76)), (77, (m.2 77)), (78, (m.2 78)), (79, (m.2 79)), (80, (m.2 80)), (81, (m.2 81)), (82, (m.2 82)), (83, (m.2 83)), (84, (m.2 84)), (85, (m.2 85)), (86, (m.2 86)), (87, (m.2 87)), (88, (m.2 88)), (89, (m.2 89)), (90, (m.2 90)), (91, (m.2 91)), (92, (m.2 92)), (101, (m.2 101)), (102, (m.2 102)), (103, (m.2 103)), (104, (m.2 104)), (105, (m.2 105)), (106, (m.2 106)), (107, (m.2 107)), (108, (m.2 108)), (109, upI (m.2 109) (m.1 25) (m.1 99))]) c N D (by omega) (Ty_mO hT rfl rfl ⟨g632, g634, g636, g638, g640, g642, g38, g58, f28, f64, f69, f70, f71, f72, f73, f74, f75, f99, f100, trivial⟩ ⟨G40, G42, G44, G46, q108, q109, q110, q111, G61, (hT.2.1 65), (hT.2.1 66), (hT.2.1 67), (hT.2.1 68), (hT.2.1 76), (hT.2.1 77), (hT.2.1 78), (hT.2.1 79), (hT.2.1 80), (hT.2.1 81), (hT.2.1 82), (hT.2.1 83), (hT.2.1 84), (hT.2.1 85), (hT.2.1 86), (hT.2.1 87), (hT.2.1 88), (hT.2.1 89), (hT.2.1 90), (hT.2.1 91), (hT.2.1 92), (hT.2.1 101), (hT.2.1 102), (hT.2.1 103), (hT.2.1 104), (hT.2.1 105), (hT.2.1 106), (hT.2.1 107), (hT.2.1 108), G59, trivial⟩) 123 ⟨by decide, by decide⟩ (show 1 ≤ (123 : Int) by omega) (show LxP y631 y633 y635 (m.1 6) y637 by first | exact hLx | (intro h9; exfalso; omega) | (intro h9; have h8 := hLx (by omega); omega))) (fun rr648 k649 => ?_)
                    obtain ⟨y650, y652, y654, y656, y658, y660, g651, g653, g655, g657, g659, g661, h662, h663, h664, h665, rfl⟩ := k649
                    refine ⟨_, _, rfl, ?_⟩
                    refine T_nf (st' := []) (l' := [(7, y650), (8, y652), (9, y654), (10, y656), (11, y658), (12, y660), (13, y37), (25, (m.1 25) + 1), (28, (m.1 28)), (64, (m.1 64)), (69, (m.1 69)), (70, (m.1 70)), (71, (m.1 71)), (72, (m.1 72)), (73, (m.1 73)), (74, (m.1 74)), (75, (m.1 75)), (99, (m.1 99)), (100, (m.1 100))]) (a' := [(14, F39), (15, F41), (16, F43), (17, F45), (46, F96), (47, F97), (48, F98), (49, F99), (50, upI (m.2 50) (m.1 25) 0), (65, (m.2 65)), (66, (m.2 66)), (67, (m.2 67)), (68, (m.2 68)), (76, (m.2 76)), (77, (m.2 77)), (78, (m.2 78)), (79, (m.2 79)), (80, (m.2 80)), (81, (m.2 81)), (82, (m.2 82)), (83, (m.2 83)), (84, (m.2 84)), (85, (m.2 85)), (86, (m.2 86)), (87, (m.2 87)), (88, (m.2 88)), (89, (m.2 89)), (90, (m.2 90)), (91, (m.2 91)), (92, (m.2 92)), (101, (m.2 101)), (102, (m.2 102)), (103, (m.2 103)), (104, (m.2 104)), (105, (m.2 105)), (106, (m.2 106)), (107, (m.2 107)), (108, (m.2 108)), (109, upI (m.2 109) (m.1 25) (m.1 99))]) rfl rfl rfl rfl rfl ?_
                    replace h662 : LxP y650 y652 y654 (m.1 6) y656 := h662
                    replace h663 : y656 = 0 → y637 = 0 ∧ y631 = (123 : Int) := h663
                    replace h664 : y633 ≤ y652 := h664
                    replace h665 : y656 = 0 → y633 + y635 ≤ y652 := h665
                    have hf666 : 1 ≤ y656 := by omega
                    clear h663
                    clear h665
                    have hLx := h662
                    clear g632 g634 g636 g638 g640 g642 hf647 h643 h664
                    refine T_ld 149 (.ref 189) rfl (fun _ => rfl) ?_
                    refine T_ld 150 (.int (i32 (m.1 25))) rfl (fun _ => rfl) ?_
                    refine T_pf (l' := [(7, y650), (8, y652), (9, y654), (10, y656), (11, y658), (12, y660), (13, y37), (25, (m.1 25) + 1), (28, (m.1 28)), (64, (m.1 25)), (69, (m.1 69)), (70, (m.1 70)), (71, (m.1 71)), (72, (m.1 72)), (73, (m.1 73)), (74, (m.1 74)), (75, (m.1 75)), (99, (m.1 99)), (100, (m.1 100))]) 153 (m.1 25) rfl rfl rfl rfl rfl rfl ?_
                    have g667 : (-1) ≤ (m.1 25) ∧ (m.1 25) ≤ 15 := ⟨by omega, by omega⟩
                    refine T_gf 157 (.int (i32 y656)) rfl rfl rfl rfl rfl rfl ?_
                    refine T_if 211 160 rfl rfl rfl (r32 (by omega) (by omega)) (fun (h668 : y656 ≠ 0) => ?_) (fun (h668 : ¬ (y656 ≠ 0)) => by exfalso; omega)
                    refine T_ld 212 (.ref 189) rfl (fun _ => rfl) ?_
                    refine T_ld 213 (.int (i32 (-1))) rfl (fun _ => rfl) ?_
                    refine T_pf (l' := [(7, y650), (8, y652), (9, y654), (10, y656), (11, y658), (12, y660), (13, y37), (25, (m.1 25) + 1), (28, (m.1 28)), (64, (-1)), (69, (m.1 69)), (70, (m.1 70)), (71, (m.1 71)), (72, (m.1 72)), (73, (m.1 73)), (74, (m.1 74)), (75, (m.1 75)), (99, (m.1 99)), (100, (m.1 100))]) 216 (-1) rfl rfl rfl rfl rfl rfl ?_
                    refine T_ld 217 (.ref 189) rfl (fun _ => rfl) ?_
                    refine T_ld 219 (.int (i32 125)) rfl (fun _ => rfl) ?_
                    refine T_call 222 232 [.ref 189, .int (i32 125)] [] rfl (fun _ => rfl) rfl (c_need w (mO m [(7, y650), (8, y652), (9, y654), (10, y656), (11, y658), (12, y660), (13, y37), (25, (m.1 25) + 1), (28, (m.1 28)), (64, (-1)), (69, (m.1 69)), (70, (m.1 70)), (71, (m.1 71)), (72, (m.1 72)), (73, (m.1 73)), (74, (m.1 74)), (75, (m.1 75)), (99, (m.1 99)), (100, (m.1 100))] [(14, F39), (15, F41), (16, F43), (17, F45), (46, F96), (47, F97), (48, F98), (49, F99), (50, upI (m.2 50) (m.1 25) 0), (65, (m.2 65)), (66, (m.2 66)), (67, (m.2 67)), (68, (m.2 68)), (76, (m.2 76)), (77, (m.2 77)), (78, (m.2 78)), (79, (m.2 79)), (80, (m.2 80)), (81, (m.2 81)), (82, (m.2 82)), (83, (m.2 83)), (84, (m.2 84)), (85, (m.2 85)), (86, (m.2 86)), (87, (m.2 87)), (88, (m.2 88)), (89, (m.2 89)), (90, (m.2 90)), (91, (m.2 91)), (92, (m.2 92)), (101, (m.2 101)), (102, (m.2 102)), (103, (m.2 103)), (104, (m.2 104)), (105, (m.2 105)), (106, (m.2 106)), (107, (m.2 107)), (108, (m.2 108)), (109, upI (m.2 109) (m.1 25) (m.1 99))]) c N D (by omega) (Ty_mO hT rfl rfl ⟨g651, g653, g655, g657, g659, g661, g38, g58, f28, ⟨(by omega : ((-1) : Int) ≤ (-1)), (by omega : ((-1) : Int) ≤ 15)⟩, f69, f70, f71, f72, f73, f74, f75, f99, f100, trivial⟩ ⟨G40, G42, G44, G46, q108, q109, q110, q111, G61, (hT.2.1 65), (hT.2.1 66), (hT.2.1 67), (hT.2.1 68), (hT.2.1 76), (hT.2.1 77), (hT.2.1 78), (hT.2.1 79), (hT.2.1 80), (hT.2.1 81), (hT.2.1 82), (hT.2.1 83), (hT.2.1 84), (hT.2.1 85), (hT.2.1 86), (hT.2.1 87), (hT.2.1 88), (hT.2.1 89), (hT.2.1 90), (hT.2.1 91), (hT.2.1 92), (hT.2.1 101), (hT.2.1 102), (hT.2.1 103), (hT.2.1 104), (hT.2.1 105), (hT.2.1 106), (hT.2.1 107), (hT.2.1 108), G59, trivial⟩) 125 ⟨by decide, by decide⟩ (show 1 ≤ (125 : Int) by omega) (show LxP y650 y652 y654 (m.1 6) y656 by first | exact hLx | (intro h9; exfalso; omega) | (intro h9; have h8 := hLx (by omega); omega))) (fun rr669 k670 => ?_)
                    obtain ⟨y671, y673, y675, y677, y679, y681, g672, g674, g676, g678, g680, g682, h683, h684, h685, h686, rfl⟩ := k670
                    refine ⟨_, _, rfl, ?_⟩
                    refine T_nf (st' := []) (l' := [(7, y671), (8, y673), (9, y675), (10, y677), (11, y679), (12, y681), (13, y37), (25, (m.1 25) + 1), (28, (m.1 28)), (64, (-1)), (69, (m.1 69)), (70, (m.1 70)), (71, (m.1 71)), (72, (m.1 72)), (73, (m.1 73)), (74, (m.1 74)), (75, (m.1 75)), (99, (m.1 99)), (100, (m.1 100))]) (a' := [(14, F39), (15, F41), (16, F43), (17, F45), (46, F96), (47, F97), (48, F98), (49, F99), (50, upI (m.2 50) (m.1 25) 0), (65, (m.2 65)), (66, (m.2 66)), (67, (m.2 67)), (68, (m.2 68)), (76, (m.2 76)), (77, (m.2 77)), (78, (m.2 78)), (79, (m.2 79)), (80, (m.2 80)), (81, (m.2 81)), (82, (m.2 82)), (83, (m.2 83)), (84, (m.2 84)), (85, (m.2 85)), (86, (m.2 86)), (87, (m.2 87)), (88, (m.2 88)), (89, (m.2 89)), (90, (m.2 90)), (91, (m.2 91)), (92, (m.2 92)), (101, (m.2 101)), (102, (m.2 102)), (103, (m.2 103)), (104, (m.2 104)), (105, (m.2 105)), (106, (m.2 106)), (107, (m.2 107)), (108, (m.2 108)), (109, upI (m.2 109) (m.1 25) (m.1 99))]) rfl rfl rfl rfl rfl ?_
                    replace h683 : LxP y671 y673 y675 (m.1 6) y677 := h683
                    replace h684 : y677 = 0 → y656 = 0 ∧ y650 = (125 : Int) := h684
                    replace h685 : y652 ≤ y673 := h685
                    replace h686 : y677 = 0 → y652 + y654 ≤ y673 := h686
                    have hf687 : 1 ≤ y677 := by omega
                    clear h684
                    clear h686
                    have hLx := h683
                    clear g651 g653 g655 g657 g659 g661 hf666 h662 h668 h685
                    refine T_ret rfl (fun _ => rfl) ?_
                    exact ⟨y671, y673, y675, y677, y679, y681, y37, (m.1 25) + 1, (m.1 28), (-1), (m.1 69), (m.1 70), (m.1 71), (m.1 72), (m.1 73), (m.1 74), (m.1 75), (m.1 99), (m.1 100), F39, F41, F43, F45, F96, F97, F98, F99, upI (m.2 50) (m.1 25) 0, (m.2 65), (m.2 66), (m.2 67), (m.2 68), (m.2 76), (m.2 77), (m.2 78), (m.2 79), (m.2 80), (m.2 81), (m.2 82), (m.2 83), (m.2 84), (m.2 85), (m.2 86), (m.2 87), (m.2 88), (m.2 89), (m.2 90), (m.2 91), (m.2 92), (m.2 101), (m.2 102), (m.2 103), (m.2 104), (m.2 105), (m.2 106), (m.2 107), (m.2 108), upI (m.2 109) (m.1 25) (m.1 99), g672, g674, g676, g678, g680, g682, g38, g58, f28, ⟨by omega, by omega⟩, f69, f70, f71, f72, f73, f74, f75, f99, f100, G40, G42, G44, G46, q108, q109, q110, q111, G61, (hT.2.1 65), (hT.2.1 66), (hT.2.1 67), (hT.2.1 68), (hT.2.1 76), (hT.2.1 77), (hT.2.1 78), (hT.2.1 79), (hT.2.1 80), (hT.2.1 81), (hT.2.1 82), (hT.2.1 83), (hT.2.1 84), (hT.2.1 85), (hT.2.1 86), (hT.2.1 87), (hT.2.1 88), (hT.2.1 89), (hT.2.1 90), (hT.2.1 91), (hT.2.1 92), (hT.2.1 101), (hT.2.1 102), (hT.2.1 103), (hT.2.1 104), (hT.2.1 105), (hT.2.1 106), (hT.2.1 107), (hT.2.1 108), G59, (by omega), (by first | (first | exact hLx | (intro h9; exfalso; omega)) | (exfalso; omega)), (by first | (exact hNM) | (exfalso; omega)), (by first | (exact hPA) | (exfalso; omega)), (fun h => absurd h (by omega)), rfl⟩
            refine Tm_lv (a := [(0, .ref 189), (1, .int (i32 (m.1 25))), (2, .int (i32 s83))]) rfl rfl ⟨rfl, rfl, rfl, trivial⟩ ?_
            exact L87_100 ((1000000 * (8 - (0 : Int)) + 2 * (4000 - y66) + s83 : Int) + 1).toNat s83 y64 y66 y68 0 y72 y74 (upI (m.2 46) (m.1 25) 0) (m.2 47) (m.2 48) (m.2 49) (r32 (by omega) (by omega)) g65 g67 g69 ⟨by omega, by omega⟩ g73 g75 G60 (hT.2.1 47) (hT.2.1 48) (hT.2.1 49) (by omega) (by omega) (by exact hLx) (by exact hPA) (by omega) (fun _ => (by omega)) (by omega)
          refine T_icmp 85 81 rfl rfl rfl (r32 (by omega) (by omega)) ⟨by decide, by decide⟩ (fun (h688 : y64 = 41) => ?_) (fun (h688 : ¬ (y64 = 41)) => ?_)
          · skip
            refine T_ld 86 (.int (i32 0)) rfl (fun _ => rfl) ?_
            refine Tm_lv (a := [(0, .ref 189), (1, .int (i32 (m.1 25)))]) rfl rfl ⟨rfl, rfl, trivial⟩ ?_
            exact J86_84 0 ⟨by decide, by decide⟩ (by omega) (by omega)
          · skip
            refine T_ld 82 (.int (i32 1)) rfl (fun _ => rfl) ?_
            refine T_goto 86 rfl (fun _ => rfl) ?_
            refine Tm_lv (a := [(0, .ref 189), (1, .int (i32 (m.1 25)))]) rfl rfl ⟨rfl, rfl, trivial⟩ ?_
            exact J86_84 1 ⟨by decide, by decide⟩ (by omega) (by omega)
        · skip
          replace h76 : LxP y64 y66 y68 (m.1 6) y70 := h76
          have hLx := h76
          clear h77
          replace h78 : y27 ≤ y66 := h78
          clear h79
          have hf689 : 1 ≤ y70 := by omega
          clear g26 g28 g30 g34 g36 g47a g47b h48 h52 u56 h57 h78
          refine T_gf 69 (.int (i32 y70)) rfl rfl rfl rfl rfl rfl ?_
          refine T_if 85 72 rfl rfl rfl (r32 (by omega) (by omega)) (fun (h690 : y70 ≠ 0) => ?_) (fun (h690 : ¬ (y70 ≠ 0)) => by exfalso; omega)
          refine T_ld 86 (.int (i32 0)) rfl (fun _ => rfl) ?_
          refine T_sto 87 [(2, .int (i32 0)), (1, .int (i32 (m.1 25))), (0, .ref 189)] rfl (fun _ => rfl) ?_
          refine T_ld 88 (.int (i32 0)) rfl (fun _ => rfl) ?_
          refine T_if 136 91 rfl rfl rfl ⟨by decide, by decide⟩ (fun _ => ?_) (fun h691 => absurd (show (0 : Int) = 0 by decide) h691)
          refine T_ld 137 (.ref 189) rfl (fun _ => rfl) ?_
          refine T_ld 139 (.int (i32 41)) rfl (fun _ => rfl) ?_
          refine T_call 142 232 [.ref 189, .int (i32 41)] [] rfl (fun _ => rfl) rfl (c_need w (mO m [(7, y64), (8, y66), (9, y68), (10, y70), (11, y72), (12, y74), (13, y37), (25, (m.1 25) + 1), (28, (m.1 28)), (64, (m.1 64)), (69, (m.1 69)), (70, (m.1 70)), (71, (m.1 71)), (72, (m.1 72)), (73, (m.1 73)), (74, (m.1 74)), (75, (m.1 75)), (99, (m.1 99)), (100, (m.1 100))] [(14, F39), (15, F41), (16, F43), (17, F45), (46, upI (m.2 46) (m.1 25) 0), (47, (m.2 47)), (48, (m.2 48)), (49, (m.2 49)), (50, upI (m.2 50) (m.1 25) 0), (65, (m.2 65)), (66, (m.2 66)), (67, (m.2 67)), (68, (m.2 68)), (76, (m.2 76)), (77, (m.2 77)), (78, (m.2 78)), (79, (m.2 79)), (80, (m.2 80)), (81, (m.2 81)), (82, (m.2 82)), (83, (m.2 83)), (84, (m.2 84)), (85, (m.2 85)), (86, (m.2 86)), (87, (m.2 87)), (88, (m.2 88)), (89, (m.2 89)), (90, (m.2 90)), (91, (m.2 91)), (92, (m.2 92)), (101, (m.2 101)), (102, (m.2 102)), (103, (m.2 103)), (104, (m.2 104)), (105, (m.2 105)), (106, (m.2 106)), (107, (m.2 107)), (108, (m.2 108)), (109, upI (m.2 109) (m.1 25) (m.1 99))]) c N D (by omega) (Ty_mO hT rfl rfl ⟨g65, g67, g69, g71, g73, g75, g38, g58, f28, f64, f69, f70, f71, f72, f73, f74, f75, f99, f100, trivial⟩ ⟨G40, G42, G44, G46, G60, (hT.2.1 47), (hT.2.1 48), (hT.2.1 49), G61, (hT.2.1 65), (hT.2.1 66), (hT.2.1 67), (hT.2.1 68), (hT.2.1 76), (hT.2.1 77), (hT.2.1 78), (hT.2.1 79), (hT.2.1 80), (hT.2.1 81), (hT.2.1 82), (hT.2.1 83), (hT.2.1 84), (hT.2.1 85), (hT.2.1 86), (hT.2.1 87), (hT.2.1 88), (hT.2.1 89), (hT.2.1 90), (hT.2.1 91), (hT.2.1 92), (hT.2.1 101), (hT.2.1 102), (hT.2.1 103), (hT.2.1 104), (hT.2.1 105), (hT.2.1 106), (hT.2.1 107), (hT.2.1 108), G59, trivial⟩) 41 ⟨by decide, by decide⟩ (show 1 ≤ (41 : Int) by omega) (show LxP y64 y66 y68 (m.1 6) y70 by first | exact hLx | (intro h9; exfalso; omega) | (intro h9; have h8 := hLx (by omega); omega))) (fun rr692 k693 => ?_)
          obtain ⟨y694, y696, y698, y700, y702, y704, g695, g697, g699, g701, g703, g705, h706, h707, h708, h709, rfl⟩ := k693
          refine ⟨_, _, rfl, ?_⟩
          refine T_nf (st' := []) (l' := [(7, y694), (8, y696), (9, y698), (10, y700), (11, y702), (12, y704), (13, y37), (25, (m.1 25) + 1), (28, (m.1 28)), (64, (m.1 64)), (69, (m.1 69)), (70, (m.1 70)), (71, (m.1 71)), (72, (m.1 72)), (73, (m.1 73)), (74, (m.1 74)), (75, (m.1 75)), (99, (m.1 99)), (100, (m.1 100))]) (a' := [(14, F39), (15, F41), (16, F43), (17, F45), (46, upI (m.2 46) (m.1 25) 0), (47, (m.2 47)), (48, (m.2 48)), (49, (m.2 49)), (50, upI (m.2 50) (m.1 25) 0), (65, (m.2 65)), (66, (m.2 66)), (67, (m.2 67)), (68, (m.2 68)), (76, (m.2 76)), (77, (m.2 77)), (78, (m.2 78)), (79, (m.2 79)), (80, (m.2 80)), (81, (m.2 81)), (82, (m.2 82)), (83, (m.2 83)), (84, (m.2 84)), (85, (m.2 85)), (86, (m.2 86)), (87, (m.2 87)), (88, (m.2 88)), (89, (m.2 89)), (90, (m.2 90)), (91, (m.2 91)), (92, (m.2 92)), (101, (m.2 101)), (102, (m.2 102)), (103, (m.2 103)), (104, (m.2 104)), (105, (m.2 105)), (106, (m.2 106)), (107, (m.2 107)), (108, (m.2 108)), (109, upI (m.2 109) (m.1 25) (m.1 99))]) rfl rfl rfl rfl rfl ?_
          replace h706 : LxP y694 y696 y698 (m.1 6) y700 := h706
          replace h707 : y700 = 0 → y70 = 0 ∧ y64 = (41 : Int) := h707
          replace h708 : y66 ≤ y696 := h708
          replace h709 : y700 = 0 → y66 + y68 ≤ y696 := h709
          have hf710 : 1 ≤ y700 := by omega
          clear h707
          clear h709
          have hLx := h706
          clear g65 g67 g69 g71 g73 g75 h76 hf689 h690 h708
          refine T_ld 143 (.ref 189) rfl (fun _ => rfl) ?_
          refine T_ld 145 (.int (i32 123)) rfl (fun _ => rfl) ?_
          refine T_call 148 232 [.ref 189, .int (i32 123)] [] rfl (fun _ => rfl) rfl (c_need w (mO m [(7, y694), (8, y696), (9, y698), (10, y700), (11, y702), (12, y704), (13, y37), (25, (m.1 25) + 1), (28, (m.1 28)), (64, (m.1 64)), (69, (m.1 69)), (70, (m.1 70)), (71, (m.1 71)), (72, (m.1 72)), (73, (m.1 73)), (74, (m.1 74)), (75, (m.1 75)), (99, (m.1 99)), (100, (m.1 100))] [(14, F39), (15, F41), (16, F43), (17, F45), (46, upI (m.2 46) (m.1 25) 0), (47, (m.2 47)), (48, (m.2 48)), (49, (m.2 49)), (50, upI (m.2 50) (m.1 25) 0), (65, (m.2 65)), (66, (m.2 66)), (67, (m.2 67)), (68, (m.2 68)), (76, (m.2 76)), (77, (m.2 77)), (78, (m.2 78)), (79, (m.2 79)), (80, (m.2 80)), (81, (m.2 81)), (82, (m.2 82)), (83, (m.2 83)), (84, (m.2 84)), (85, (m.2 85)), (86, (m.2 86)), (87, (m.2 87)), (88, (m.2 88)), (89, (m.2 89)), (90, (m.2 90)), (91, (m.2 91)), (92, (m.2 92)), (101, (m.2 101)), (102, (m.2 102)), (103, (m.2 103)), (104, (m.2 104)), (105, (m.2 105)), (106, (m.2 106)), (107, (m.2 107)), (108, (m.2 108)), (109, upI (m.2 109) (m.1 25) (m.1 99))]) c N D (by omega) (Ty_mO hT rfl rfl ⟨g695, g697, g699, g701, g703, g705, g38, g58, f28, f64, f69, f70, f71, f72, f73, f74, f75, f99, f100, trivial⟩ ⟨G40, G42, G44, G46, G60, (hT.2.1 47), (hT.2.1 48), (hT.2.1 49), G61, (hT.2.1 65), (hT.2.1 66), (hT.2.1 67), (hT.2.1 68), (hT.2.1 76), (hT.2.1 77), (hT.2.1 78), (hT.2.1 79), (hT.2.1 80), (hT.2.1 81), (hT.2.1 82), (hT.2.1 83), (hT.2.1 84), (hT.2.1 85), (hT.2.1 86), (hT.2.1 87), (hT.2.1 88), (hT.2.1 89), (hT.2.1 90), (hT.2.1 91), (hT.2.1 92), (hT.2.1 101), (hT.2.1 102), (hT.2.1 103), (hT.2.1 104), (hT.2.1 105), (hT.2.1 106), (hT.2.1 107), (hT.2.1 108), G59, trivial⟩) 123 ⟨by decide, by decide⟩ (show 1 ≤ (123 : Int) by omega) (show LxP y694 y696 y698 (m.1 6) y700 by first | exact hLx | (intro h9; exfalso; omega) | (intro h9; have h8 := hLx (by omega); omega))) (fun rr711 k712 => ?_)
          obtain ⟨y713, y715, y717, y719, y721, y723, g714, g716, g718, g720, g722, g724, h725, h726, h727, h728, rfl⟩ := k712
          refine ⟨_, _, rfl, ?_⟩
          refine T_nf (st' := []) (l' := [(7, y713), (8, y715), (9, y717), (10, y719), (11, y721), (12, y723), (13, y37), (25, (m.1 25) + 1), (28, (m.1 28)), (64, (m.1 64)), (69, (m.1 69)), (70, (m.1 70)), (71, (m.1 71)), (72, (m.1 72)), (73, (m.1 73)), (74, (m.1 74)), (75, (m.1 75)), (99, (m.1 99)), (100, (m.1 100))]) (a' := [(14, F39), (15, F41), (16, F43), (17, F45), (46, upI (m.2 46) (m.1 25) 0), (47, (m.2 47)), (48, (m.2 48)), (49, (m.2 49)), (50, upI (m.2 50) (m.1 25) 0), (65, (m.2 65)), (66, (m.2 66)), (67, (m.2 67)), (68, (m.2 68)), (76, (m.2 76)), (77, (m.2 77)), (78, (m.2 78)), (79, (m.2 79)), (80, (m.2 80)), (81, (m.2 81)), (82, (m.2 82)), (83, (m.2 83)), (84, (m.2 84)), (85, (m.2 85)), (86, (m.2 86)), (87, (m.2 87)), (88, (m.2 88)), (89, (m.2 89)), (90, (m.2 90)), (91, (m.2 91)), (92, (m.2 92)), (101, (m.2 101)), (102, (m.2 102)), (103, (m.2 103)), (104, (m.2 104)), (105, (m.2 105)), (106, (m.2 106)), (107, (m.2 107)), (108, (m.2 108)), (109, upI (m.2 109) (m.1 25) (m.1 99))]) rfl rfl rfl rfl rfl ?_
          replace h725 : LxP y713 y715 y717 (m.1 6) y719 := h725
          replace h726 : y719 = 0 → y700 = 0 ∧ y694 = (123 : Int) := h726
          replace h727 : y696 ≤ y715 := h727
          replace h728 : y719 = 0 → y696 + y698 ≤ y715 := h728
          have hf729 : 1 ≤ y719 := by omega
          clear h726
          clear h728
          have hLx := h725
          clear g695 g697 g699 g701 g703 g705 hf710 h706 h727
          refine T_ld 149 (.ref 189) rfl (fun _ => rfl) ?_
          refine T_ld 150 (.int (i32 (m.1 25))) rfl (fun _ => rfl) ?_
          refine T_pf (l' := [(7, y713), (8, y715), (9, y717), (10, y719), (11, y721), (12, y723), (13, y37), (25, (m.1 25) + 1), (28, (m.1 28)), (64, (m.1 25)), (69, (m.1 69)), (70, (m.1 70)), (71, (m.1 71)), (72, (m.1 72)), (73, (m.1 73)), (74, (m.1 74)), (75, (m.1 75)), (99, (m.1 99)), (100, (m.1 100))]) 153 (m.1 25) rfl rfl rfl rfl rfl rfl ?_
          have g730 : (-1) ≤ (m.1 25) ∧ (m.1 25) ≤ 15 := ⟨by omega, by omega⟩
          refine T_gf 157 (.int (i32 y719)) rfl rfl rfl rfl rfl rfl ?_
          refine T_if 211 160 rfl rfl rfl (r32 (by omega) (by omega)) (fun (h731 : y719 ≠ 0) => ?_) (fun (h731 : ¬ (y719 ≠ 0)) => by exfalso; omega)
          refine T_ld 212 (.ref 189) rfl (fun _ => rfl) ?_
          refine T_ld 213 (.int (i32 (-1))) rfl (fun _ => rfl) ?_
          refine T_pf (l' := [(7, y713), (8, y715), (9, y717), (10, y719), (11, y721), (12, y723), (13, y37), (25, (m.1 25) + 1), (28, (m.1 28)), (64, (-1)), (69, (m.1 69)), (70, (m.1 70)), (71, (m.1 71)), (72, (m.1 72)), (73, (m.1 73)), (74, (m.1 74)), (75, (m.1 75)), (99, (m.1 99)), (100, (m.1 100))]) 216 (-1) rfl rfl rfl rfl rfl rfl ?_
          refine T_ld 217 (.ref 189) rfl (fun _ => rfl) ?_
          refine T_ld 219 (.int (i32 125)) rfl (fun _ => rfl) ?_
          refine T_call 222 232 [.ref 189, .int (i32 125)] [] rfl (fun _ => rfl) rfl (c_need w (mO m [(7, y713), (8, y715), (9, y717), (10, y719), (11, y721), (12, y723), (13, y37), (25, (m.1 25) + 1), (28, (m.1 28)), (64, (-1)), (69, (m.1 69)), (70, (m.1 70)), (71, (m.1 71)), (72, (m.1 72)), (73, (m.1 73)), (74, (m.1 74)), (75, (m.1 75)), (99, (m.1 99)), (100, (m.1 100))] [(14, F39), (15, F41), (16, F43), (17, F45), (46, upI (m.2 46) (m.1 25) 0), (47, (m.2 47)), (48, (m.2 48)), (49, (m.2 49)), (50, upI (m.2 50) (m.1 25) 0), (65, (m.2 65)), (66, (m.2 66)), (67, (m.2 67)), (68, (m.2 68)), (76, (m.2 76)), (77, (m.2 77)), (78, (m.2 78)), (79, (m.2 79)), (80, (m.2 80)), (81, (m.2 81)), (82, (m.2 82)), (83, (m.2 83)), (84, (m.2 84)), (85, (m.2 85)), (86, (m.2 86)), (87, (m.2 87)), (88, (m.2 88)), (89, (m.2 89)), (90, (m.2 90)), (91, (m.2 91)), (92, (m.2 92)), (101, (m.2 101)), (102, (m.2 102)), (103, (m.2 103)), (104, (m.2 104)), (105, (m.2 105)), (106, (m.2 106)), (107, (m.2 107)), (108, (m.2 108)), (109, upI (m.2 109) (m.1 25) (m.1 99))]) c N D (by omega) (Ty_mO hT rfl rfl ⟨g714, g716, g718, g720, g722, g724, g38, g58, f28, ⟨(by omega : ((-1) : Int) ≤ (-1)), (by omega : ((-1) : Int) ≤ 15)⟩, f69, f70, f71, f72, f73, f74, f75, f99, f100, trivial⟩ ⟨G40, G42, G44, G46, G60, (hT.2.1 47), (hT.2.1 48), (hT.2.1 49), G61, (hT.2.1 65), (hT.2.1 66), (hT.2.1 67), (hT.2.1 68), (hT.2.1 76), (hT.2.1 77), (hT.2.1 78), (hT.2.1 79), (hT.2.1 80), (hT.2.1 81), (hT.2.1 82), (hT.2.1 83), (hT.2.1 84), (hT.2.1 85), (hT.2.1 86), (hT.2.1 87), (hT.2.1 88), (hT.2.1 89), (hT.2.1 90), (hT.2.1 91), (hT.2.1 92), (hT.2.1 101), (hT.2.1 102), (hT.2.1 103), (hT.2.1 104), (hT.2.1 105), (hT.2.1 106), (hT.2.1 107), (hT.2.1 108), G59, trivial⟩) 125 ⟨by decide, by decide⟩ (show 1 ≤ (125 : Int) by omega) (show LxP y713 y715 y717 (m.1 6) y719 by first | exact hLx | (intro h9; exfalso; omega) | (intro h9; have h8 := hLx (by omega); omega))) (fun rr732 k733 => ?_)
          obtain ⟨y734, y736, y738, y740, y742, y744, g735, g737, g739, g741, g743, g745, h746, h747, h748, h749, rfl⟩ := k733
          refine ⟨_, _, rfl, ?_⟩
          refine T_nf (st' := []) (l' := [(7, y734), (8, y736), (9, y738), (10, y740), (11, y742), (12, y744), (13, y37), (25, (m.1 25) + 1), (28, (m.1 28)), (64, (-1)), (69, (m.1 69)), (70, (m.1 70)), (71, (m.1 71)), (72, (m.1 72)), (73, (m.1 73)), (74, (m.1 74)), (75, (m.1 75)), (99, (m.1 99)), (100, (m.1 100))]) (a' := [(14, F39), (15, F41), (16, F43), (17, F45), (46, upI (m.2 46) (m.1 25) 0), (47, (m.2 47)), (48, (m.2 48)), (49, (m.2 49)), (50, upI (m.2 50) (m.1 25) 0), (65, (m.2 65)), (66, (m.2 66)), (67, (m.2 67)), (68, (m.2 68)), (76, (m.2 76)), (77, (m.2 77)), (78, (m.2 78)), (79, (m.2 79)), (80, (m.2 80)), (81, (m.2 81)), (82, (m.2 82)), (83, (m.2 83)), (84, (m.2 84)), (85, (m.2 85)), (86, (m.2 86)), (87, (m.2 87)), (88, (m.2 88)), (89, (m.2 89)), (90, (m.2 90)), (91, (m.2 91)), (92, (m.2 92)), (101, (m.2 101)), (102, (m.2 102)), (103, (m.2 103)), (104, (m.2 104)), (105, (m.2 105)), (106, (m.2 106)), (107, (m.2 107)), (108, (m.2 108)), (109, upI (m.2 109) (m.1 25) (m.1 99))]) rfl rfl rfl rfl rfl ?_
          replace h746 : LxP y734 y736 y738 (m.1 6) y740 := h746
          replace h747 : y740 = 0 → y719 = 0 ∧ y713 = (125 : Int) := h747
          replace h748 : y715 ≤ y736 := h748
          replace h749 : y740 = 0 → y715 + y717 ≤ y736 := h749
          have hf750 : 1 ≤ y740 := by omega
          clear h747
          clear h749
          have hLx := h746
          clear g714 g716 g718 g720 g722 g724 hf729 h725 h731 h748
          refine T_ret rfl (fun _ => rfl) ?_
          exact ⟨y734, y736, y738, y740, y742, y744, y37, (m.1 25) + 1, (m.1 28), (-1), (m.1 69), (m.1 70), (m.1 71), (m.1 72), (m.1 73), (m.1 74), (m.1 75), (m.1 99), (m.1 100), F39, F41, F43, F45, upI (m.2 46) (m.1 25) 0, (m.2 47), (m.2 48), (m.2 49), upI (m.2 50) (m.1 25) 0, (m.2 65), (m.2 66), (m.2 67), (m.2 68), (m.2 76), (m.2 77), (m.2 78), (m.2 79), (m.2 80), (m.2 81), (m.2 82), (m.2 83), (m.2 84), (m.2 85), (m.2 86), (m.2 87), (m.2 88), (m.2 89), (m.2 90), (m.2 91), (m.2 92), (m.2 101), (m.2 102), (m.2 103), (m.2 104), (m.2 105), (m.2 106), (m.2 107), (m.2 108), upI (m.2 109) (m.1 25) (m.1 99), g735, g737, g739, g741, g743, g745, g38, g58, f28, ⟨by omega, by omega⟩, f69, f70, f71, f72, f73, f74, f75, f99, f100, G40, G42, G44, G46, G60, (hT.2.1 47), (hT.2.1 48), (hT.2.1 49), G61, (hT.2.1 65), (hT.2.1 66), (hT.2.1 67), (hT.2.1 68), (hT.2.1 76), (hT.2.1 77), (hT.2.1 78), (hT.2.1 79), (hT.2.1 80), (hT.2.1 81), (hT.2.1 82), (hT.2.1 83), (hT.2.1 84), (hT.2.1 85), (hT.2.1 86), (hT.2.1 87), (hT.2.1 88), (hT.2.1 89), (hT.2.1 90), (hT.2.1 91), (hT.2.1 92), (hT.2.1 101), (hT.2.1 102), (hT.2.1 103), (hT.2.1 104), (hT.2.1 105), (hT.2.1 106), (hT.2.1 107), (hT.2.1 108), G59, (by omega), (by first | (first | exact hLx | (intro h9; exfalso; omega)) | (exfalso; omega)), (by first | (exact hNM) | (exfalso; omega)), (by first | (exact hPA) | (exfalso; omega)), (fun h => absurd h (by omega)), rfl⟩
      · skip
        replace h48 : LxP y25 y27 y29 (m.1 6) y31 := h48
        have hLx := h48
        replace h49 : y7 ≤ y27 := h49
        clear h50
        clear h51
        replace h52 : nn = 1 → (m.1 25) ≠ (16 : Int) := h52
        replace h53 : ∀ k, F39 k + F41 k ≤ 4000 := h53
        have hNM := h53
        replace h54 : (nn = 1 ∧ (0 : Int) = 0 ∧ y37 = (m.1 13) + 1 ∧ F39 = upI (m.2 14) (m.1 13) y7 ∧ F41 = upI (m.2 15) (m.1 13) y9 ∧ F43 = upI (m.2 16) (m.1 13) (6 : Int) ∧ F45 = upI (m.2 17) (m.1 13) (m.1 25)) ∨ (nn = 0 ∧ 0 < y31 ∧ y37 = (m.1 13) ∧ F39 = (m.2 14) ∧ F41 = (m.2 15) ∧ F43 = (m.2 16) ∧ F45 = (m.2 17)) := h54
        have hN := h54
        have hf751 : 1 ≤ y31 := by omega
        clear g6 g8 g10 g14 g16 h17 h19 h20 u22 h49 h54
        refine T_if 20 19 rfl rfl rfl (r32 (by omega) (by omega)) (fun (h752 : nn ≠ 0) => ?_) (fun (h752 : ¬ (nn ≠ 0)) => ?_)
        · skip
          refine T_gf 24 (.int (i32 (m.1 25))) rfl rfl rfl rfl rfl rfl ?_
          refine T_sto 25 [(1, .int (i32 (m.1 25))), (0, .ref 189)] rfl (fun _ => rfl) ?_
          refine T_ld 26 (.ref 189) rfl (fun _ => rfl) ?_
          refine T_ld 27 (.ref 189) rfl (fun _ => rfl) ?_
          refine T_gf1 30 (.int (i32 (m.1 25))) rfl rfl rfl rfl ?_
          refine T_ld 31 (.int (i32 1)) rfl (fun _ => rfl) ?_
          refine T_iadd 32 rfl rfl ?_
          refine T_pf (l' := [(7, y25), (8, y27), (9, y29), (10, y31), (11, y33), (12, y35), (13, y37), (25, (m.1 25) + 1), (28, (m.1 28)), (64, (m.1 64)), (69, (m.1 69)), (70, (m.1 70)), (71, (m.1 71)), (72, (m.1 72)), (73, (m.1 73)), (74, (m.1 74)), (75, (m.1 75)), (99, (m.1 99)), (100, (m.1 100))]) 35 ((m.1 25) + 1) rfl rfl rfl rfl rfl rfl ?_
          have g753 : 0 ≤ (m.1 25) + 1 ∧ (m.1 25) + 1 ≤ 16 := ⟨by omega, by omega⟩
          refine T_gf 39 (.ref 269) rfl rfl rfl rfl rfl rfl ?_
          refine T_ld 40 (.int (i32 (m.1 25))) rfl (fun _ => rfl) ?_
          refine T_gf 44 (.int (i32 (m.1 99))) rfl rfl rfl rfl rfl rfl ?_
          have G754 : ∀ j, 0 ≤ (upI (m.2 109) (m.1 25) (m.1 99)) j ∧ (upI (m.2 109) (m.1 25) (m.1 99)) j ≤ 192 := upI_rg (hT.2.1 109) ⟨by omega, by omega⟩
          refine T_iast (a' := [(14, F39), (15, F41), (16, F43), (17, F45), (46, (m.2 46)), (47, (m.2 47)), (48, (m.2 48)), (49, (m.2 49)), (50, (m.2 50)), (65, (m.2 65)), (66, (m.2 66)), (67, (m.2 67)), (68, (m.2 68)), (76, (m.2 76)), (77, (m.2 77)), (78, (m.2 78)), (79, (m.2 79)), (80, (m.2 80)), (81, (m.2 81)), (82, (m.2 82)), (83, (m.2 83)), (84, (m.2 84)), (85, (m.2 85)), (86, (m.2 86)), (87, (m.2 87)), (88, (m.2 88)), (89, (m.2 89)), (90, (m.2 90)), (91, (m.2 91)), (92, (m.2 92)), (101, (m.2 101)), (102, (m.2 102)), (103, (m.2 103)), (104, (m.2 104)), (105, (m.2 105)), (106, (m.2 106)), (107, (m.2 107)), (108, (m.2 108)), (109, upI (m.2 109) (m.1 25) (m.1 99))]) 45 109 (m.2 109) rfl rfl rfl (by omega) (show (m.1 25) < (16 : Int) by omega) rfl rfl ?_
          refine T_gf 49 (.ref 216) rfl rfl rfl rfl rfl rfl ?_
          refine T_ld 50 (.int (i32 (m.1 25))) rfl (fun _ => rfl) ?_
          refine T_ld 51 (.int (i32 0)) rfl (fun _ => rfl) ?_
          have G755 : ∀ j, 0 ≤ (upI (m.2 46) (m.1 25) 0) j ∧ (upI (m.2 46) (m.1 25) 0) j ≤ 4 := upI_rg (hT.2.1 46) ⟨by omega, by omega⟩
          refine T_iast (a' := [(14, F39), (15, F41), (16, F43), (17, F45), (46, upI (m.2 46) (m.1 25) 0), (47, (m.2 47)), (48, (m.2 48)), (49, (m.2 49)), (50, (m.2 50)), (65, (m.2 65)), (66, (m.2 66)), (67, (m.2 67)), (68, (m.2 68)), (76, (m.2 76)), (77, (m.2 77)), (78, (m.2 78)), (79, (m.2 79)), (80, (m.2 80)), (81, (m.2 81)), (82, (m.2 82)), (83, (m.2 83)), (84, (m.2 84)), (85, (m.2 85)), (86, (m.2 86)), (87, (m.2 87)), (88, (m.2 88)), (89, (m.2 89)), (90, (m.2 90)), (91, (m.2 91)), (92, (m.2 92)), (101, (m.2 101)), (102, (m.2 102)), (103, (m.2 103)), (104, (m.2 104)), (105, (m.2 105)), (106, (m.2 106)), (107, (m.2 107)), (108, (m.2 108)), (109, upI (m.2 109) (m.1 25) (m.1 99))]) 52 46 (m.2 46) rfl rfl rfl (by omega) (show (m.1 25) < (16 : Int) by omega) rfl rfl ?_
          refine T_gf 56 (.ref 220) rfl rfl rfl rfl rfl rfl ?_
          refine T_ld 57 (.int (i32 (m.1 25))) rfl (fun _ => rfl) ?_
          refine T_ld 58 (.int (i32 0)) rfl (fun _ => rfl) ?_
          have G756 : ∀ j, 0 ≤ (upI (m.2 50) (m.1 25) 0) j ∧ (upI (m.2 50) (m.1 25) 0) j ≤ 13 := upI_rg (hT.2.1 50) ⟨by omega, by omega⟩
          refine T_iast (a' := [(14, F39), (15, F41), (16, F43), (17, F45), (46, upI (m.2 46) (m.1 25) 0), (47, (m.2 47)), (48, (m.2 48)), (49, (m.2 49)), (50, upI (m.2 50) (m.1 25) 0), (65, (m.2 65)), (66, (m.2 66)), (67, (m.2 67)), (68, (m.2 68)), (76, (m.2 76)), (77, (m.2 77)), (78, (m.2 78)), (79, (m.2 79)), (80, (m.2 80)), (81, (m.2 81)), (82, (m.2 82)), (83, (m.2 83)), (84, (m.2 84)), (85, (m.2 85)), (86, (m.2 86)), (87, (m.2 87)), (88, (m.2 88)), (89, (m.2 89)), (90, (m.2 90)), (91, (m.2 91)), (92, (m.2 92)), (101, (m.2 101)), (102, (m.2 102)), (103, (m.2 103)), (104, (m.2 104)), (105, (m.2 105)), (106, (m.2 106)), (107, (m.2 107)), (108, (m.2 108)), (109, upI (m.2 109) (m.1 25) (m.1 99))]) 59 50 (m.2 50) rfl rfl rfl (by omega) (show (m.1 25) < (16 : Int) by omega) rfl rfl ?_
          refine T_ld 60 (.ref 189) rfl (fun _ => rfl) ?_
          refine T_ld 62 (.int (i32 40)) rfl (fun _ => rfl) ?_
          refine T_call 65 232 [.ref 189, .int (i32 40)] [] rfl (fun _ => rfl) rfl (c_need w (mO m [(7, y25), (8, y27), (9, y29), (10, y31), (11, y33), (12, y35), (13, y37), (25, (m.1 25) + 1), (28, (m.1 28)), (64, (m.1 64)), (69, (m.1 69)), (70, (m.1 70)), (71, (m.1 71)), (72, (m.1 72)), (73, (m.1 73)), (74, (m.1 74)), (75, (m.1 75)), (99, (m.1 99)), (100, (m.1 100))] [(14, F39), (15, F41), (16, F43), (17, F45), (46, upI (m.2 46) (m.1 25) 0), (47, (m.2 47)), (48, (m.2 48)), (49, (m.2 49)), (50, upI (m.2 50) (m.1 25) 0), (65, (m.2 65)), (66, (m.2 66)), (67, (m.2 67)), (68, (m.2 68)), (76, (m.2 76)), (77, (m.2 77)), (78, (m.2 78)), (79, (m.2 79)), (80, (m.2 80)), (81, (m.2 81)), (82, (m.2 82)), (83, (m.2 83)), (84, (m.2 84)), (85, (m.2 85)), (86, (m.2 86)), (87, (m.2 87)), (88, (m.2 88)), (89, (m.2 89)), (90, (m.2 90)), (91, (m.2 91)), (92, (m.2 92)), (101, (m.2 101)), (102, (m.2 102)), (103, (m.2 103)), (104, (m.2 104)), (105, (m.2 105)), (106, (m.2 106)), (107, (m.2 107)), (108, (m.2 108)), (109, upI (m.2 109) (m.1 25) (m.1 99))]) c N D (by omega) (Ty_mO hT rfl rfl ⟨g26, g28, g30, g32, g34, g36, g38, g753, f28, f64, f69, f70, f71, f72, f73, f74, f75, f99, f100, trivial⟩ ⟨G40, G42, G44, G46, G755, (hT.2.1 47), (hT.2.1 48), (hT.2.1 49), G756, (hT.2.1 65), (hT.2.1 66), (hT.2.1 67), (hT.2.1 68), (hT.2.1 76), (hT.2.1 77), (hT.2.1 78), (hT.2.1 79), (hT.2.1 80), (hT.2.1 81), (hT.2.1 82), (hT.2.1 83), (hT.2.1 84), (hT.2.1 85), (hT.2.1 86), (hT.2.1 87), (hT.2.1 88), (hT.2.1 89), (hT.2.1 90), (hT.2.1 91), (hT.2.1 92), (hT.2.1 101), (hT.2.1 102), (hT.2.1 103), (hT.2.1 104), (hT.2.1 105), (hT.2.1 106), (hT.2.1 107), (hT.2.1 108), G754, trivial⟩) 40 ⟨by decide, by decide⟩ (show 1 ≤ (40 : Int) by omega) (show LxP y25 y27 y29 (m.1 6) y31 by first | exact hLx | (intro h9; exfalso; omega) | (intro h9; have h8 := hLx (by omega); omega))) (fun rr757 k758 => ?_)
          obtain ⟨y759, y761, y763, y765, y767, y769, g760, g762, g764, g766, g768, g770, h771, h772, h773, h774, rfl⟩ := k758
          refine ⟨_, _, rfl, ?_⟩
          refine T_nf (st' := []) (l' := [(7, y759), (8, y761), (9, y763), (10, y765), (11, y767), (12, y769), (13, y37), (25, (m.1 25) + 1), (28, (m.1 28)), (64, (m.1 64)), (69, (m.1 69)), (70, (m.1 70)), (71, (m.1 71)), (72, (m.1 72)), (73, (m.1 73)), (74, (m.1 74)), (75, (m.1 75)), (99, (m.1 99)), (100, (m.1 100))]) (a' := [(14, F39), (15, F41), (16, F43), (17, F45), (46, upI (m.2 46) (m.1 25) 0), (47, (m.2 47)), (48, (m.2 48)), (49, (m.2 49)), (50, upI (m.2 50) (m.1 25) 0), (65, (m.2 65)), (66, (m.2 66)), (67, (m.2 67)), (68, (m.2 68)), (76, (m.2 76)), (77, (m.2 77)), (78, (m.2 78)), (79, (m.2 79)), (80, (m.2 80)), (81, (m.2 81)), (82, (m.2 82)), (83, (m.2 83)), (84, (m.2 84)), (85, (m.2 85)), (86, (m.2 86)), (87, (m.2 87)), (88, (m.2 88)), (89, (m.2 89)), (90, (m.2 90)), (91, (m.2 91)), (92, (m.2 92)), (101, (m.2 101)), (102, (m.2 102)), (103, (m.2 103)), (104, (m.2 104)), (105, (m.2 105)), (106, (m.2 106)), (107, (m.2 107)), (108, (m.2 108)), (109, upI (m.2 109) (m.1 25) (m.1 99))]) rfl rfl rfl rfl rfl ?_
          replace h771 : LxP y759 y761 y763 (m.1 6) y765 := h771
          replace h772 : y765 = 0 → y31 = 0 ∧ y25 = (40 : Int) := h772
          replace h773 : y27 ≤ y761 := h773
          replace h774 : y765 = 0 → y27 + y29 ≤ y761 := h774
          have hf775 : 1 ≤ y765 := by omega
          clear h772
          clear h774
          have hLx := h771
          clear g26 g28 g30 g32 g34 g36 g47a g47b h48 h52 hf751 h752 h773
          refine T_gf 69 (.int (i32 y765)) rfl rfl rfl rfl rfl rfl ?_
          refine T_if 85 72 rfl rfl rfl (r32 (by omega) (by omega)) (fun (h776 : y765 ≠ 0) => ?_) (fun (h776 : ¬ (y765 ≠ 0)) => by exfalso; omega)
          refine T_ld 86 (.int (i32 0)) rfl (fun _ => rfl) ?_
          refine T_sto 87 [(2, .int (i32 0)), (1, .int (i32 (m.1 25))), (0, .ref 189)] rfl (fun _ => rfl) ?_
          refine T_ld 88 (.int (i32 0)) rfl (fun _ => rfl) ?_
          refine T_if 136 91 rfl rfl rfl ⟨by decide, by decide⟩ (fun _ => ?_) (fun h777 => absurd (show (0 : Int) = 0 by decide) h777)
          refine T_ld 137 (.ref 189) rfl (fun _ => rfl) ?_
          refine T_ld 139 (.int (i32 41)) rfl (fun _ => rfl) ?_
          refine T_call 142 232 [.ref 189, .int (i32 41)] [] rfl (fun _ => rfl) rfl (c_need w (mO m [(7, y759), (8, y761), (9, y763), (10, y765), (11, y767), (12, y769), (13, y37), (25, (m.1 25) + 1), (28, (m.1 28)), (64, (m.1 64)), (69, (m.1 69)), (70, (m.1 70)), (71, (m.1 71)), (72, (m.1 72)), (73, (m.1 73)), (74, (m.1 74)), (75, (m.1 75)), (99, (m.1 99)), (100, (m.1 100))] [(14, F39), (15, F41), (16, F43), (17, F45), (46, upI (m.2 46) (m.1 25) 0), (47, (m.2 47)), (48, (m.2 48)), (49, (m.2 49)), (50, upI (m.2 50) (m.1 25) 0), (65, (m.2 65)), (66, (m.2 66)), (67, (m.2 67)), (68, (m.2 68)), (76, (m.2 76)), (77, (m.2 77)), (78, (m.2 78)), (79, (m.2 79)), (80, (m.2 80)), (81, (m.2 81)), (82, (m.2 82)), (83, (m.2 83)), (84, (m.2 84)), (85, (m.2 85)), (86, (m.2 86)), (87, (m.2 87)), (88, (m.2 88)), (89, (m.2 89)), (90, (m.2 90)), (91, (m.2 91)), (92, (m.2 92)), (101, (m.2 101)), (102, (m.2 102)), (103, (m.2 103)), (104, (m.2 104)), (105, (m.2 105)), (106, (m.2 106)), (107, (m.2 107)), (108, (m.2 108)), (109, upI (m.2 109) (m.1 25) (m.1 99))]) c N D (by omega) (Ty_mO hT rfl rfl ⟨g760, g762, g764, g766, g768, g770, g38, g753, f28, f64, f69, f70, f71, f72, f73, f74, f75, f99, f100, trivial⟩ ⟨G40, G42, G44, G46, G755, (hT.2.1 47), (hT.2.1 48), (hT.2.1 49), G756, (hT.2.1 65), (hT.2.1 66), (hT.2.1 67), (hT.2.1 68), (hT.2.1 76), (hT.2.1 77), (hT.2.1 78), (hT.2.1 79), (hT.2.1 80), (hT.2.1 81), (hT.2.1 82), (hT.2.1 83), (hT.2.1 84), (hT.2.1 85), (hT.2.1 86), (hT.2.1 87), (hT.2.1 88), (hT.2.1 89), (hT.2.1 90), (hT.2.1 91), (hT.2.1 92), (hT.2.1 101), (hT.2.1 102), (hT.2.1 103), (hT.2.1 104), (hT.2.1 105), (hT.2.1 106), (hT.2.1 107), (hT.2.1 108), G754, trivial⟩) 41 ⟨by decide, by decide⟩ (show 1 ≤ (41 : Int) by omega) (show LxP y759 y761 y763 (m.1 6) y765 by first | exact hLx | (intro h9; exfalso; omega) | (intro h9; have h8 := hLx (by omega); omega))) (fun rr778 k779 => ?_)
          obtain ⟨y780, y782, y784, y786, y788, y790, g781, g783, g785, g787, g789, g791, h792, h793, h794, h795, rfl⟩ := k779
          refine ⟨_, _, rfl, ?_⟩
          refine T_nf (st' := []) (l' := [(7, y780), (8, y782), (9, y784), (10, y786), (11, y788), (12, y790), (13, y37), (25, (m.1 25) + 1), (28, (m.1 28)), (64, (m.1 64)), (69, (m.1 69)), (70, (m.1 70)), (71, (m.1 71)), (72, (m.1 72)), (73, (m.1 73)), (74, (m.1 74)), (75, (m.1 75)), (99, (m.1 99)), (100, (m.1 100))]) (a' := [(14, F39), (15, F41), (16, F43), (17, F45), (46, upI (m.2 46) (m.1 25) 0), (47, (m.2 47)), (48, (m.2 48)), (49, (m.2 49)), (50, upI (m.2 50) (m.1 25) 0), (65, (m.2 65)), (66, (m.2 66)), (67, (m.2 67)), (68, (m.2 68)), (76, (m.2 76)), (77, (m.2 77)), (78, (m.2 78)), (79, (m.2 79)), (80, (m.2 80)), (81, (m.2 81)), (82, (m.2 82)), (83, (m.2 83)), (84, (m.2 84)), (85, (m.2 85)), (86, (m.2 86)), (87, (m.2 87)), (88, (m.2 88)), (89, (m.2 89)), (90, (m.2 90)), (91, (m.2 91)), (92, (m.2 92)), (101, (m.2 101)), (102, (m.2 102)), (103, (m.2 103)), (104, (m.2 104)), (105, (m.2 105)), (106, (m.2 106)), (107, (m.2 107)), (108, (m.2 108)), (109, upI (m.2 109) (m.1 25) (m.1 99))]) rfl rfl rfl rfl rfl ?_
          replace h792 : LxP y780 y782 y784 (m.1 6) y786 := h792
          replace h793 : y786 = 0 → y765 = 0 ∧ y759 = (41 : Int) := h793
          replace h794 : y761 ≤ y782 := h794
          replace h795 : y786 = 0 → y761 + y763 ≤ y782 := h795
          have hf796 : 1 ≤ y786 := by omega
          clear h793
          clear h795
          have hLx := h792
          clear g760 g762 g764 g766 g768 g770 hf775 h771 h776 h794
          refine T_ld 143 (.ref 189) rfl (fun _ => rfl) ?_
          refine T_ld 145 (.int (i32 123)) rfl (fun _ => rfl) ?_
          refine T_call 148 232 [.ref 189, .int (i32 123)] [] rfl (fun _ => rfl) rfl (c_need w (mO m [(7, y780), (8, y782), (9, y784), (10, y786), (11, y788), (12, y790), (13, y37), (25, (m.1 25) + 1), (28, (m.1 28)), (64, (m.1 64)), (69, (m.1 69)), (70, (m.1 70)), (71, (m.1 71)), (72, (m.1 72)), (73, (m.1 73)), (74, (m.1 74)), (75, (m.1 75)), (99, (m.1 99)), (100, (m.1 100))] [(14, F39), (15, F41), (16, F43), (17, F45), (46, upI (m.2 46) (m.1 25) 0), (47, (m.2 47)), (48, (m.2 48)), (49, (m.2 49)), (50, upI (m.2 50) (m.1 25) 0), (65, (m.2 65)), (66, (m.2 66)), (67, (m.2 67)), (68, (m.2 68)), (76, (m.2 76)), (77, (m.2 77)), (78, (m.2 78)), (79, (m.2 79)), (80, (m.2 80)), (81, (m.2 81)), (82, (m.2 82)), (83, (m.2 83)), (84, (m.2 84)), (85, (m.2 85)), (86, (m.2 86)), (87, (m.2 87)), (88, (m.2 88)), (89, (m.2 89)), (90, (m.2 90)), (91, (m.2 91)), (92, (m.2 92)), (101, (m.2 101)), (102, (m.2 102)), (103, (m.2 103)), (104, (m.2 104)), (105, (m.2 105)), (106, (m.2 106)), (107, (m.2 107)), (108, (m.2 108)), (109, upI (m.2 109) (m.1 25) (m.1 99))]) c N D (by omega) (Ty_mO hT rfl rfl ⟨g781, g783, g785, g787, g789, g791, g38, g753, f28, f64, f69, f70, f71, f72, f73, f74, f75, f99, f100, trivial⟩ ⟨G40, G42, G44, G46, G755, (hT.2.1 47), (hT.2.1 48), (hT.2.1 49), G756, (hT.2.1 65), (hT.2.1 66), (hT.2.1 67), (hT.2.1 68), (hT.2.1 76), (hT.2.1 77), (hT.2.1 78), (hT.2.1 79), (hT.2.1 80), (hT.2.1 81), (hT.2.1 82), (hT.2.1 83), (hT.2.1 84), (hT.2.1 85), (hT.2.1 86), (hT.2.1 87), (hT.2.1 88), (hT.2.1 89), (hT.2.1 90), (hT.2.1 91), (hT.2.1 92), (hT.2.1 101), (hT.2.1 102), (hT.2.1 103), (hT.2.1 104), (hT.2.1 105), (hT.2.1 106), (hT.2.1 107), (hT.2.1 108), G754, trivial⟩) 123 ⟨by decide, by decide⟩ (show 1 ≤ (123 : Int) by omega) (show LxP y780 y782 y784 (m.1 6) y786 by first | exact hLx | (intro h9; exfalso; omega) | (intro h9; have h8 := hLx (by omega); omega))) (fun rr797 k798 => ?_)
          obtain ⟨y799, y801, y803, y805, y807, y809, g800, g802, g804, g806, g808, g810, h811, h812, h813, h814, rfl⟩ := k798
          refine ⟨_, _, rfl, ?_⟩
          refine T_nf (st' := []) (l' := [(7, y799), (8, y801), (9, y803), (10, y805), (11, y807), (12, y809), (13, y37), (25, (m.1 25) + 1), (28, (m.1 28)), (64, (m.1 64)), (69, (m.1 69)), (70, (m.1 70)), (71, (m.1 71)), (72, (m.1 72)), (73, (m.1 73)), (74, (m.1 74)), (75, (m.1 75)), (99, (m.1 99)), (100, (m.1 100))]) (a' := [(14, F39), (15, F41), (16, F43), (17, F45), (46, upI (m.2 46) (m.1 25) 0), (47, (m.2 47)), (48, (m.2 48)), (49, (m.2 49)), (50, upI (m.2 50) (m.1 25) 0), (65, (m.2 65)), (66, (m.2 66)), (67, (m.2 67)), (68, (m.2 68)), (76, (m.2 76)), (77, (m.2 77)), (78, (m.2 78)), (79, (m.2 79)), (80, (m.2 80)), (81, (m.2 81)), (82, (m.2 82)), (83, (m.2 83)), (84, (m.2 84)), (85, (m.2 85)), (86, (m.2 86)), (87, (m.2 87)), (88, (m.2 88)), (89, (m.2 89)), (90, (m.2 90)), (91, (m.2 91)), (92, (m.2 92)), (101, (m.2 101)), (102, (m.2 102)), (103, (m.2 103)), (104, (m.2 104)), (105, (m.2 105)), (106, (m.2 106)), (107, (m.2 107)), (108, (m.2 108)), (109, upI (m.2 109) (m.1 25) (m.1 99))]) rfl rfl rfl rfl rfl ?_
          replace h811 : LxP y799 y801 y803 (m.1 6) y805 := h811
          replace h812 : y805 = 0 → y786 = 0 ∧ y780 = (123 : Int) := h812
          replace h813 : y782 ≤ y801 := h813
          replace h814 : y805 = 0 → y782 + y784 ≤ y801 := h814
          have hf815 : 1 ≤ y805 := by omega
          clear h812
          clear h814
          have hLx := h811
          clear g781 g783 g785 g787 g789 g791 hf796 h792 h813
          refine T_ld 149 (.ref 189) rfl (fun _ => rfl) ?_
          refine T_ld 150 (.int (i32 (m.1 25))) rfl (fun _ => rfl) ?_
          refine T_pf (l' := [(7, y799), (8, y801), (9, y803), (10, y805), (11, y807), (12, y809), (13, y37), (25, (m.1 25) + 1), (28, (m.1 28)), (64, (m.1 25)), (69, (m.1 69)), (70, (m.1 70)), (71, (m.1 71)), (72, (m.1 72)), (73, (m.1 73)), (74, (m.1 74)), (75, (m.1 75)), (99, (m.1 99)), (100, (m.1 100))]) 153 (m.1 25) rfl rfl rfl rfl rfl rfl ?_
          have g816 : (-1) ≤ (m.1 25) ∧ (m.1 25) ≤ 15 := ⟨by omega, by omega⟩
          refine T_gf 157 (.int (i32 y805)) rfl rfl rfl rfl rfl rfl ?_
          refine T_if 211 160 rfl rfl rfl (r32 (by omega) (by omega)) (fun (h817 : y805 ≠ 0) => ?_) (fun (h817 : ¬ (y805 ≠ 0)) => by exfalso; omega)
          refine T_ld 212 (.ref 189) rfl (fun _ => rfl) ?_
          refine T_ld 213 (.int (i32 (-1))) rfl (fun _ => rfl) ?_
          refine T_pf (l' := [(7, y799), (8, y801), (9, y803), (10, y805), (11, y807), (12, y809), (13, y37), (25, (m.1 25) + 1), (28, (m.1 28)), (64, (-1)), (69, (m.1 69)), (70, (m.1 70)), (71, (m.1 71)), (72, (m.1 72)), (73, (m.1 73)), (74, (m.1 74)), (75, (m.1 75)), (99, (m.1 99)), (100, (m.1 100))]) 216 (-1) rfl rfl rfl rfl rfl rfl ?_
          refine T_ld 217 (.ref 189) rfl (fun _ => rfl) ?_
          refine T_ld 219 (.int (i32 125)) rfl (fun _ => rfl) ?_
          refine T_call 222 232 [.ref 189, .int (i32 125)] [] rfl (fun _ => rfl) rfl (c_need w (mO m [(7, y799), (8, y801), (9, y803), (10, y805), (11, y807), (12, y809), (13, y37), (25, (m.1 25) + 1), (28, (m.1 28)), (64, (-1)), (69, (m.1 69)), (70, (m.1 70)), (71, (m.1 71)), (72, (m.1 72)), (73, (m.1 73)), (74, (m.1 74)), (75, (m.1 75)), (99, (m.1 99)), (100, (m.1 100))] [(14, F39), (15, F41), (16, F43), (17, F45), (46, upI (m.2 46) (m.1 25) 0), (47, (m.2 47)), (48, (m.2 48)), (49, (m.2 49)), (50, upI (m.2 50) (m.1 25) 0), (65, (m.2 65)), (66, (m.2 66)), (67, (m.2 67)), (68, (m.2 68)), (76, (m.2 76)), (77, (m.2 77)), (78, (m.2 78)), (79, (m.2 79)), (80, (m.2 80)), (81, (m.2 81)), (82, (m.2 82)), (83, (m.2 83)), (84, (m.2 84)), (85, (m.2 85)), (86, (m.2 86)), (87, (m.2 87)), (88, (m.2 88)), (89, (m.2 89)), (90, (m.2 90)), (91, (m.2 91)), (92, (m.2 92)), (101, (m.2 101)), (102, (m.2 102)), (103, (m.2 103)), (104, (m.2 104)), (105, (m.2 105)), (106, (m.2 106)), (107, (m.2 107)), (108, (m.2 108)), (109, upI (m.2 109) (m.1 25) (m.1 99))]) c N D (by omega) (Ty_mO hT rfl rfl ⟨g800, g802, g804, g806, g808, g810, g38, g753, f28, ⟨(by omega : ((-1) : Int) ≤ (-1)), (by omega : ((-1) : Int) ≤ 15)⟩, f69, f70, f71, f72, f73, f74, f75, f99, f100, trivial⟩ ⟨G40, G42, G44, G46, G755, (hT.2.1 47), (hT.2.1 48), (hT.2.1 49), G756, (hT.2.1 65), (hT.2.1 66), (hT.2.1 67), (hT.2.1 68), (hT.2.1 76), (hT.2.1 77), (hT.2.1 78), (hT.2.1 79), (hT.2.1 80), (hT.2.1 81), (hT.2.1 82), (hT.2.1 83), (hT.2.1 84), (hT.2.1 85), (hT.2.1 86), (hT.2.1 87), (hT.2.1 88), (hT.2.1 89), (hT.2.1 90), (hT.2.1 91), (hT.2.1 92), (hT.2.1 101), (hT.2.1 102), (hT.2.1 103), (hT.2.1 104), (hT.2.1 105), (hT.2.1 106), (hT.2.1 107), (hT.2.1 108), G754, trivial⟩) 125 ⟨by decide, by decide⟩ (show 1 ≤ (125 : Int) by omega) (show LxP y799 y801 y803 (m.1 6) y805 by first | exact hLx | (intro h9; exfalso; omega) | (intro h9; have h8 := hLx (by omega); omega))) (fun rr818 k819 => ?_)
          obtain ⟨y820, y822, y824, y826, y828, y830, g821, g823, g825, g827, g829, g831, h832, h833, h834, h835, rfl⟩ := k819
          refine ⟨_, _, rfl, ?_⟩
          refine T_nf (st' := []) (l' := [(7, y820), (8, y822), (9, y824), (10, y826), (11, y828), (12, y830), (13, y37), (25, (m.1 25) + 1), (28, (m.1 28)), (64, (-1)), (69, (m.1 69)), (70, (m.1 70)), (71, (m.1 71)), (72, (m.1 72)), (73, (m.1 73)), (74, (m.1 74)), (75, (m.1 75)), (99, (m.1 99)), (100, (m.1 100))]) (a' := [(14, F39), (15, F41), (16, F43), (17, F45), (46, upI (m.2 46) (m.1 25) 0), (47, (m.2 47)), (48, (m.2 48)), (49, (m.2 49)), (50, upI (m.2 50) (m.1 25) 0), (65, (m.2 65)), (66, (m.2 66)), (67, (m.2 67)), (68, (m.2 68)), (76, (m.2 76)), (77, (m.2 77)), (78, (m.2 78)), (79, (m.2 79)), (80, (m.2 80)), (81, (m.2 81)), (82, (m.2 82)), (83, (m.2 83)), (84, (m.2 84)), (85, (m.2 85)), (86, (m.2 86)), (87, (m.2 87)), (88, (m.2 88)), (89, (m.2 89)), (90, (m.2 90)), (91, (m.2 91)), (92, (m.2 92)), (101, (m.2 101)), (102, (m.2 102)), (103, (m.2 103)), (104, (m.2 104)), (105, (m.2 105)), (106, (m.2 106)), (107, (m.2 107)), (108, (m.2 108)), (109, upI (m.2 109) (m.1 25) (m.1 99))]) rfl rfl rfl rfl rfl ?_
          replace h832 : LxP y820 y822 y824 (m.1 6) y826 := h832
          replace h833 : y826 = 0 → y805 = 0 ∧ y799 = (125 : Int) := h833
          replace h834 : y801 ≤ y822 := h834
          replace h835 : y826 = 0 → y801 + y803 ≤ y822 := h835
          have hf836 : 1 ≤ y826 := by omega
          clear h833
          clear h835
          have hLx := h832
          clear g800 g802 g804 g806 g808 g810 hf815 h811 h817 h834
          refine T_ret rfl (fun _ => rfl) ?_
          exact ⟨y820, y822, y824, y826, y828, y830, y37, (m.1 25) + 1, (m.1 28), (-1), (m.1 69), (m.1 70), (m.1 71), (m.1 72), (m.1 73), (m.1 74), (m.1 75), (m.1 99), (m.1 100), F39, F41, F43, F45, upI (m.2 46) (m.1 25) 0, (m.2 47), (m.2 48), (m.2 49), upI (m.2 50) (m.1 25) 0, (m.2 65), (m.2 66), (m.2 67), (m.2 68), (m.2 76), (m.2 77), (m.2 78), (m.2 79), (m.2 80), (m.2 81), (m.2 82), (m.2 83), (m.2 84), (m.2 85), (m.2 86), (m.2 87), (m.2 88), (m.2 89), (m.2 90), (m.2 91), (m.2 92), (m.2 101), (m.2 102), (m.2 103), (m.2 104), (m.2 105), (m.2 106), (m.2 107), (m.2 108), upI (m.2 109) (m.1 25) (m.1 99), g821, g823, g825, g827, g829, g831, g38, g753, f28, ⟨by omega, by omega⟩, f69, f70, f71, f72, f73, f74, f75, f99, f100, G40, G42, G44, G46, G755, (hT.2.1 47), (hT.2.1 48), (hT.2.1 49), G756, (hT.2.1 65), (hT.2.1 66), (hT.2.1 67), (hT.2.1 68), (hT.2.1 76), (hT.2.1 77), (hT.2.1 78), (hT.2.1 79), (hT.2.1 80), (hT.2.1 81), (hT.2.1 82), (hT.2.1 83), (hT.2.1 84), (hT.2.1 85), (hT.2.1 86), (hT.2.1 87), (hT.2.1 88), (hT.2.1 89), (hT.2.1 90), (hT.2.1 91), (hT.2.1 92), (hT.2.1 101), (hT.2.1 102), (hT.2.1 103), (hT.2.1 104), (hT.2.1 105), (hT.2.1 106), (hT.2.1 107), (hT.2.1 108), G754, (by omega), (by first | (first | exact hLx | (intro h9; exfalso; omega)) | (exfalso; omega)), (by first | (exact hNM) | (exfalso; omega)), (by first | (exact hPA) | (exfalso; omega)), (fun h => absurd h (by omega)), rfl⟩
        · skip
          refine T_ret rfl (fun _ => rfl) ?_
          exact ⟨y25, y27, y29, y31, y33, y35, y37, (m.1 25), (m.1 28), (m.1 64), (m.1 69), (m.1 70), (m.1 71), (m.1 72), (m.1 73), (m.1 74), (m.1 75), (m.1 99), (m.1 100), F39, F41, F43, F45, (m.2 46), (m.2 47), (m.2 48), (m.2 49), (m.2 50), (m.2 65), (m.2 66), (m.2 67), (m.2 68), (m.2 76), (m.2 77), (m.2 78), (m.2 79), (m.2 80), (m.2 81), (m.2 82), (m.2 83), (m.2 84), (m.2 85), (m.2 86), (m.2 87), (m.2 88), (m.2 89), (m.2 90), (m.2 91), (m.2 92), (m.2 101), (m.2 102), (m.2 103), (m.2 104), (m.2 105), (m.2 106), (m.2 107), (m.2 108), (m.2 109), g26, g28, g30, g32, g34, g36, g38, f25, f28, f64, f69, f70, f71, f72, f73, f74, f75, f99, f100, G40, G42, G44, G46, (hT.2.1 46), (hT.2.1 47), (hT.2.1 48), (hT.2.1 49), (hT.2.1 50), (hT.2.1 65), (hT.2.1 66), (hT.2.1 67), (hT.2.1 68), (hT.2.1 76), (hT.2.1 77), (hT.2.1 78), (hT.2.1 79), (hT.2.1 80), (hT.2.1 81), (hT.2.1 82), (hT.2.1 83), (hT.2.1 84), (hT.2.1 85), (hT.2.1 86), (hT.2.1 87), (hT.2.1 88), (hT.2.1 89), (hT.2.1 90), (hT.2.1 91), (hT.2.1 92), (hT.2.1 101), (hT.2.1 102), (hT.2.1 103), (hT.2.1 104), (hT.2.1 105), (hT.2.1 106), (hT.2.1 107), (hT.2.1 108), (hT.2.1 109), (by omega), (by first | (first | exact hLx | (intro h9; exfalso; omega)) | (exfalso; omega)), (by first | (exact hNM) | (exfalso; omega)), (by first | (exact hPA) | (exfalso; omega)), (fun h => absurd h (by omega)), rfl⟩
    · skip
      replace h17 : LxP y5 y7 y9 (m.1 6) y11 := h17
      have hLx := h17
      clear h18
      replace h19 : (m.1 8) ≤ y7 := h19
      clear h20
      have hf837 : 1 ≤ y11 := by omega
      refine T_ld 5 (.ref 189) rfl (fun _ => rfl) ?_
      refine T_ld 7 (.int (i32 6)) rfl (fun _ => rfl) ?_
      refine T_gf 11 (.int (i32 (m.1 25))) rfl rfl rfl rfl rfl rfl ?_
      refine T_ld 13 (.int (i32 16)) rfl (fun _ => rfl) ?_
      refine T_call 16 225 [.ref 189, .int (i32 6), .int (i32 (m.1 25)), .int (i32 16)] [] rfl (fun _ => rfl) rfl (c_newName w (mO m [(7, y5), (8, y7), (9, y9), (10, y11), (11, y13), (12, y15), (13, (m.1 13)), (25, (m.1 25)), (28, (m.1 28)), (64, (m.1 64)), (69, (m.1 69)), (70, (m.1 70)), (71, (m.1 71)), (72, (m.1 72)), (73, (m.1 73)), (74, (m.1 74)), (75, (m.1 75)), (99, (m.1 99)), (100, (m.1 100))] [(14, (m.2 14)), (15, (m.2 15)), (16, (m.2 16)), (17, (m.2 17)), (46, (m.2 46)), (47, (m.2 47)), (48, (m.2 48)), (49, (m.2 49)), (50, (m.2 50)), (65, (m.2 65)), (66, (m.2 66)), (67, (m.2 67)), (68, (m.2 68)), (76, (m.2 76)), (77, (m.2 77)), (78, (m.2 78)), (79, (m.2 79)), (80, (m.2 80)), (81, (m.2 81)), (82, (m.2 82)), (83, (m.2 83)), (84, (m.2 84)), (85, (m.2 85)), (86, (m.2 86)), (87, (m.2 87)), (88, (m.2 88)), (89, (m.2 89)), (90, (m.2 90)), (91, (m.2 91)), (92, (m.2 92)), (101, (m.2 101)), (102, (m.2 102)), (103, (m.2 103)), (104, (m.2 104)), (105, (m.2 105)), (106, (m.2 106)), (107, (m.2 107)), (108, (m.2 108)), (109, (m.2 109))]) c N D (by omega) (Ty_mO hT rfl rfl ⟨g6, g8, g10, g12, g14, g16, f13, f25, f28, f64, f69, f70, f71, f72, f73, f74, f75, f99, f100, trivial⟩ ⟨(hT.2.1 14), (hT.2.1 15), (hT.2.1 16), (hT.2.1 17), (hT.2.1 46), (hT.2.1 47), (hT.2.1 48), (hT.2.1 49), (hT.2.1 50), (hT.2.1 65), (hT.2.1 66), (hT.2.1 67), (hT.2.1 68), (hT.2.1 76), (hT.2.1 77), (hT.2.1 78), (hT.2.1 79), (hT.2.1 80), (hT.2.1 81), (hT.2.1 82), (hT.2.1 83), (hT.2.1 84), (hT.2.1 85), (hT.2.1 86), (hT.2.1 87), (hT.2.1 88), (hT.2.1 89), (hT.2.1 90), (hT.2.1 91), (hT.2.1 92), (hT.2.1 101), (hT.2.1 102), (hT.2.1 103), (hT.2.1 104), (hT.2.1 105), (hT.2.1 106), (hT.2.1 107), (hT.2.1 108), (hT.2.1 109), trivial⟩) 6 (m.1 25) 16 ⟨by decide, by decide⟩ (r32 (by omega) (by omega)) ⟨by decide, by decide⟩ (show LxP y5 y7 y9 (m.1 6) y11 by first | exact hLx | (intro h9; exfalso; omega) | (intro h9; have h8 := hLx (by omega); omega)) (show ∀ k, (m.2 14) k + (m.2 15) k ≤ 4000 by first | exact p1 | exact hNM) (show y11 = 0 → (m.1 13) ≤ 119 by omega) (show 1 ≤ (6 : Int) ∧ (6 : Int) ≤ 7 by omega) (show 0 ≤ (m.1 25) ∧ ((m.1 25) ≠ (16 : Int) → (m.1 25) ≤ 15) by omega)) (fun rr838 k839 => ?_)
      obtain ⟨y840, y842, y844, y846, y848, y850, y852, F854, F856, F858, F860, nn, g841, g843, g845, g847, g849, g851, g853, G855, G857, G859, G861, g862, h863, h864, h865, h866, h867, h868, h869, rfl⟩ := k839
      refine ⟨_, _, rfl, ?_⟩
      refine T_nf (st' := [.int (i32 nn)]) (l' := [(7, y840), (8, y842), (9, y844), (10, y846), (11, y848), (12, y850), (13, y852), (25, (m.1 25)), (28, (m.1 28)), (64, (m.1 64)), (69, (m.1 69)), (70, (m.1 70)), (71, (m.1 71)), (72, (m.1 72)), (73, (m.1 73)), (74, (m.1 74)), (75, (m.1 75)), (99, (m.1 99)), (100, (m.1 100))]) (a' := [(14, F854), (15, F856), (16, F858), (17, F860), (46, (m.2 46)), (47, (m.2 47)), (48, (m.2 48)), (49, (m.2 49)), (50, (m.2 50)), (65, (m.2 65)), (66, (m.2 66)), (67, (m.2 67)), (68, (m.2 68)), (76, (m.2 76)), (77, (m.2 77)), (78, (m.2 78)), (79, (m.2 79)), (80, (m.2 80)), (81, (m.2 81)), (82, (m.2 82)), (83, (m.2 83)), (84, (m.2 84)), (85, (m.2 85)), (86, (m.2 86)), (87, (m.2 87)), (88, (m.2 88)), (89, (m.2 89)), (90, (m.2 90)), (91, (m.2 91)), (92, (m.2 92)), (101, (m.2 101)), (102, (m.2 102)), (103, (m.2 103)), (104, (m.2 104)), (105, (m.2 105)), (106, (m.2 106)), (107, (m.2 107)), (108, (m.2 108)), (109, (m.2 109))]) rfl rfl rfl rfl rfl ?_
      obtain ⟨g862a, g862b⟩ := g862
      replace h863 : LxP y840 y842 y844 (m.1 6) y846 := h863
      replace h864 : y7 ≤ y842 := h864
      replace h865 : y846 = 0 → y11 = 0 ∧ y7 + y9 ≤ y842 := h865
      replace h866 : y846 = 0 → nn = 1 ∧ y5 = 1 := h866
      replace h867 : nn = 1 → (m.1 25) ≠ (16 : Int) := h867
      replace h868 : ∀ k, F854 k + F856 k ≤ 4000 := h868
      replace h869 : (nn = 1 ∧ y11 = 0 ∧ y852 = (m.1 13) + 1 ∧ F854 = upI (m.2 14) (m.1 13) y7 ∧ F856 = upI (m.2 15) (m.1 13) y9 ∧ F858 = upI (m.2 16) (m.1 13) (6 : Int) ∧ F860 = upI (m.2 17) (m.1 13) (m.1 25)) ∨ (nn = 0 ∧ 0 < y846 ∧ y852 = (m.1 13) ∧ F854 = (m.2 14) ∧ F856 = (m.2 15) ∧ F858 = (m.2 16) ∧ F860 = (m.2 17)) := h869
      have hf870 : 1 ≤ y846 := by omega
      clear h865
      clear h866
      have hLx := h863
      have hNM := h868
      have hN := h869
      clear g6 g8 g10 g12 g14 g16 h17 h19 hf837 h864 h869
      refine T_if 20 19 rfl rfl rfl (r32 (by omega) (by omega)) (fun (h871 : nn ≠ 0) => ?_) (fun (h871 : ¬ (nn ≠ 0)) => ?_)
      · skip
        refine T_gf 24 (.int (i32 (m.1 25))) rfl rfl rfl rfl rfl rfl ?_
        refine T_sto 25 [(1, .int (i32 (m.1 25))), (0, .ref 189)] rfl (fun _ => rfl) ?_
        refine T_ld 26 (.ref 189) rfl (fun _ => rfl) ?_
        refine T_ld 27 (.ref 189) rfl (fun _ => rfl) ?_
        refine T_gf1 30 (.int (i32 (m.1 25))) rfl rfl rfl rfl ?_
        refine T_ld 31 (.int (i32 1)) rfl (fun _ => rfl) ?_
        refine T_iadd 32 rfl rfl ?_
        refine T_pf (l' := [(7, y840), (8, y842), (9, y844), (10, y846), (11, y848), (12, y850), (13, y852), (25, (m.1 25) + 1), (28, (m.1 28)), (64, (m.1 64)), (69, (m.1 69)), (70, (m.1 70)), (71, (m.1 71)), (72, (m.1 72)), (73, (m.1 73)), (74, (m.1 74)), (75, (m.1 75)), (99, (m.1 99)), (100, (m.1 100))]) 35 ((m.1 25) + 1) rfl rfl rfl rfl rfl rfl ?_
        have g872 : 0 ≤ (m.1 25) + 1 ∧ (m.1 25) + 1 ≤ 16 := ⟨by omega, by omega⟩
        refine T_gf 39 (.ref 269) rfl rfl rfl rfl rfl rfl ?_
        refine T_ld 40 (.int (i32 (m.1 25))) rfl (fun _ => rfl) ?_
        refine T_gf 44 (.int (i32 (m.1 99))) rfl rfl rfl rfl rfl rfl ?_
        have G873 : ∀ j, 0 ≤ (upI (m.2 109) (m.1 25) (m.1 99)) j ∧ (upI (m.2 109) (m.1 25) (m.1 99)) j ≤ 192 := upI_rg (hT.2.1 109) ⟨by omega, by omega⟩
        refine T_iast (a' := [(14, F854), (15, F856), (16, F858), (17, F860), (46, (m.2 46)), (47, (m.2 47)), (48, (m.2 48)), (49, (m.2 49)), (50, (m.2 50)), (65, (m.2 65)), (66, (m.2 66)), (67, (m.2 67)), (68, (m.2 68)), (76, (m.2 76)), (77, (m.2 77)), (78, (m.2 78)), (79, (m.2 79)), (80, (m.2 80)), (81, (m.2 81)), (82, (m.2 82)), (83, (m.2 83)), (84, (m.2 84)), (85, (m.2 85)), (86, (m.2 86)), (87, (m.2 87)), (88, (m.2 88)), (89, (m.2 89)), (90, (m.2 90)), (91, (m.2 91)), (92, (m.2 92)), (101, (m.2 101)), (102, (m.2 102)), (103, (m.2 103)), (104, (m.2 104)), (105, (m.2 105)), (106, (m.2 106)), (107, (m.2 107)), (108, (m.2 108)), (109, upI (m.2 109) (m.1 25) (m.1 99))]) 45 109 (m.2 109) rfl rfl rfl (by omega) (show (m.1 25) < (16 : Int) by omega) rfl rfl ?_
        refine T_gf 49 (.ref 216) rfl rfl rfl rfl rfl rfl ?_
        refine T_ld 50 (.int (i32 (m.1 25))) rfl (fun _ => rfl) ?_
        refine T_ld 51 (.int (i32 0)) rfl (fun _ => rfl) ?_
        have G874 : ∀ j, 0 ≤ (upI (m.2 46) (m.1 25) 0) j ∧ (upI (m.2 46) (m.1 25) 0) j ≤ 4 := upI_rg (hT.2.1 46) ⟨by omega, by omega⟩
        refine T_iast (a' := [(14, F854), (15, F856), (16, F858), (17, F860), (46, upI (m.2 46) (m.1 25) 0), (47, (m.2 47)), (48, (m.2 48)), (49, (m.2 49)), (50, (m.2 50)), (65, (m.2 65)), (66, (m.2 66)), (67, (m.2 67)), (68, (m.2 68)), (76, (m.2 76)), (77, (m.2 77)), (78, (m.2 78)), (79, (m.2 79)), (80, (m.2 80)), (81, (m.2 81)), (82, (m.2 82)), (83, (m.2 83)), (84, (m.2 84)), (85, (m.2 85)), (86, (m.2 86)), (87, (m.2 87)), (88, (m.2 88)), (89, (m.2 89)), (90, (m.2 90)), (91, (m.2 91)), (92, (m.2 92)), (101, (m.2 101)), (102, (m.2 102)), (103, (m.2 103)), (104, (m.2 104)), (105, (m.2 105)), (106, (m.2 106)), (107, (m.2 107)), (108, (m.2 108)), (109, upI (m.2 109) (m.1 25) (m.1 99))]) 52 46 (m.2 46) rfl rfl rfl (by omega) (show (m.1 25) < (16 : Int) by omega) rfl rfl ?_
        refine T_gf 56 (.ref 220) rfl rfl rfl rfl rfl rfl ?_
        refine T_ld 57 (.int (i32 (m.1 25))) rfl (fun _ => rfl) ?_
        refine T_ld 58 (.int (i32 0)) rfl (fun _ => rfl) ?_
        have G875 : ∀ j, 0 ≤ (upI (m.2 50) (m.1 25) 0) j ∧ (upI (m.2 50) (m.1 25) 0) j ≤ 13 := upI_rg (hT.2.1 50) ⟨by omega, by omega⟩
        refine T_iast (a' := [(14, F854), (15, F856), (16, F858), (17, F860), (46, upI (m.2 46) (m.1 25) 0), (47, (m.2 47)), (48, (m.2 48)), (49, (m.2 49)), (50, upI (m.2 50) (m.1 25) 0), (65, (m.2 65)), (66, (m.2 66)), (67, (m.2 67)), (68, (m.2 68)), (76, (m.2 76)), (77, (m.2 77)), (78, (m.2 78)), (79, (m.2 79)), (80, (m.2 80)), (81, (m.2 81)), (82, (m.2 82)), (83, (m.2 83)), (84, (m.2 84)), (85, (m.2 85)), (86, (m.2 86)), (87, (m.2 87)), (88, (m.2 88)), (89, (m.2 89)), (90, (m.2 90)), (91, (m.2 91)), (92, (m.2 92)), (101, (m.2 101)), (102, (m.2 102)), (103, (m.2 103)), (104, (m.2 104)), (105, (m.2 105)), (106, (m.2 106)), (107, (m.2 107)), (108, (m.2 108)), (109, upI (m.2 109) (m.1 25) (m.1 99))]) 59 50 (m.2 50) rfl rfl rfl (by omega) (show (m.1 25) < (16 : Int) by omega) rfl rfl ?_
        refine T_ld 60 (.ref 189) rfl (fun _ => rfl) ?_
        refine T_ld 62 (.int (i32 40)) rfl (fun _ => rfl) ?_
        refine T_call 65 232 [.ref 189, .int (i32 40)] [] rfl (fun _ => rfl) rfl (c_need w (mO m [(7, y840), (8, y842), (9, y844), (10, y846), (11, y848), (12, y850), (13, y852), (25, (m.1 25) + 1), (28, (m.1 28)), (64, (m.1 64)), (69, (m.1 69)), (70, (m.1 70)), (71, (m.1 71)), (72, (m.1 72)), (73, (m.1 73)), (74, (m.1 74)), (75, (m.1 75)), (99, (m.1 99)), (100, (m.1 100))] [(14, F854), (15, F856), (16, F858), (17, F860), (46, upI (m.2 46) (m.1 25) 0), (47, (m.2 47)), (48, (m.2 48)), (49, (m.2 49)), (50, upI (m.2 50) (m.1 25) 0), (65, (m.2 65)), (66, (m.2 66)), (67, (m.2 67)), (68, (m.2 68)), (76, (m.2 76)), (77, (m.2 77)), (78, (m.2 78)), (79, (m.2 79)), (80, (m.2 80)), (81, (m.2 81)), (82, (m.2 82)), (83, (m.2 83)), (84, (m.2 84)), (85, (m.2 85)), (86, (m.2 86)), (87, (m.2 87)), (88, (m.2 88)), (89, (m.2 89)), (90, (m.2 90)), (91, (m.2 91)), (92, (m.2 92)), (101, (m.2 101)), (102, (m.2 102)), (103, (m.2 103)), (104, (m.2 104)), (105, (m.2 105)), (106, (m.2 106)), (107, (m.2 107)), (108, (m.2 108)), (109, upI (m.2 109) (m.1 25) (m.1 99))]) c N D (by omega) (Ty_mO hT rfl rfl ⟨g841, g843, g845, g847, g849, g851, g853, g872, f28, f64, f69, f70, f71, f72, f73, f74, f75, f99, f100, trivial⟩ ⟨G855, G857, G859, G861, G874, (hT.2.1 47), (hT.2.1 48), (hT.2.1 49), G875, (hT.2.1 65), (hT.2.1 66), (hT.2.1 67), (hT.2.1 68), (hT.2.1 76), (hT.2.1 77), (hT.2.1 78), (hT.2.1 79), (hT.2.1 80), (hT.2.1 81), (hT.2.1 82), (hT.2.1 83), (hT.2.1 84), (hT.2.1 85), (hT.2.1 86), (hT.2.1 87), (hT.2.1 88), (hT.2.1 89), (hT.2.1 90), (hT.2.1 91), (hT.2.1 92), (hT.2.1 101), (hT.2.1 102), (hT.2.1 103), (hT.2.1 104), (hT.2.1 105), (hT.2.1 106), (hT.2.1 107), (hT.2.1 108), G873, trivial⟩) 40 ⟨by decide, by decide⟩ (show 1 ≤ (40 : Int) by omega) (show LxP y840 y842 y844 (m.1 6) y846 by first | exact hLx | (intro h9; exfalso; omega) | (intro h9; have h8 := hLx (by omega); omega))) (fun rr876 k877 => ?_)
        obtain ⟨y878, y880, y882, y884, y886, y888, g879, g881, g883, g885, g887, g889, h890, h891, h892, h893, rfl⟩ := k877
        refine ⟨_, _, rfl, ?_⟩
        refine T_nf (st' := []) (l' := [(7, y878), (8, y880), (9, y882), (10, y884), (11, y886), (12, y888), (13, y852), (25, (m.1 25) + 1), (28, (m.1 28)), (64, (m.1 64)), (69, (m.1 69)), (70, (m.1 70)), (71, (m.1 71)), (72, (m.1 72)), (73, (m.1 73)), (74, (m.1 74)), (75, (m.1 75)), (99, (m.1 99)), (100, (m.1 100))]) (a' := [(14, F854), (15, F856), (16, F858), (17, F860), (46, upI (m.2 46) (m.1 25) 0), (47, (m.2 47)), (48, (m.2 48)), (49, (m.2 49)), (50, upI (m.2 50) (m.1 25) 0), (65, (m.2 65)), (66, (m.2 66)), (67, (m.2 67)), (68, (m.2 68)), (76, (m.2 76)), (77, (m.2 77)), (78, (m.2 78)), (79, (m.2 79)), (80, (m.2 80)), (81, (m.2 81)), (82, (m.2 82)), (83, (m.2 83)), (84, (m.2 84)), (85, (m.2 85)), (86, (m.2 86)), (87, (m.2 87)), (88, (m.2 88)), (89, (m.2 89)), (90, (m.2 90)), (91, (m.2 91)), (92, (m.2 92)), (101, (m.2 101)), (102, (m.2 102)), (103, (m.2 103)), (104, (m.2 104)), (105, (m.2 105)), (106, (m.2 106)), (107, (m.2 107)), (108, (m.2 108)), (109, upI (m.2 109) (m.1 25) (m.1 99))]) rfl rfl rfl rfl rfl ?_
        replace h890 : LxP y878 y880 y882 (m.1 6) y884 := h890
        replace h891 : y884 = 0 → y846 = 0 ∧ y840 = (40 : Int) := h891
        replace h892 : y842 ≤ y880 := h892
        replace h893 : y884 = 0 → y842 + y844 ≤ y880 := h893
        have hf894 : 1 ≤ y884 := by omega
        clear h891
        clear h893
        have hLx := h890
        clear g841 g843 g845 g847 g849 g851 g862a g862b hf870 h863 h867 h871 h892
        refine T_gf 69 (.int (i32 y884)) rfl rfl rfl rfl rfl rfl ?_
        refine T_if 85 72 rfl rfl rfl (r32 (by omega) (by omega)) (fun (h895 : y884 ≠ 0) => ?_) (fun (h895 : ¬ (y884 ≠ 0)) => by exfalso; omega)
        refine T_ld 86 (.int (i32 0)) rfl (fun _ => rfl) ?_
        refine T_sto 87 [(2, .int (i32 0)), (1, .int (i32 (m.1 25))), (0, .ref 189)] rfl (fun _ => rfl) ?_
        refine T_ld 88 (.int (i32 0)) rfl (fun _ => rfl) ?_
        refine T_if 136 91 rfl rfl rfl ⟨by decide, by decide⟩ (fun _ => ?_) (fun h896 => absurd (show (0 : Int) = 0 by decide) h896)
        refine T_ld 137 (.ref 189) rfl (fun _ => rfl) ?_
        refine T_ld 139 (.int (i32 41)) rfl (fun _ => rfl) ?_
        refine T_call 142 232 [.ref 189, .int (i32 41)] [] rfl (fun _ => rfl) rfl (c_need w (mO m [(7, y878), (8, y880), (9, y882), (10, y884), (11, y886), (12, y888), (13, y852), (25, (m.1 25) + 1), (28, (m.1 28)), (64, (m.1 64)), (69, (m.1 69)), (70, (m.1 70)), (71, (m.1 71)), (72, (m.1 72)), (73, (m.1 73)), (74, (m.1 74)), (75, (m.1 75)), (99, (m.1 99)), (100, (m.1 100))] [(14, F854), (15, F856), (16, F858), (17, F860), (46, upI (m.2 46) (m.1 25) 0), (47, (m.2 47)), (48, (m.2 48)), (49, (m.2 49)), (50, upI (m.2 50) (m.1 25) 0), (65, (m.2 65)), (66, (m.2 66)), (67, (m.2 67)), (68, (m.2 68)), (76, (m.2 76)), (77, (m.2 77)), (78, (m.2 78)), (79, (m.2 79)), (80, (m.2 80)), (81, (m.2 81)), (82, (m.2 82)), (83, (m.2 83)), (84, (m.2 84)), (85, (m.2 85)), (86, (m.2 86)), (87, (m.2 87)), (88, (m.2 88)), (89, (m.2 89)), (90, (m.2 90)), (91, (m.2 91)), (92, (m.2 92)), (101, (m.2 101)), (102, (m.2 102)), (103, (m.2 103)), (104, (m.2 104)), (105, (m.2 105)), (106, (m.2 106)), (107, (m.2 107)), (108, (m.2 108)), (109, upI (m.2 109) (m.1 25) (m.1 99))]) c N D (by omega) (Ty_mO hT rfl rfl ⟨g879, g881, g883, g885, g887, g889, g853, g872, f28, f64, f69, f70, f71, f72, f73, f74, f75, f99, f100, trivial⟩ ⟨G855, G857, G859, G861, G874, (hT.2.1 47), (hT.2.1 48), (hT.2.1 49), G875, (hT.2.1 65), (hT.2.1 66), (hT.2.1 67), (hT.2.1 68), (hT.2.1 76), (hT.2.1 77), (hT.2.1 78), (hT.2.1 79), (hT.2.1 80), (hT.2.1 81), (hT.2.1 82), (hT.2.1 83), (hT.2.1 84), (hT.2.1 85), (hT.2.1 86), (hT.2.1 87), (hT.2.1 88), (hT.2.1 89), (hT.2.1 90), (hT.2.1 91), (hT.2.1 92), (hT.2.1 101), (hT.2.1 102), (hT.2.1 103), (hT.2.1 104), (hT.2.1 105), (hT.2.1 106), (hT.2.1 107), (hT.2.1 108), G873, trivial⟩) 41 ⟨by decide, by decide⟩ (show 1 ≤ (41 : Int) by omega) (show LxP y878 y880 y882 (m.1 6) y884 by first | exact hLx | (intro h9; exfalso; omega) | (intro h9; have h8 := hLx (by omega); omega))) (fun rr897 k898 => ?_)
        obtain ⟨y899, y901, y903, y905, y907, y909, g900, g902, g904, g906, g908, g910, h911, h912, h913, h914, rfl⟩ := k898
        refine ⟨_, _, rfl, ?_⟩
        refine T_nf (st' := []) (l' := [(7, y899), (8, y901), (9, y903), (10, y905), (11, y907), (12, y909), (13, y852), (25, (m.1 25) + 1), (28, (m.1 28)), (64, (m.1 64)), (69, (m.1 69)), (70, (m.1 70)), (71, (m.1 71)), (72, (m.1 72)), (73, (m.1 73)), (74, (m.1 74)), (75, (m.1 75)), (99, (m.1 99)), (100, (m.1 100))]) (a' := [(14, F854), (15, F856), (16, F858), (17, F860), (46, upI (m.2 46) (m.1 25) 0), (47, (m.2 47)), (48, (m.2 48)), (49, (m.2 49)), (50, upI (m.2 50) (m.1 25) 0), (65, (m.2 65)), (66, (m.2 66)), (67, (m.2 67)), (68, (m.2 68)), (76, (m.2 76)), (77, (m.2 77)), (78, (m.2 78)), (79, (m.2 79)), (80, (m.2 80)), (81, (m.2 81)), (82, (m.2 82)), (83, (m.2 83)), (84, (m.2 84)), (85, (m.2 85)), (86, (m.2 86)), (87, (m.2 87)), (88, (m.2 88)), (89, (m.2 89)), (90, (m.2 90)), (91, (m.2 91)), (92, (m.2 92)), (101, (m.2 101)), (102, (m.2 102)), (103, (m.2 103)), (104, (m.2 104)), (105, (m.2 105)), (106, (m.2 106)), (107, (m.2 107)), (108, (m.2 108)), (109, upI (m.2 109) (m.1 25) (m.1 99))]) rfl rfl rfl rfl rfl ?_
        replace h911 : LxP y899 y901 y903 (m.1 6) y905 := h911
        replace h912 : y905 = 0 → y884 = 0 ∧ y878 = (41 : Int) := h912
        replace h913 : y880 ≤ y901 := h913
        replace h914 : y905 = 0 → y880 + y882 ≤ y901 := h914
        have hf915 : 1 ≤ y905 := by omega
        clear h912
        clear h914
        have hLx := h911
        clear g879 g881 g883 g885 g887 g889 hf894 h890 h895 h913
        refine T_ld 143 (.ref 189) rfl (fun _ => rfl) ?_
        refine T_ld 145 (.int (i32 123)) rfl (fun _ => rfl) ?_
        refine T_call 148 232 [.ref 189, .int (i32 123)] [] rfl (fun _ => rfl) rfl (c_need w (mO m [(7, y899), (8, y901), (9, y903), (10, y905), (11, y907), (12, y909), (13, y852), (25, (m.1 25) + 1), (28, (m.1 28)), (64, (m.1 64)), (69, (m.1 69)), (70, (m.1 70)), (71, (m.1 71)), (72, (m.1 72)), (73, (m.1 73)), (74, (m.1 74)), (75, (m.1 75)), (99, (m.1 99)), (100, (m.1 100))] [(14, F854), (15, F856), (16, F858), (17, F860), (46, upI (m.2 46) (m.1 25) 0), (47, (m.2 47)), (48, (m.2 48)), (49, (m.2 49)), (50, upI (m.2 50) (m.1 25) 0), (65, (m.2 65)), (66, (m.2 66)), (67, (m.2 67)), (68, (m.2 68)), (76, (m.2 76)), (77, (m.2 77)), (78, (m.2 78)), (79, (m.2 79)), (80, (m.2 80)), (81, (m.2 81)), (82, (m.2 82)), (83, (m.2 83)), (84, (m.2 84)), (85, (m.2 85)), (86, (m.2 86)), (87, (m.2 87)), (88, (m.2 88)), (89, (m.2 89)), (90, (m.2 90)), (91, (m.2 91)), (92, (m.2 92)), (101, (m.2 101)), (102, (m.2 102)), (103, (m.2 103)), (104, (m.2 104)), (105, (m.2 105)), (106, (m.2 106)), (107, (m.2 107)), (108, (m.2 108)), (109, upI (m.2 109) (m.1 25) (m.1 99))]) c N D (by omega) (Ty_mO hT rfl rfl ⟨g900, g902, g904, g906, g908, g910, g853, g872, f28, f64, f69, f70, f71, f72, f73, f74, f75, f99, f100, trivial⟩ ⟨G855, G857, G859, G861, G874, (hT.2.1 47), (hT.2.1 48), (hT.2.1 49), G875, (hT.2.1 65), (hT.2.1 66), (hT.2.1 67), (hT.2.1 68), (hT.2.1 76), (hT.2.1 77), (hT.2.1 78), (hT.2.1 79), (hT.2.1 80), (hT.2.1 81), (hT.2.1 82), (hT.2.1 83), (hT.2.1 84), (hT.2.1 85), (hT.2.1 86), (hT.2.1 87), (hT.2.1 88), (hT.2.1 89), (hT.2.1 90), (hT.2.1 91), (hT.2.1 92), (hT.2.1 101), (hT.2.1 102), (hT.2.1 103), (hT.2.1 104), (hT.2.1 105), (hT.2.1 106), (hT.2.1 107), (hT.2.1 108), G873, trivial⟩) 123 ⟨by decide, by decide⟩ (show 1 ≤ (123 : Int) by omega) (show LxP y899 y901 y903 (m.1 6) y905 by first | exact hLx | (intro h9; exfalso; omega) | (intro h9; have h8 := hLx (by omega); omega))) (fun rr916 k917 => ?_)
        obtain ⟨y918, y920, y922, y924, y926, y928, g919, g921, g923, g925, g927, g929, h930, h931, h932, h933, rfl⟩ := k917
        refine ⟨_, _, rfl, ?_⟩
        refine T_nf (st' := []) (l' := [(7, y918), (8, y920), (9, y922), (10, y924), (11, y926), (12, y928), (13, y852), (25, (m.1 25) + 1), (28, (m.1 28)), (64, (m.1 64)), (69, (m.1 69)), (70, (m.1 70)), (71, (m.1 71)), (72, (m.1 72)), (73, (m.1 73)), (74, (m.1 74)), (75, (m.1 75)), (99, (m.1 99)), (100, (m.1 100))]) (a' := [(14, F854), (15, F856), (16, F858), (17, F860), (46, upI (m.2 46) (m.1 25) 0), (47, (m.2 47)), (48, (m.2 48)), (49, (m.2 49)), (50, upI (m.2 50) (m.1 25) 0), (65, (m.2 65)), (66, (m.2 66)), (67, (m.2 67)), (68, (m.2 68)), (76, (m.2 76)), (77, (m.2 77)), (78, (m.2 78)), (79, (m.2 79)), (80, (m.2 80)), (81, (m.2 81)), (82, (m.2 82)), (83, (m.2 83)), (84, (m.2 84)), (85, (m.2 85)), (86, (m.2 86)), (87, (m.2 87)), (88, (m.2 88)), (89, (m.2 89)), (90, (m.2 90)), (91, (m.2 91)), (92, (m.2 92)), (101, (m.2 101)), (102, (m.2 102)), (103, (m.2 103)), (104, (m.2 104)), (105, (m.2 105)), (106, (m.2 106)), (107, (m.2 107)), (108, (m.2 108)), (109, upI (m.2 109) (m.1 25) (m.1 99))]) rfl rfl rfl rfl rfl ?_
        replace h930 : LxP y918 y920 y922 (m.1 6) y924 := h930
        replace h931 : y924 = 0 → y905 = 0 ∧ y899 = (123 : Int) := h931
        replace h932 : y901 ≤ y920 := h932
        replace h933 : y924 = 0 → y901 + y903 ≤ y920 := h933
        have hf934 : 1 ≤ y924 := by omega
        clear h931
        clear h933
        have hLx := h930
        clear g900 g902 g904 g906 g908 g910 hf915 h911 h932
        refine T_ld 149 (.ref 189) rfl (fun _ => rfl) ?_
        refine T_ld 150 (.int (i32 (m.1 25))) rfl (fun _ => rfl) ?_
        refine T_pf (l' := [(7, y918), (8, y920), (9, y922), (10, y924), (11, y926), (12, y928), (13, y852), (25, (m.1 25) + 1), (28, (m.1 28)), (64, (m.1 25)), (69, (m.1 69)), (70, (m.1 70)), (71, (m.1 71)), (72, (m.1 72)), (73, (m.1 73)), (74, (m.1 74)), (75, (m.1 75)), (99, (m.1 99)), (100, (m.1 100))]) 153 (m.1 25) rfl rfl rfl rfl rfl rfl ?_
        have g935 : (-1) ≤ (m.1 25) ∧ (m.1 25) ≤ 15 := ⟨by omega, by omega⟩
        refine T_gf 157 (.int (i32 y924)) rfl rfl rfl rfl rfl rfl ?_
        refine T_if 211 160 rfl rfl rfl (r32 (by omega) (by omega)) (fun (h936 : y924 ≠ 0) => ?_) (fun (h936 : ¬ (y924 ≠ 0)) => by exfalso; omega)
        refine T_ld 212 (.ref 189) rfl (fun _ => rfl) ?_
        refine T_ld 213 (.int (i32 (-1))) rfl (fun _ => rfl) ?_
        refine T_pf (l' := [(7, y918), (8, y920), (9, y922), (10, y924), (11, y926), (12, y928), (13, y852), (25, (m.1 25) + 1), (28, (m.1 28)), (64, (-1)), (69, (m.1 69)), (70, (m.1 70)), (71, (m.1 71)), (72, (m.1 72)), (73, (m.1 73)), (74, (m.1 74)), (75, (m.1 75)), (99, (m.1 99)), (100, (m.1 100))]) 216 (-1) rfl rfl rfl rfl rfl rfl ?_
        refine T_ld 217 (.ref 189) rfl (fun _ => rfl) ?_
        refine T_ld 219 (.int (i32 125)) rfl (fun _ => rfl) ?_
        refine T_call 222 232 [.ref 189, .int (i32 125)] [] rfl (fun _ => rfl) rfl (c_need w (mO m [(7, y918), (8, y920), (9, y922), (10, y924), (11, y926), (12, y928), (13, y852), (25, (m.1 25) + 1), (28, (m.1 28)), (64, (-1)), (69, (m.1 69)), (70, (m.1 70)), (71, (m.1 71)), (72, (m.1 72)), (73, (m.1 73)), (74, (m.1 74)), (75, (m.1 75)), (99, (m.1 99)), (100, (m.1 100))] [(14, F854), (15, F856), (16, F858), (17, F860), (46, upI (m.2 46) (m.1 25) 0), (47, (m.2 47)), (48, (m.2 48)), (49, (m.2 49)), (50, upI (m.2 50) (m.1 25) 0), (65, (m.2 65)), (66, (m.2 66)), (67, (m.2 67)), (68, (m.2 68)), (76, (m.2 76)), (77, (m.2 77)), (78, (m.2 78)), (79, (m.2 79)), (80, (m.2 80)), (81, (m.2 81)), (82, (m.2 82)), (83, (m.2 83)), (84, (m.2 84)), (85, (m.2 85)), (86, (m.2 86)), (87, (m.2 87)), (88, (m.2 88)), (89, (m.2 89)), (90, (m.2 90)), (91, (m.2 91)), (92, (m.2 92)), (101, (m.2 101)), (102, (m.2 102)), (103, (m.2 103)), (104, (m.2 104)), (105, (m.2 105)), (106, (m.2 106)), (107, (m.2 107)), (108, (m.2 108)), (109, upI (m.2 109) (m.1 25) (m.1 99))]) c N D (by omega) (Ty_mO hT rfl rfl ⟨g919, g921, g923, g925, g927, g929, g853, g872, f28, ⟨(by omega : ((-1) : Int) ≤ (-1)), (by omega : ((-1) : Int) ≤ 15)⟩, f69, f70, f71, f72, f73, f74, f75, f99, f100, trivial⟩ ⟨G855, G857, G859, G861, G874, (hT.2.1 47), (hT.2.1 48), (hT.2.1 49), G875, (hT.2.1 65), (hT.2.1 66), (hT.2.1 67), (hT.2.1 68), (hT.2.1 76), (hT.2.1 77), (hT.2.1 78), (hT.2.1 79), (hT.2.1 80), (hT.2.1 81), (hT.2.1 82), (hT.2.1 83), (hT.2.1 84), (hT.2.1 85), (hT.2.1 86), (hT.2.1 87), (hT.2.1 88), (hT.2.1 89), (hT.2.1 90), (hT.2.1 91), (hT.2.1 92), (hT.2.1 101), (hT.2.1 102), (hT.2.1 103), (hT.2.1 104), (hT.2.1 105), (hT.2.1 106), (hT.2.1 107), (hT.2.1 108), G873, trivial⟩) 125 ⟨by decide, by decide⟩ (show 1 ≤ (125 : Int) by omega) (show LxP y918 y920 y922 (m.1 6) y924 by first | exact hLx | (intro h9; exfalso; omega) | (intro h9; have h8 := hLx (by omega); omega))) (fun rr937 k938 => ?_)
        obtain ⟨y939, y941, y943, y945, y947, y949, g940, g942, g944, g946, g948, g950, h951, h952, h953, h954, rfl⟩ := k938
        refine ⟨_, _, rfl, ?_⟩
        refine T_nf (st' := []) (l' := [(7, y939), (8, y941), (9, y943), (10, y945), (11, y947), (12, y949), (13, y852), (25, (m.1 25) + 1), (28, (m.1 28)), (64, (-1)), (69, (m.1 69)), (70, (m.1 70)), (71, (m.1 71)), (72, (m.1 72)), (73, (m.1 73)), (74, (m.1 74)), (75, (m.1 75)), (99, (m.1 99)), (100, (m.1 100))]) (a' := [(14, F854), (15, F856), (16, F858), (17, F860), (46, upI (m.2 46) (m.1 25) 0), (47, (m.2 47)), (48, (m.2 48)), (49, (m.2 49)), (50, upI (m.2 50) (m.1 25) 0), (65, (m.2 65)), (66, (m.2 66)), (67, (m.2 67)), (68, (m.2 68)), (76, (m.2 76)), (77, (m.2 77)), (78, (m.2 78)), (79, (m.2 79)), (80, (m.2 80)), (81, (m.2 81)), (82, (m.2 82)), (83, (m.2 83)), (84, (m.2 84)), (85, (m.2 85)), (86, (m.2 86)), (87, (m.2 87)), (88, (m.2 88)), (89, (m.2 89)), (90, (m.2 90)), (91, (m.2 91)), (92, (m.2 92)), (101, (m.2 101)), (102, (m.2 102)), (103, (m.2 103)), (104, (m.2 104)), (105, (m.2 105)), (106, (m.2 106)), (107, (m.2 107)), (108, (m.2 108)), (109, upI (m.2 109) (m.1 25) (m.1 99))]) rfl rfl rfl rfl rfl ?_
        replace h951 : LxP y939 y941 y943 (m.1 6) y945 := h951
        replace h952 : y945 = 0 → y924 = 0 ∧ y918 = (125 : Int) := h952
        replace h953 : y920 ≤ y941 := h953
        replace h954 : y945 = 0 → y920 + y922 ≤ y941 := h954
        have hf955 : 1 ≤ y945 := by omega
        clear h952
        clear h954
        have hLx := h951
        clear g919 g921 g923 g925 g927 g929 hf934 h930 h936 h953
        refine T_ret rfl (fun _ => rfl) ?_
        exact ⟨y939, y941, y943, y945, y947, y949, y852, (m.1 25) + 1, (m.1 28), (-1), (m.1 69), (m.1 70), (m.1 71), (m.1 72), (m.1 73), (m.1 74), (m.1 75), (m.1 99), (m.1 100), F854, F856, F858, F860, upI (m.2 46) (m.1 25) 0, (m.2 47), (m.2 48), (m.2 49), upI (m.2 50) (m.1 25) 0, (m.2 65), (m.2 66), (m.2 67), (m.2 68), (m.2 76), (m.2 77), (m.2 78), (m.2 79), (m.2 80), (m.2 81), (m.2 82), (m.2 83), (m.2 84), (m.2 85), (m.2 86), (m.2 87), (m.2 88), (m.2 89), (m.2 90), (m.2 91), (m.2 92), (m.2 101), (m.2 102), (m.2 103), (m.2 104), (m.2 105), (m.2 106), (m.2 107), (m.2 108), upI (m.2 109) (m.1 25) (m.1 99), g940, g942, g944, g946, g948, g950, g853, g872, f28, ⟨by omega, by omega⟩, f69, f70, f71, f72, f73, f74, f75, f99, f100, G855, G857, G859, G861, G874, (hT.2.1 47), (hT.2.1 48), (hT.2.1 49), G875, (hT.2.1 65), (hT.2.1 66), (hT.2.1 67), (hT.2.1 68), (hT.2.1 76), (hT.2.1 77), (hT.2.1 78), (hT.2.1 79), (hT.2.1 80), (hT.2.1 81), (hT.2.1 82), (hT.2.1 83), (hT.2.1 84), (hT.2.1 85), (hT.2.1 86), (hT.2.1 87), (hT.2.1 88), (hT.2.1 89), (hT.2.1 90), (hT.2.1 91), (hT.2.1 92), (hT.2.1 101), (hT.2.1 102), (hT.2.1 103), (hT.2.1 104), (hT.2.1 105), (hT.2.1 106), (hT.2.1 107), (hT.2.1 108), G873, (by omega), (by first | (first | exact hLx | (intro h9; exfalso; omega)) | (exfalso; omega)), (by first | (exact hNM) | (exfalso; omega)), (by first | (exact hPA) | (exfalso; omega)), (fun h => absurd h (by omega)), rfl⟩
      · skip
        refine T_ret rfl (fun _ => rfl) ?_
        exact ⟨y840, y842, y844, y846, y848, y850, y852, (m.1 25), (m.1 28), (m.1 64), (m.1 69), (m.1 70), (m.1 71), (m.1 72), (m.1 73), (m.1 74), (m.1 75), (m.1 99), (m.1 100), F854, F856, F858, F860, (m.2 46), (m.2 47), (m.2 48), (m.2 49), (m.2 50), (m.2 65), (m.2 66), (m.2 67), (m.2 68), (m.2 76), (m.2 77), (m.2 78), (m.2 79), (m.2 80), (m.2 81), (m.2 82), (m.2 83), (m.2 84), (m.2 85), (m.2 86), (m.2 87), (m.2 88), (m.2 89), (m.2 90), (m.2 91), (m.2 92), (m.2 101), (m.2 102), (m.2 103), (m.2 104), (m.2 105), (m.2 106), (m.2 107), (m.2 108), (m.2 109), g841, g843, g845, g847, g849, g851, g853, f25, f28, f64, f69, f70, f71, f72, f73, f74, f75, f99, f100, G855, G857, G859, G861, (hT.2.1 46), (hT.2.1 47), (hT.2.1 48), (hT.2.1 49), (hT.2.1 50), (hT.2.1 65), (hT.2.1 66), (hT.2.1 67), (hT.2.1 68), (hT.2.1 76), (hT.2.1 77), (hT.2.1 78), (hT.2.1 79), (hT.2.1 80), (hT.2.1 81), (hT.2.1 82), (hT.2.1 83), (hT.2.1 84), (hT.2.1 85), (hT.2.1 86), (hT.2.1 87), (hT.2.1 88), (hT.2.1 89), (hT.2.1 90), (hT.2.1 91), (hT.2.1 92), (hT.2.1 101), (hT.2.1 102), (hT.2.1 103), (hT.2.1 104), (hT.2.1 105), (hT.2.1 106), (hT.2.1 107), (hT.2.1 108), (hT.2.1 109), (by omega), (by first | (first | exact hLx | (intro h9; exfalso; omega)) | (exfalso; omega)), (by first | (exact hNM) | (exfalso; omega)), (by first | (exact hPA) | (exfalso; omega)), (fun h => absurd h (by omega)), rfl⟩
  · skip
    clear hC
    refine T_ld 1 (.ref 189) rfl (fun _ => rfl) ?_
    refine T_call 4 212 [.ref 189] [] rfl (fun _ => rfl) rfl (c_next w (mO m [(7, (m.1 7)), (8, (m.1 8)), (9, (m.1 9)), (10, (m.1 10)), (11, (m.1 11)), (12, (m.1 12)), (13, (m.1 13)), (25, (m.1 25)), (28, (m.1 28)), (64, (m.1 64)), (69, (m.1 69)), (70, (m.1 70)), (71, (m.1 71)), (72, (m.1 72)), (73, (m.1 73)), (74, (m.1 74)), (75, (m.1 75)), (99, (m.1 99)), (100, (m.1 100))] [(14, (m.2 14)), (15, (m.2 15)), (16, (m.2 16)), (17, (m.2 17)), (46, (m.2 46)), (47, (m.2 47)), (48, (m.2 48)), (49, (m.2 49)), (50, (m.2 50)), (65, (m.2 65)), (66, (m.2 66)), (67, (m.2 67)), (68, (m.2 68)), (76, (m.2 76)), (77, (m.2 77)), (78, (m.2 78)), (79, (m.2 79)), (80, (m.2 80)), (81, (m.2 81)), (82, (m.2 82)), (83, (m.2 83)), (84, (m.2 84)), (85, (m.2 85)), (86, (m.2 86)), (87, (m.2 87)), (88, (m.2 88)), (89, (m.2 89)), (90, (m.2 90)), (91, (m.2 91)), (92, (m.2 92)), (101, (m.2 101)), (102, (m.2 102)), (103, (m.2 103)), (104, (m.2 104)), (105, (m.2 105)), (106, (m.2 106)), (107, (m.2 107)), (108, (m.2 108)), (109, (m.2 109))]) c N D (by omega) (Ty_mO hT rfl rfl ⟨f7, f8, f9, f10, f11, f12, f13, f25, f28, f64, f69, f70, f71, f72, f73, f74, f75, f99, f100, trivial⟩ ⟨(hT.2.1 14), (hT.2.1 15), (hT.2.1 16), (hT.2.1 17), (hT.2.1 46), (hT.2.1 47), (hT.2.1 48), (hT.2.1 49), (hT.2.1 50), (hT.2.1 65), (hT.2.1 66), (hT.2.1 67), (hT.2.1 68), (hT.2.1 76), (hT.2.1 77), (hT.2.1 78), (hT.2.1 79), (hT.2.1 80), (hT.2.1 81), (hT.2.1 82), (hT.2.1 83), (hT.2.1 84), (hT.2.1 85), (hT.2.1 86), (hT.2.1 87), (hT.2.1 88), (hT.2.1 89), (hT.2.1 90), (hT.2.1 91), (hT.2.1 92), (hT.2.1 101), (hT.2.1 102), (hT.2.1 103), (hT.2.1 104), (hT.2.1 105), (hT.2.1 106), (hT.2.1 107), (hT.2.1 108), (hT.2.1 109), trivial⟩) (show (m.1 10) = 0 → (m.1 8) + (m.1 9) ≤ (m.1 6) by first | omega | (intro h9; have h8 := hLx h9; omega))) (fun rr956 k957 => ?_)
    obtain ⟨y958, y960, y962, y964, y966, y968, g959, g961, g963, g965, g967, g969, h970, h971, h972, h973, rfl⟩ := k957
    refine ⟨_, _, rfl, ?_⟩
    refine T_nf (st' := []) (l' := [(7, y958), (8, y960), (9, y962), (10, y964), (11, y966), (12, y968), (13, (m.1 13)), (25, (m.1 25)), (28, (m.1 28)), (64, (m.1 64)), (69, (m.1 69)), (70, (m.1 70)), (71, (m.1 71)), (72, (m.1 72)), (73, (m.1 73)), (74, (m.1 74)), (75, (m.1 75)), (99, (m.1 99)), (100, (m.1 100))]) (a' := [(14, (m.2 14)), (15, (m.2 15)), (16, (m.2 16)), (17, (m.2 17)), (46, (m.2 46)), (47, (m.2 47)), (48, (m.2 48)), (49, (m.2 49)), (50, (m.2 50)), (65, (m.2 65)), (66, (m.2 66)), (67, (m.2 67)), (68, (m.2 68)), (76, (m.2 76)), (77, (m.2 77)), (78, (m.2 78)), (79, (m.2 79)), (80, (m.2 80)), (81, (m.2 81)), (82, (m.2 82)), (83, (m.2 83)), (84, (m.2 84)), (85, (m.2 85)), (86, (m.2 86)), (87, (m.2 87)), (88, (m.2 88)), (89, (m.2 89)), (90, (m.2 90)), (91, (m.2 91)), (92, (m.2 92)), (101, (m.2 101)), (102, (m.2 102)), (103, (m.2 103)), (104, (m.2 104)), (105, (m.2 105)), (106, (m.2 106)), (107, (m.2 107)), (108, (m.2 108)), (109, (m.2 109))]) rfl rfl rfl rfl rfl ?_
    replace h970 : LxP y958 y960 y962 (m.1 6) y964 := h970
    replace h971 : y964 = 0 → (m.1 10) = 0 := h971
    replace h972 : (m.1 8) ≤ y960 := h972
    replace h973 : y964 = 0 → (m.1 8) + (m.1 9) ≤ y960 := h973
    have hf974 : 1 ≤ y964 := by omega
    clear h971
    clear h973
    have hLx := h970
    refine T_ld 5 (.ref 189) rfl (fun _ => rfl) ?_
    refine T_ld 7 (.int (i32 6)) rfl (fun _ => rfl) ?_
    refine T_gf 11 (.int (i32 (m.1 25))) rfl rfl rfl rfl rfl rfl ?_
    refine T_ld 13 (.int (i32 16)) rfl (fun _ => rfl) ?_
    refine T_call 16 225 [.ref 189, .int (i32 6), .int (i32 (m.1 25)), .int (i32 16)] [] rfl (fun _ => rfl) rfl (c_newName w (mO m [(7, y958), (8, y960), (9, y962), (10, y964), (11, y966), (12, y968), (13, (m.1 13)), (25, (m.1 25)), (28, (m.1 28)), (64, (m.1 64)), (69, (m.1 69)), (70, (m.1 70)), (71, (m.1 71)), (72, (m.1 72)), (73, (m.1 73)), (74, (m.1 74)), (75, (m.1 75)), (99, (m.1 99)), (100, (m.1 100))] [(14, (m.2 14)), (15, (m.2 15)), (16, (m.2 16)), (17, (m.2 17)), (46, (m.2 46)), (47, (m.2 47)), (48, (m.2 48)), (49, (m.2 49)), (50, (m.2 50)), (65, (m.2 65)), (66, (m.2 66)), (67, (m.2 67)), (68, (m.2 68)), (76, (m.2 76)), (77, (m.2 77)), (78, (m.2 78)), (79, (m.2 79)), (80, (m.2 80)), (81, (m.2 81)), (82, (m.2 82)), (83, (m.2 83)), (84, (m.2 84)), (85, (m.2 85)), (86, (m.2 86)), (87, (m.2 87)), (88, (m.2 88)), (89, (m.2 89)), (90, (m.2 90)), (91, (m.2 91)), (92, (m.2 92)), (101, (m.2 101)), (102, (m.2 102)), (103, (m.2 103)), (104, (m.2 104)), (105, (m.2 105)), (106, (m.2 106)), (107, (m.2 107)), (108, (m.2 108)), (109, (m.2 109))]) c N D (by omega) (Ty_mO hT rfl rfl ⟨g959, g961, g963, g965, g967, g969, f13, f25, f28, f64, f69, f70, f71, f72, f73, f74, f75, f99, f100, trivial⟩ ⟨(hT.2.1 14), (hT.2.1 15), (hT.2.1 16), (hT.2.1 17), (hT.2.1 46), (hT.2.1 47), (hT.2.1 48), (hT.2.1 49), (hT.2.1 50), (hT.2.1 65), (hT.2.1 66), (hT.2.1 67), (hT.2.1 68), (hT.2.1 76), (hT.2.1 77), (hT.2.1 78), (hT.2.1 79), (hT.2.1 80), (hT.2.1 81), (hT.2.1 82), (hT.2.1 83), (hT.2.1 84), (hT.2.1 85), (hT.2.1 86), (hT.2.1 87), (hT.2.1 88), (hT.2.1 89), (hT.2.1 90), (hT.2.1 91), (hT.2.1 92), (hT.2.1 101), (hT.2.1 102), (hT.2.1 103), (hT.2.1 104), (hT.2.1 105), (hT.2.1 106), (hT.2.1 107), (hT.2.1 108), (hT.2.1 109), trivial⟩) 6 (m.1 25) 16 ⟨by decide, by decide⟩ (r32 (by omega) (by omega)) ⟨by decide, by decide⟩ (show LxP y958 y960 y962 (m.1 6) y964 by first | exact hLx | (intro h9; exfalso; omega) | (intro h9; have h8 := hLx (by omega); omega)) (show ∀ k, (m.2 14) k + (m.2 15) k ≤ 4000 by first | exact p1 | exact hNM) (show y964 = 0 → (m.1 13) ≤ 119 by omega) (show 1 ≤ (6 : Int) ∧ (6 : Int) ≤ 7 by omega) (show 0 ≤ (m.1 25) ∧ ((m.1 25) ≠ (16 : Int) → (m.1 25) ≤ 15) by omega)) (fun rr975 k976 => ?_)
    obtain ⟨y977, y979, y981, y983, y985, y987, y989, F991, F993, F995, F997, nn, g978, g980, g982, g984, g986, g988, g990, G992, G994, G996, G998, g999, h1000, h1001, h1002, h1003, h1004, h1005, h1006, rfl⟩ := k976
    refine ⟨_, _, rfl, ?_⟩
    refine T_nf (st' := [.int (i32 nn)]) (l' := [(7, y977), (8, y979), (9, y981), (10, y983), (11, y985), (12, y987), (13, y989), (25, (m.1 25)), (28, (m.1 28)), (64, (m.1 64)), (69, (m.1 69)), (70, (m.1 70)), (71, (m.1 71)), (72, (m.1 72)), (73, (m.1 73)), (74, (m.1 74)), (75, (m.1 75)), (99, (m.1 99)), (100, (m.1 100))]) (a' := [(14, F991), (15, F993), (16, F995), (17, F997), (46, (m.2 46)), (47, (m.2 47)), (48, (m.2 48)), (49, (m.2 49)), (50, (m.2 50)), (65, (m.2 65)), (66, (m.2 66)), (67, (m.2 67)), (68, (m.2 68)), (76, (m.2 76)), (77, (m.2 77)), (78, (m.2 78)), (79, (m.2 79)), (80, (m.2 80)), (81, (m.2 81)), (82, (m.2 82)), (83, (m.2 83)), (84, (m.2 84)), (85, (m.2 85)), (86, (m.2 86)), (87, (m.2 87)), (88, (m.2 88)), (89, (m.2 89)), (90, (m.2 90)), (91, (m.2 91)), (92, (m.2 92)), (101, (m.2 101)), (102, (m.2 102)), (103, (m.2 103)), (104, (m.2 104)), (105, (m.2 105)), (106, (m.2 106)), (107, (m.2 107)), (108, (m.2 108)), (109, (m.2 109))]) rfl rfl rfl rfl rfl ?_
    obtain ⟨g999a, g999b⟩ := g999
    replace h1000 : LxP y977 y979 y981 (m.1 6) y983 := h1000
    replace h1001 : y960 ≤ y979 := h1001
    replace h1002 : y983 = 0 → y964 = 0 ∧ y960 + y962 ≤ y979 := h1002
    replace h1003 : y983 = 0 → nn = 1 ∧ y958 = 1 := h1003
    replace h1004 : nn = 1 → (m.1 25) ≠ (16 : Int) := h1004
    replace h1005 : ∀ k, F991 k + F993 k ≤ 4000 := h1005
    replace h1006 : (nn = 1 ∧ y964 = 0 ∧ y989 = (m.1 13) + 1 ∧ F991 = upI (m.2 14) (m.1 13) y960 ∧ F993 = upI (m.2 15) (m.1 13) y962 ∧ F995 = upI (m.2 16) (m.1 13) (6 : Int) ∧ F997 = upI (m.2 17) (m.1 13) (m.1 25)) ∨ (nn = 0 ∧ 0 < y983 ∧ y989 = (m.1 13) ∧ F991 = (m.2 14) ∧ F993 = (m.2 15) ∧ F995 = (m.2 16) ∧ F997 = (m.2 17)) := h1006
    have hf1007 : 1 ≤ y983 := by omega
    clear h1002
    clear h1003
    have hLx := h1000
    have hNM := h1005
    have hN := h1006
    clear g959 g961 g963 g965 g967 g969 hf974 h970 h972 h1001 h1006
    refine T_if 20 19 rfl rfl rfl (r32 (by omega) (by omega)) (fun (h1008 : nn ≠ 0) => ?_) (fun (h1008 : ¬ (nn ≠ 0)) => ?_)
    · skip
      refine T_gf 24 (.int (i32 (m.1 25))) rfl rfl rfl rfl rfl rfl ?_
      refine T_sto 25 [(1, .int (i32 (m.1 25))), (0, .ref 189)] rfl (fun _ => rfl) ?_
      refine T_ld 26 (.ref 189) rfl (fun _ => rfl) ?_
      refine T_ld 27 (.ref 189) rfl (fun _ => rfl) ?_
      refine T_gf1 30 (.int (i32 (m.1 25))) rfl rfl rfl rfl ?_
      refine T_ld 31 (.int (i32 1)) rfl (fun _ => rfl) ?_
      refine T_iadd 32 rfl rfl ?_
      refine T_pf (l' := [(7, y977), (8, y979), (9, y981), (10, y983), (11, y985), (12, y987), (13, y989), (25, (m.1 25) + 1), (28, (m.1 28)), (64, (m.1 64)), (69, (m.1 69)), (70, (m.1 70)), (71, (m.1 71)), (72, (m.1 72)), (73, (m.1 73)), (74, (m.1 74)), (75, (m.1 75)), (99, (m.1 99)), (100, (m.1 100))]) 35 ((m.1 25) + 1) rfl rfl rfl rfl rfl rfl ?_
      have g1009 : 0 ≤ (m.1 25) + 1 ∧ (m.1 25) + 1 ≤ 16 := ⟨by omega, by omega⟩
      refine T_gf 39 (.ref 269) rfl rfl rfl rfl rfl rfl ?_
      refine T_ld 40 (.int (i32 (m.1 25))) rfl (fun _ => rfl) ?_
      refine T_gf 44 (.int (i32 (m.1 99))) rfl rfl rfl rfl rfl rfl ?_
      have G1010 : ∀ j, 0 ≤ (upI (m.2 109) (m.1 25) (m.1 99)) j ∧ (upI (m.2 109) (m.1 25) (m.1 99)) j ≤ 192 := upI_rg (hT.2.1 109) ⟨by omega, by omega⟩
      refine T_iast (a' := [(14, F991), (15, F993), (16, F995), (17, F997), (46, (m.2 46)), (47, (m.2 47)), (48, (m.2 48)), (49, (m.2 49)), (50, (m.2 50)), (65, (m.2 65)), (66, (m.2 66)), (67, (m.2 67)), (68, (m.2 68)), (76, (m.2 76)), (77, (m.2 77)), (78, (m.2 78)), (79, (m.2 79)), (80, (m.2 80)), (81, (m.2 81)), (82, (m.2 82)), (83, (m.2 83)), (84, (m.2 84)), (85, (m.2 85)), (86, (m.2 86)), (87, (m.2 87)), (88, (m.2 88)), (89, (m.2 89)), (90, (m.2 90)), (91, (m.2 91)), (92, (m.2 92)), (101, (m.2 101)), (102, (m.2 102)), (103, (m.2 103)), (104, (m.2 104)), (105, (m.2 105)), (106, (m.2 106)), (107, (m.2 107)), (108, (m.2 108)), (109, upI (m.2 109) (m.1 25) (m.1 99))]) 45 109 (m.2 109) rfl rfl rfl (by omega) (show (m.1 25) < (16 : Int) by omega) rfl rfl ?_
      refine T_gf 49 (.ref 216) rfl rfl rfl rfl rfl rfl ?_
      refine T_ld 50 (.int (i32 (m.1 25))) rfl (fun _ => rfl) ?_
      refine T_ld 51 (.int (i32 0)) rfl (fun _ => rfl) ?_
      have G1011 : ∀ j, 0 ≤ (upI (m.2 46) (m.1 25) 0) j ∧ (upI (m.2 46) (m.1 25) 0) j ≤ 4 := upI_rg (hT.2.1 46) ⟨by omega, by omega⟩
      refine T_iast (a' := [(14, F991), (15, F993), (16, F995), (17, F997), (46, upI (m.2 46) (m.1 25) 0), (47, (m.2 47)), (48, (m.2 48)), (49, (m.2 49)), (50, (m.2 50)), (65, (m.2 65)), (66, (m.2 66)), (67, (m.2 67)), (68, (m.2 68)), (76, (m.2 76)), (77, (m.2 77)), (78, (m.2 78)), (79, (m.2 79)), (80, (m.2 80)), (81, (m.2 81)), (82, (m.2 82)), (83, (m.2 83)), (84, (m.2 84)), (85, (m.2 85)), (86, (m.2 86)), (87, (m.2 87)), (88, (m.2 88)), (89, (m.2 89)), (90, (m.2 90)), (91, (m.2 91)), (92, (m.2 92)), (101, (m.2 101)), (102, (m.2 102)), (103, (m.2 103)), (104, (m.2 104)), (105, (m.2 105)), (106, (m.2 106)), (107, (m.2 107)), (108, (m.2 108)), (109, upI (m.2 109) (m.1 25) (m.1 99))]) 52 46 (m.2 46) rfl rfl rfl (by omega) (show (m.1 25) < (16 : Int) by omega) rfl rfl ?_
      refine T_gf 56 (.ref 220) rfl rfl rfl rfl rfl rfl ?_
      refine T_ld 57 (.int (i32 (m.1 25))) rfl (fun _ => rfl) ?_
      refine T_ld 58 (.int (i32 0)) rfl (fun _ => rfl) ?_
      have G1012 : ∀ j, 0 ≤ (upI (m.2 50) (m.1 25) 0) j ∧ (upI (m.2 50) (m.1 25) 0) j ≤ 13 := upI_rg (hT.2.1 50) ⟨by omega, by omega⟩
      refine T_iast (a' := [(14, F991), (15, F993), (16, F995), (17, F997), (46, upI (m.2 46) (m.1 25) 0), (47, (m.2 47)), (48, (m.2 48)), (49, (m.2 49)), (50, upI (m.2 50) (m.1 25) 0), (65, (m.2 65)), (66, (m.2 66)), (67, (m.2 67)), (68, (m.2 68)), (76, (m.2 76)), (77, (m.2 77)), (78, (m.2 78)), (79, (m.2 79)), (80, (m.2 80)), (81, (m.2 81)), (82, (m.2 82)), (83, (m.2 83)), (84, (m.2 84)), (85, (m.2 85)), (86, (m.2 86)), (87, (m.2 87)), (88, (m.2 88)), (89, (m.2 89)), (90, (m.2 90)), (91, (m.2 91)), (92, (m.2 92)), (101, (m.2 101)), (102, (m.2 102)), (103, (m.2 103)), (104, (m.2 104)), (105, (m.2 105)), (106, (m.2 106)), (107, (m.2 107)), (108, (m.2 108)), (109, upI (m.2 109) (m.1 25) (m.1 99))]) 59 50 (m.2 50) rfl rfl rfl (by omega) (show (m.1 25) < (16 : Int) by omega) rfl rfl ?_
      refine T_ld 60 (.ref 189) rfl (fun _ => rfl) ?_
      refine T_ld 62 (.int (i32 40)) rfl (fun _ => rfl) ?_
      refine T_call 65 232 [.ref 189, .int (i32 40)] [] rfl (fun _ => rfl) rfl (c_need w (mO m [(7, y977), (8, y979), (9, y981), (10, y983), (11, y985), (12, y987), (13, y989), (25, (m.1 25) + 1), (28, (m.1 28)), (64, (m.1 64)), (69, (m.1 69)), (70, (m.1 70)), (71, (m.1 71)), (72, (m.1 72)), (73, (m.1 73)), (74, (m.1 74)), (75, (m.1 75)), (99, (m.1 99)), (100, (m.1 100))] [(14, F991), (15, F993), (16, F995), (17, F997), (46, upI (m.2 46) (m.1 25) 0), (47, (m.2 47)), (48, (m.2 48)), (49, (m.2 49)), (50, upI (m.2 50) (m.1 25) 0), (65, (m.2 65)), (66, (m.2 66)), (67, (m.2 67)), (68, (m.2 68)), (76, (m.2 76)), (77, (m.2 77)), (78, (m.2 78)), (79, (m.2 79)), (80, (m.2 80)), (81, (m.2 81)), (82, (m.2 82)), (83, (m.2 83)), (84, (m.2 84)), (85, (m.2 85)), (86, (m.2 86)), (87, (m.2 87)), (88, (m.2 88)), (89, (m.2 89)), (90, (m.2 90)), (91, (m.2 91)), (92, (m.2 92)), (101, (m.2 101)), (102, (m.2 102)), (103, (m.2 103)), (104, (m.2 104)), (105, (m.2 105)), (106, (m.2 106)), (107, (m.2 107)), (108, (m.2 108)), (109, upI (m.2 109) (m.1 25) (m.1 99))]) c N D (by omega) (Ty_mO hT rfl rfl ⟨g978, g980, g982, g984, g986, g988, g990, g1009, f28, f64, f69, f70, f71, f72, f73, f74, f75, f99, f100, trivial⟩ ⟨G992, G994, G996, G998, G1011, (hT.2.1 47), (hT.2.1 48), (hT.2.1 49), G1012, (hT.2.1 65), (hT.2.1 66), (hT.2.1 67), (hT.2.1 68), (hT.2.1 76), (hT.2.1 77), (hT.2.1 78), (hT.2.1 79), (hT.2.1 80), (hT.2.1 81), (hT.2.1 82), (hT.2.1 83), (hT.2.1 84), (hT.2.1 85), (hT.2.1 86), (hT.2.1 87), (hT.2.1 88), (hT.2.1 89), (hT.2.1 90), (hT.2.1 91), (hT.2.1 92), (hT.2.1 101), (hT.2.1 102), (hT.2.1 103), (hT.2.1 104), (hT.2.1 105), (hT.2.1 106), (hT.2.1 107), (hT.2.1 108), G1010, trivial⟩) 40 ⟨by decide, by decide⟩ (show 1 ≤ (40 : Int) by omega) (show LxP y977 y979 y981 (m.1 6) y983 by first | exact hLx | (intro h9; exfalso; omega) | (intro h9; have h8 := hLx (by omega); omega))) (fun rr1013 k1014 => ?_)
      obtain ⟨y1015, y1017, y1019, y1021, y1023, y1025, g1016, g1018, g1020, g1022, g1024, g1026, h1027, h1028, h1029, h1030, rfl⟩ := k1014
      refine ⟨_, _, rfl, ?_⟩
      refine T_nf (st' := []) (l' := [(7, y1015), (8, y1017), (9, y1019), (10, y1021), (11, y1023), (12, y1025), (13, y989), (25, (m.1 25) + 1), (28, (m.1 28)), (64, (m.1 64)), (69, (m.1 69)), (70, (m.1 70)), (71, (m.1 71)), (72, (m.1 72)), (73, (m.1 73)), (74, (m.1 74)), (75, (m.1 75)), (99, (m.1 99)), (100, (m.1 100))]) (a' := [(14, F991), (15, F993), (16, F995), (17, F997), (46, upI (m.2 46) (m.1 25) 0), (47, (m.2 47)), (48, (m.2 48)), (49, (m.2 49)), (50, upI (m.2 50) (m.1 25) 0), (65, (m.2 65)), (66, (m.2 66)), (67, (m.2 67)), (68, (m.2 68)), (76, (m.2 76)), (77, (m.2 77)), (78, (m.2 78)), (79, (m.2 79)), (80, (m.2 80)), (81, (m.2 81)), (82, (m.2 82)), (83, (m.2 83)), (84, (m.2 84)), (85, (m.2 85)), (86, (m.2 86)), (87, (m.2 87)), (88, (m.2 88)), (89, (m.2 89)), (90, (m.2 90)), (91, (m.2 91)), (92, (m.2 92)), (101, (m.2 101)), (102, (m.2 102)), (103, (m.2 103)), (104, (m.2 104)), (105, (m.2 105)), (106, (m.2 106)), (107, (m.2 107)), (108, (m.2 108)), (109, upI (m.2 109) (m.1 25) (m.1 99))]) rfl rfl rfl rfl rfl ?_
      replace h1027 : LxP y1015 y1017 y1019 (m.1 6) y1021 := h1027
      replace h1028 : y1021 = 0 → y983 = 0 ∧ y977 = (40 : Int) := h1028
      replace h1029 : y979 ≤ y1017 := h1029
      replace h1030 : y1021 = 0 → y979 + y981 ≤ y1017 := h1030
      have hf1031 : 1 ≤ y1021 := by omega
      clear h1028
      clear h1030
      have hLx := h1027
      clear g978 g980 g982 g984 g986 g988 g999a g999b hf1007 h1000 h1004 h1008 h1029
      refine T_gf 69 (.int (i32 y1021)) rfl rfl rfl rfl rfl rfl ?_
      refine T_if 85 72 rfl rfl rfl (r32 (by omega) (by omega)) (fun (h1032 : y1021 ≠ 0) => ?_) (fun (h1032 : ¬ (y1021 ≠ 0)) => by exfalso; omega)
      refine T_ld 86 (.int (i32 0)) rfl (fun _ => rfl) ?_
      refine T_sto 87 [(2, .int (i32 0)), (1, .int (i32 (m.1 25))), (0, .ref 189)] rfl (fun _ => rfl) ?_
      refine T_ld 88 (.int (i32 0)) rfl (fun _ => rfl) ?_
      refine T_if 136 91 rfl rfl rfl ⟨by decide, by decide⟩ (fun _ => ?_) (fun h1033 => absurd (show (0 : Int) = 0 by decide) h1033)
      refine T_ld 137 (.ref 189) rfl (fun _ => rfl) ?_
      refine T_ld 139 (.int (i32 41)) rfl (fun _ => rfl) ?_
      refine T_call 142 232 [.ref 189, .int (i32 41)] [] rfl (fun _ => rfl) rfl (c_need w (mO m [(7, y1015), (8, y1017), (9, y1019), (10, y1021), (11, y1023), (12, y1025), (13, y989), (25, (m.1 25) + 1), (28, (m.1 28)), (64, (m.1 64)), (69, (m.1 69)), (70, (m.1 70)), (71, (m.1 71)), (72, (m.1 72)), (73, (m.1 73)), (74, (m.1 74)), (75, (m.1 75)), (99, (m.1 99)), (100, (m.1 100))] [(14, F991), (15, F993), (16, F995), (17, F997), (46, upI (m.2 46) (m.1 25) 0), (47, (m.2 47)), (48, (m.2 48)), (49, (m.2 49)), (50, upI (m.2 50) (m.1 25) 0), (65, (m.2 65)), (66, (m.2 66)), (67, (m.2 67)), (68, (m.2 68)), (76, (m.2 76)), (77, (m.2 77)), (78, (m.2 78)), (79, (m.2 79)), (80, (m.2 80)), (81, (m.2 81)), (82, (m.2 82)), (83, (m.2 83)), (84, (m.2 84)), (85, (m.2 85)), (86, (m.2 86)), (87, (m.2 87)), (88, (m.2 88)), (89, (m.2 89)), (90, (m.2 90)), (91, (m.2 91)), (92, (m.2 92)), (101, (m.2 101)), (102, (m.2 102)), (103, (m.2 103)), (104, (m.2 104)), (105, (m.2 105)), (106, (m.2 106)), (107, (m.2 107)), (108, (m.2 108)), (109, upI (m.2 109) (m.1 25) (m.1 99))]) c N D (by omega) (Ty_mO hT rfl rfl ⟨g1016, g1018, g1020, g1022, g1024, g1026, g990, g1009, f28, f64, f69, f70, f71, f72, f73, f74, f75, f99, f100, trivial⟩ ⟨G992, G994, G996, G998, G1011, (hT.2.1 47), (hT.2.1 48), (hT.2.1 49), G1012, (hT.2.1 65), (hT.2.1 66), (hT.2.1 67), (hT.2.1 68), (hT.2.1 76), (hT.2.1 77), (hT.2.1 78), (hT.2.1 79), (hT.2.1 80), (hT.2.1 81), (hT.2.1 82), (hT.2.1 83), (hT.2.1 84), (hT.2.1 85), (hT.2.1 86), (hT.2.1 87), (hT.2.1 88), (hT.2.1 89), (hT.2.1 90), (hT.2.1 91), (hT.2.1 92), (hT.2.1 101), (hT.2.1 102), (hT.2.1 103), (hT.2.1 104), (hT.2.1 105), (hT.2.1 106), (hT.2.1 107), (hT.2.1 108), G1010, trivial⟩) 41 ⟨by decide, by decide⟩ (show 1 ≤ (41 : Int) by omega) (show LxP y1015 y1017 y1019 (m.1 6) y1021 by first | exact hLx | (intro h9; exfalso; omega) | (intro h9; have h8 := hLx (by omega); omega))) (fun rr1034 k1035 => ?_)
      obtain ⟨y1036, y1038, y1040, y1042, y1044, y1046, g1037, g1039, g1041, g1043, g1045, g1047, h1048, h1049, h1050, h1051, rfl⟩ := k1035
      refine ⟨_, _, rfl, ?_⟩
      refine T_nf (st' := []) (l' := [(7, y1036), (8, y1038), (9, y1040), (10, y1042), (11, y1044), (12, y1046), (13, y989), (25, (m.1 25) + 1), (28, (m.1 28)), (64, (m.1 64)), (69, (m.1 69)), (70, (m.1 70)), (71, (m.1 71)), (72, (m.1 72)), (73, (m.1 73)), (74, (m.1 74)), (75, (m.1 75)), (99, (m.1 99)), (100, (m.1 100))]) (a' := [(14, F991), (15, F993), (16, F995), (17, F997), (46, upI (m.2 46) (m.1 25) 0), (47, (m.2 47)), (48, (m.2 48)), (49, (m.2 49)), (50, upI (m.2 50) (m.1 25) 0), (65, (m.2 65)), (66, (m.2 66)), (67, (m.2 67)), (68, (m.2 68)), (76, (m.2 76)), (77, (m.2 77)), (78, (m.2 78)), (79, (m.2 79)), (80, (m.2 80)), (81, (m.2 81)), (82, (m.2 82)), (83, (m.2 83)), (84, (m.2 84)), (85, (m.2 85)), (86, (m.2 86)), (87, (m.2 87)), (88, (m.2 88)), (89, (m.2 89)), (90, (m.2 90)), (91, (m.2 91)), (92, (m.2 92)), (101, (m.2 101)), (102, (m.2 102)), (103, (m.2 103)), (104, (m.2 104)), (105, (m.2 105)), (106, (m.2 106)), (107, (m.2 107)), (108, (m.2 108)), (109, upI (m.2 109) (m.1 25) (m.1 99))]) rfl rfl rfl rfl rfl ?_
      replace h1048 : LxP y1036 y1038 y1040 (m.1 6) y1042 := h1048
      replace h1049 : y1042 = 0 → y1021 = 0 ∧ y1015 = (41 : Int) := h1049
      replace h1050 : y1017 ≤ y1038 := h1050
      replace h1051 : y1042 = 0 → y1017 + y1019 ≤ y1038 := h1051
      have hf1052 : 1 ≤ y1042 := by omega
      clear h1049
      clear h1051
      have hLx := h1048
      clear g1016 g1018 g1020 g1022 g1024 g1026 hf1031 h1027 h1032 h1050
      refine T_ld 143 (.ref 189) rfl (fun _ => rfl) ?_
      refine T_ld 145 (.int (i32 123)) rfl (fun _ => rfl) ?_
      refine T_call 148 232 [.ref 189, .int (i32 123)] [] rfl (fun _ => rfl) rfl (c_need w (mO m [(7, y1036), (8, y1038), (9, y1040), (10, y1042), (11, y1044), (12, y1046), (13, y989), (25, (m.1 25) + 1), (28, (m.1 28)), (64, (m.1 64)), (69, (m.1 69)), (70, (m.1 70)), (71, (m.1 71)), (72, (m.1 72)), (73, (m.1 73)), (74, (m.1 74)), (75, (m.1 75)), (99, (m.1 99)), (100, (m.1 100))] [(14, F991), (15, F993), (16, F995), (17, F997), (46, upI (m.2 46) (m.1 25) 0), (47, (m.2 47)), (48, (m.2 48)), (49, (m.2 49)), (50, upI (m.2 50) (m.1 25) 0), (65, (m.2 65)), (66, (m.2 66)), (67, (m.2 67)), (68, (m.2 68)), (76, (m.2 76)), (77, (m.2 77)), (78, (m.2 78)), (79, (m.2 79)), (80, (m.2 80)), (81, (m.2 81)), (82, (m.2 82)), (83, (m.2 83)), (84, (m.2 84)), (85, (m.2 85)), (86, (m.2 86)), (87, (m.2 87)), (88, (m.2 88)), (89, (m.2 89)), (90, (m.2 90)), (91, (m.2 91)), (92, (m.2 92)), (101, (m.2 101)), (102, (m.2 102)), (103, (m.2 103)), (104, (m.2 104)), (105, (m.2 105)), (106, (m.2 106)), (107, (m.2 107)), (108, (m.2 108)), (109, upI (m.2 109) (m.1 25) (m.1 99))]) c N D (by omega) (Ty_mO hT rfl rfl ⟨g1037, g1039, g1041, g1043, g1045, g1047, g990, g1009, f28, f64, f69, f70, f71, f72, f73, f74, f75, f99, f100, trivial⟩ ⟨G992, G994, G996, G998, G1011, (hT.2.1 47), (hT.2.1 48), (hT.2.1 49), G1012, (hT.2.1 65), (hT.2.1 66), (hT.2.1 67), (hT.2.1 68), (hT.2.1 76), (hT.2.1 77), (hT.2.1 78), (hT.2.1 79), (hT.2.1 80), (hT.2.1 81), (hT.2.1 82), (hT.2.1 83), (hT.2.1 84), (hT.2.1 85), (hT.2.1 86), (hT.2.1 87), (hT.2.1 88), (hT.2.1 89), (hT.2.1 90), (hT.2.1 91), (hT.2.1 92), (hT.2.1 101), (hT.2.1 102), (hT.2.1 103), (hT.2.1 104), (hT.2.1 105), (hT.2.1 106), (hT.2.1 107), (hT.2.1 108), G1010, trivial⟩) 123 ⟨by decide, by decide⟩ (show 1 ≤ (123 : Int) by omega) (show LxP y1036 y1038 y1040 (m.1 6) y1042 by first | exact hLx | (intro h9; exfalso; omega) | (intro h9; have h8 := hLx (by omega); omega))) (fun rr1053 k1054 => ?_)
      obtain ⟨y1055, y1057, y1059, y1061, y1063, y1065, g1056, g1058, g1060, g1062, g1064, g1066, h1067, h1068, h1069, h1070, rfl⟩ := k1054
      refine ⟨_, _, rfl, ?_⟩
      refine T_nf (st' := []) (l' := [(7, y1055), (8, y1057), (9, y1059), (10, y1061), (11, y1063), (12, y1065), (13, y989), (25, (m.1 25) + 1), (28, (m.1 28)), (64, (m.1 64)), (69, (m.1 69)), (70, (m.1 70)), (71, (m.1 71)), (72, (m.1 72)), (73, (m.1 73)), (74, (m.1 74)), (75, (m.1 75)), (99, (m.1 99)), (100, (m.1 100))]) (a' := [(14, F991), (15, F993), (16, F995), (17, F997), (46, upI (m.2 46) (m.1 25) 0), (47, (m.2 47)), (48, (m.2 48)), (49, (m.2 49)), (50, upI (m.2 50) (m.1 25) 0), (65, (m.2 65)), (66, (m.2 66)), (67, (m.2 67)), (68, (m.2 68)), (76, (m.2 76)), (77, (m.2 77)), (78, (m.2 78)), (79, (m.2 79)), (80, (m.2 80)), (81, (m.2 81)), (82, (m.2 82)), (83, (m.2 83)), (84, (m.2 84)), (85, (m.2 85)), (86, (m.2 86)), (87, (m.2 87)), (88, (m.2 88)), (89, (m.2 89)), (90, (m.2 90)), (91, (m.2 91)), (92, (m.2 92)), (101, (m.2 101)), (102, (m.2 102)), (103, (m.2 103)), (104, (m.2 104)), (105, (m.2 105)), (106, (m.2 106)), (107, (m.2 107)), (108, (m.2 108)), (109, upI (m.2 109) (m.1 25) (m.1 99))]) rfl rfl rfl rfl rfl ?_
      replace h1067 : LxP y1055 y1057 y1059 (m.1 6) y1061 := h1067
      replace h1068 : y1061 = 0 → y1042 = 0 ∧ y1036 = (123 : Int) := h1068
      replace h1069 : y1038 ≤ y1057 := h1069
      replace h1070 : y1061 = 0 → y1038 + y1040 ≤ y1057 := h1070
      have hf1071 : 1 ≤ y1061 := by omega
      clear h1068
      clear h1070
      have hLx := h1067
      clear g1037 g1039 g1041 g1043 g1045 g1047 hf1052 h1048 h1069
      refine T_ld 149 (.ref 189) rfl (fun _ => rfl) ?_
      refine T_ld 150 (.int (i32 (m.1 25))) rfl (fun _ => rfl) ?_
      refine T_pf (l' := [(7, y1055), (8, y1057), (9, y1059), (10, y1061), (11, y1063), (12, y1065), (13, y989), (25, (m.1 25) + 1), (28, (m.1 28)), (64, (m.1 25)), (69, (m.1 69)), (70, (m.1 70)), (71, (m.1 71)), (72, (m.1 72)), (73, (m.1 73)), (74, (m.1 74)), (75, (m.1 75)), (99, (m.1 99)), (100, (m.1 100))]) 153 (m.1 25) rfl rfl rfl rfl rfl rfl ?_
      have g1072 : (-1) ≤ (m.1 25) ∧ (m.1 25) ≤ 15 := ⟨by omega, by omega⟩
      refine T_gf 157 (.int (i32 y1061)) rfl rfl rfl rfl rfl rfl ?_
      refine T_if 211 160 rfl rfl rfl (r32 (by omega) (by omega)) (fun (h1073 : y1061 ≠ 0) => ?_) (fun (h1073 : ¬ (y1061 ≠ 0)) => by exfalso; omega)
      refine T_ld 212 (.ref 189) rfl (fun _ => rfl) ?_
      refine T_ld 213 (.int (i32 (-1))) rfl (fun _ => rfl) ?_
      refine T_pf (l' := [(7, y1055), (8, y1057), (9, y1059), (10, y1061), (11, y1063), (12, y1065), (13, y989), (25, (m.1 25) + 1), (28, (m.1 28)), (64, (-1)), (69, (m.1 69)), (70, (m.1 70)), (71, (m.1 71)), (72, (m.1 72)), (73, (m.1 73)), (74, (m.1 74)), (75, (m.1 75)), (99, (m.1 99)), (100, (m.1 100))]) 216 (-1) rfl rfl rfl rfl rfl rfl ?_
      refine T_ld 217 (.ref 189) rfl (fun _ => rfl) ?_
      refine T_ld 219 (.int (i32 125)) rfl (fun _ => rfl) ?_
      refine T_call 222 232 [.ref 189, .int (i32 125)] [] rfl (fun _ => rfl) rfl (c_need w (mO m [(7, y1055), (8, y1057), (9, y1059), (10, y1061), (11, y1063), (12, y1065), (13, y989), (25, (m.1 25) + 1), (28, (m.1 28)), (64, (-1)), (69, (m.1 69)), (70, (m.1 70)), (71, (m.1 71)), (72, (m.1 72)), (73, (m.1 73)), (74, (m.1 74)), (75, (m.1 75)), (99, (m.1 99)), (100, (m.1 100))] [(14, F991), (15, F993), (16, F995), (17, F997), (46, upI (m.2 46) (m.1 25) 0), (47, (m.2 47)), (48, (m.2 48)), (49, (m.2 49)), (50, upI (m.2 50) (m.1 25) 0), (65, (m.2 65)), (66, (m.2 66)), (67, (m.2 67)), (68, (m.2 68)), (76, (m.2 76)), (77, (m.2 77)), (78, (m.2 78)), (79, (m.2 79)), (80, (m.2 80)), (81, (m.2 81)), (82, (m.2 82)), (83, (m.2 83)), (84, (m.2 84)), (85, (m.2 85)), (86, (m.2 86)), (87, (m.2 87)), (88, (m.2 88)), (89, (m.2 89)), (90, (m.2 90)), (91, (m.2 91)), (92, (m.2 92)), (101, (m.2 101)), (102, (m.2 102)), (103, (m.2 103)), (104, (m.2 104)), (105, (m.2 105)), (106, (m.2 106)), (107, (m.2 107)), (108, (m.2 108)), (109, upI (m.2 109) (m.1 25) (m.1 99))]) c N D (by omega) (Ty_mO hT rfl rfl ⟨g1056, g1058, g1060, g1062, g1064, g1066, g990, g1009, f28, ⟨(by omega : ((-1) : Int) ≤ (-1)), (by omega : ((-1) : Int) ≤ 15)⟩, f69, f70, f71, f72, f73, f74, f75, f99, f100, trivial⟩ ⟨G992, G994, G996, G998, G1011, (hT.2.1 47), (hT.2.1 48), (hT.2.1 49), G1012, (hT.2.1 65), (hT.2.1 66), (hT.2.1 67), (hT.2.1 68), (hT.2.1 76), (hT.2.1 77), (hT.2.1 78), (hT.2.1 79), (hT.2.1 80), (hT.2.1 81), (hT.2.1 82), (hT.2.1 83), (hT.2.1 84), (hT.2.1 85), (hT.2.1 86), (hT.2.1 87), (hT.2.1 88), (hT.2.1 89), (hT.2.1 90), (hT.2.1 91), (hT.2.1 92), (hT.2.1 101), (hT.2.1 102), (hT.2.1 103), (hT.2.1 104), (hT.2.1 105), (hT.2.1 106), (hT.2.1 107), (hT.2.1 108), G1010, trivial⟩) 125 ⟨by decide, by decide⟩ (show 1 ≤ (125 : Int) by omega) (show LxP y1055 y1057 y1059 (m.1 6) y1061 by first | exact hLx | (intro h9; exfalso; omega) | (intro h9; have h8 := hLx (by omega); omega))) (fun rr1074 k1075 => ?_)
      obtain ⟨y1076, y1078, y1080, y1082, y1084, y1086, g1077, g1079, g1081, g1083, g1085, g1087, h1088, h1089, h1090, h1091, rfl⟩ := k1075
      refine ⟨_, _, rfl, ?_⟩
      refine T_nf (st' := []) (l' := [(7, y1076), (8, y1078), (9, y1080), (10, y1082), (11, y1084), (12, y1086), (13, y989), (25, (m.1 25) + 1), (28, (m.1 28)), (64, (-1)), (69, (m.1 69)), (70, (m.1 70)), (71, (m.1 71)), (72, (m.1 72)), (73, (m.1 73)), (74, (m.1 74)), (75, (m.1 75)), (99, (m.1 99)), (100, (m.1 100))]) (a' := [(14, F991), (15, F993), (16, F995), (17, F997), (46, upI (m.2 46) (m.1 25) 0), (47, (m.2 47)), (48, (m.2 48)), (49, (m.2 49)), (50, upI (m.2 50) (m.1 25) 0), (65, (m.2 65)), (66, (m.2 66)), (67, (m.2 67)), (68, (m.2 68)), (76, (m.2 76)), (77, (m.2 77)), (78, (m.2 78)), (79, (m.2 79)), (80, (m.2 80)), (81, (m.2 81)), (82, (m.2 82)), (83, (m.2 83)), (84, (m.2 84)), (85, (m.2 85)), (86, (m.2 86)), (87, (m.2 87)), (88, (m.2 88)), (89, (m.2 89)), (90, (m.2 90)), (91, (m.2 91)), (92, (m.2 92)), (101, (m.2 101)), (102, (m.2 102)), (103, (m.2 103)), (104, (m.2 104)), (105, (m.2 105)), (106, (m.2 106)), (107, (m.2 107)), (108, (m.2 108)), (109, upI (m.2 109) (m.1 25) (m.1 99))]) rfl rfl rfl rfl rfl ?_
      replace h1088 : LxP y1076 y1078 y1080 (m.1 6) y1082 := h1088
      replace h1089 : y1082 = 0 → y1061 = 0 ∧ y1055 = (125 : Int) := h1089
      replace h1090 : y1057 ≤ y1078 := h1090
      replace h1091 : y1082 = 0 → y1057 + y1059 ≤ y1078 := h1091
      have hf1092 : 1 ≤ y1082 := by omega
      clear h1089
      clear h1091
      have hLx := h1088
      clear g1056 g1058 g1060 g1062 g1064 g1066 hf1071 h1067 h1073 h1090
      refine T_ret rfl (fun _ => rfl) ?_
      exact ⟨y1076, y1078, y1080, y1082, y1084, y1086, y989, (m.1 25) + 1, (m.1 28), (-1), (m.1 69), (m.1 70), (m.1 71), (m.1 72), (m.1 73), (m.1 74), (m.1 75), (m.1 99), (m.1 100), F991, F993, F995, F997, upI (m.2 46) (m.1 25) 0, (m.2 47), (m.2 48), (m.2 49), upI (m.2 50) (m.1 25) 0, (m.2 65), (m.2 66), (m.2 67), (m.2 68), (m.2 76), (m.2 77), (m.2 78), (m.2 79), (m.2 80), (m.2 81), (m.2 82), (m.2 83), (m.2 84), (m.2 85), (m.2 86), (m.2 87), (m.2 88), (m.2 89), (m.2 90), (m.2 91), (m.2 92), (m.2 101), (m.2 102), (m.2 103), (m.2 104), (m.2 105), (m.2 106), (m.2 107), (m.2 108), upI (m.2 109) (m.1 25) (m.1 99), g1077, g1079, g1081, g1083, g1085, g1087, g990, g1009, f28, ⟨by omega, by omega⟩, f69, f70, f71, f72, f73, f74, f75, f99, f100, G992, G994, G996, G998, G1011, (hT.2.1 47), (hT.2.1 48), (hT.2.1 49), G1012, (hT.2.1 65), (hT.2.1 66), (hT.2.1 67), (hT.2.1 68), (hT.2.1 76), (hT.2.1 77), (hT.2.1 78), (hT.2.1 79), (hT.2.1 80), (hT.2.1 81), (hT.2.1 82), (hT.2.1 83), (hT.2.1 84), (hT.2.1 85), (hT.2.1 86), (hT.2.1 87), (hT.2.1 88), (hT.2.1 89), (hT.2.1 90), (hT.2.1 91), (hT.2.1 92), (hT.2.1 101), (hT.2.1 102), (hT.2.1 103), (hT.2.1 104), (hT.2.1 105), (hT.2.1 106), (hT.2.1 107), (hT.2.1 108), G1010, (by omega), (by first | (first | exact hLx | (intro h9; exfalso; omega)) | (exfalso; omega)), (by first | (exact hNM) | (exfalso; omega)), (by first | (exact hPA) | (exfalso; omega)), (fun h => absurd h (by omega)), rfl⟩
    · skip
      refine T_ret rfl (fun _ => rfl) ?_
      exact ⟨y977, y979, y981, y983, y985, y987, y989, (m.1 25), (m.1 28), (m.1 64), (m.1 69), (m.1 70), (m.1 71), (m.1 72), (m.1 73), (m.1 74), (m.1 75), (m.1 99), (m.1 100), F991, F993, F995, F997, (m.2 46), (m.2 47), (m.2 48), (m.2 49), (m.2 50), (m.2 65), (m.2 66), (m.2 67), (m.2 68), (m.2 76), (m.2 77), (m.2 78), (m.2 79), (m.2 80), (m.2 81), (m.2 82), (m.2 83), (m.2 84), (m.2 85), (m.2 86), (m.2 87), (m.2 88), (m.2 89), (m.2 90), (m.2 91), (m.2 92), (m.2 101), (m.2 102), (m.2 103), (m.2 104), (m.2 105), (m.2 106), (m.2 107), (m.2 108), (m.2 109), g978, g980, g982, g984, g986, g988, g990, f25, f28, f64, f69, f70, f71, f72, f73, f74, f75, f99, f100, G992, G994, G996, G998, (hT.2.1 46), (hT.2.1 47), (hT.2.1 48), (hT.2.1 49), (hT.2.1 50), (hT.2.1 65), (hT.2.1 66), (hT.2.1 67), (hT.2.1 68), (hT.2.1 76), (hT.2.1 77), (hT.2.1 78), (hT.2.1 79), (hT.2.1 80), (hT.2.1 81), (hT.2.1 82), (hT.2.1 83), (hT.2.1 84), (hT.2.1 85), (hT.2.1 86), (hT.2.1 87), (hT.2.1 88), (hT.2.1 89), (hT.2.1 90), (hT.2.1 91), (hT.2.1 92), (hT.2.1 101), (hT.2.1 102), (hT.2.1 103), (hT.2.1 104), (hT.2.1 105), (hT.2.1 106), (hT.2.1 107), (hT.2.1 108), (hT.2.1 109), (by omega), (by first | (first | exact hLx | (intro h9; exfalso; omega)) | (exfalso; omega)), (by first | (exact hNM) | (exfalso; omega)), (by first | (exact hPA) | (exfalso; omega)), (fun h => absurd h (by omega)), rfl⟩
