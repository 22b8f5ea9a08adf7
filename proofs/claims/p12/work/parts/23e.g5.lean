def Q_after (m : mR) (c : Nat → Option am_C) (N : Nat) (B : Int) : ag_Re af_T → Prop := fun R => ∃ (y7 : Int) (y8 : Int) (y9 : Int) (y10 : Int) (y11 : Int) (y12 : Int) (y28 : Int) (y69 : Int) (y70 : Int) (y71 : Int) (y72 : Int) (y75 : Int) (F65 : Int → Int) (F66 : Int → Int) (F67 : Int → Int) (F68 : Int → Int), (0 ≤ y7 ∧ y7 ≤ 330) ∧ (0 ≤ y8 ∧ y8 ≤ 4000) ∧ (0 ≤ y9 ∧ y9 ≤ 4000) ∧ (0 ≤ y10 ∧ y10 ≤ 8) ∧ ((-1) ≤ y11 ∧ y11 ≤ 4000) ∧ ((-9223372036854775808) ≤ y12 ∧ y12 ≤ 9223372036854775807) ∧ (0 ≤ y28 ∧ y28 ≤ 800) ∧ (0 ≤ y69 ∧ y69 ≤ 1024) ∧ (0 ≤ y70 ∧ y70 ≤ 4000) ∧ (0 ≤ y71 ∧ y71 ≤ 1) ∧ ((-9223372036854775808) ≤ y72 ∧ y72 ≤ 9223372036854775807) ∧ (0 ≤ y75 ∧ y75 ≤ 3) ∧ (∀ j, 0 ≤ F65 j ∧ F65 j ≤ 408) ∧ (∀ j, 0 ≤ F66 j ∧ F66 j ≤ 64) ∧ (∀ j, 0 ≤ F67 j ∧ F67 j ≤ 191) ∧ (∀ j, (-9223372036854775808) ≤ F68 j ∧ F68 j ≤ 9223372036854775807) ∧ (y10 = 0 → (m.1 10) = 0) ∧ (LxP y7 y8 y9 (m.1 6) y10) ∧ (y10 = 0 → ((y75 = 1 ∧ (m.1 8) + 1 ≤ y8) ∨ (y75 = 2 ∧ y8 = (m.1 8))) ∧ (y69 ≤ 64) ∧ ((m.1 28) ≤ y28) ∧ (XS F65 F67 (m.2 76) (m.2 78) (m.2 79) (m.2 80) B y28 (m.1 73) (m.1 74) 1) ∧ (agr (m.2 65) F65 (m.1 28))) ∧ R = (.inl (none), (mhp (mO m [(7, y7), (8, y8), (9, y9), (10, y10), (11, y11), (12, y12), (28, y28), (69, y69), (70, y70), (71, y71), (72, y72), (75, y75)] [(65, F65), (66, F66), (67, F67), (68, F68)]) c, N), 0, 0)
set_option maxHeartbeats 8000000 in
theorem c_after (w : wX) (m : mR) (c : Nat → Option am_C) (N D : Nat) (hD : 7 ≤ D) (hT : Ty m) (B : Int) (hLx0 : LxP (m.1 7) (m.1 8) (m.1 9) (m.1 6) (m.1 10)) (hf0 : m.1 10 = 0) (hC : (XS (m.2 65) (m.2 67) (m.2 76) (m.2 78) (m.2 79) (m.2 80) B (m.1 28) (m.1 73) (m.1 74) 1) ∧ ((m.1 75) = 1) ∧ ((m.1 69) ≤ 64)) : TC w D 255 [.ref 189] (mhp m c, N) (Q_after m c N B) := by
  obtain ⟨D, rfl⟩ : ∃ k, D = k + 1 := ⟨D - 1, by omega⟩
  have hLx := hLx0
  have f7 : 0 ≤ m.1 7 ∧ m.1 7 ≤ 330 := hT.1 7
  have f8 : 0 ≤ m.1 8 ∧ m.1 8 ≤ 4000 := hT.1 8
  have f9 : 0 ≤ m.1 9 ∧ m.1 9 ≤ 4000 := hT.1 9
  have f10 : 0 ≤ m.1 10 ∧ m.1 10 ≤ 8 := hT.1 10
  have f11 : (-1) ≤ m.1 11 ∧ m.1 11 ≤ 4000 := hT.1 11
  have f12 : (-9223372036854775808) ≤ m.1 12 ∧ m.1 12 ≤ 9223372036854775807 := hT.1 12
  have f28 : 0 ≤ m.1 28 ∧ m.1 28 ≤ 800 := hT.1 28
  have f69 : 0 ≤ m.1 69 ∧ m.1 69 ≤ 1024 := hT.1 69
  have f70 : 0 ≤ m.1 70 ∧ m.1 70 ≤ 4000 := hT.1 70
  have f71 : 0 ≤ m.1 71 ∧ m.1 71 ≤ 1 := hT.1 71
  have f72 : (-9223372036854775808) ≤ m.1 72 ∧ m.1 72 ≤ 9223372036854775807 := hT.1 72
  have f75 : 0 ≤ m.1 75 ∧ m.1 75 ≤ 3 := hT.1 75
  have f74 : 0 ≤ m.1 74 ∧ m.1 74 ≤ 24 := hT.1 74
  have f73 : 0 ≤ m.1 73 ∧ m.1 73 ≤ 60 := hT.1 73
  have f6 : 0 ≤ m.1 6 ∧ m.1 6 ≤ 4000 := hT.1 6
  refine Tc_of rfl ?_
  show TT w D pm_255 (0, [(0, .ref 189)], [], (mhp m c, N), 0, 0) (Q_after m c N B)
  rw [show (mhp m c, N) = (mhp (mO m [(7, (m.1 7)), (8, (m.1 8)), (9, (m.1 9)), (10, (m.1 10)), (11, (m.1 11)), (12, (m.1 12)), (28, (m.1 28)), (69, (m.1 69)), (70, (m.1 70)), (71, (m.1 71)), (72, (m.1 72)), (75, (m.1 75))] [(65, (m.2 65)), (66, (m.2 66)), (67, (m.2 67)), (68, (m.2 68))]) c, N) from congrArg (fun M => (mhp M c, N)) (mO_pad m [7, 8, 9, 10, 11, 12, 28, 69, 70, 71, 72, 75] [65, 66, 67, 68])]
  obtain ⟨hXS, c1, c2⟩ := hC
  have h7 := hLx (by omega)
  have hEX := hXS.1.1
  have hl0 : 0 ≤ lh (m.2 79) (m.2 80) (m.1 73) := lh_0 (hT.2.1 79) _ _
  have hXE := hXS
  have hAgC := agr_r (m.2 65) (m.1 28)
  have J207_118 : ∀ (v106 : Int) (y107 : Int) (y108 : Int) (y109 : Int) (y110 : Int) (y111 : Int) (y112 : Int) (y113 : Int) (F114 : Int → Int) (F115 : Int → Int) (F116 : Int → Int) (F117 : Int → Int), (R32 v106) → (0 ≤ y107 ∧ y107 ≤ 330) → (0 ≤ y108 ∧ y108 ≤ 4000) → (0 ≤ y109 ∧ y109 ≤ 4000) → (0 ≤ y110 ∧ y110 ≤ 8) → ((-1) ≤ y111 ∧ y111 ≤ 4000) → ((-9223372036854775808) ≤ y112 ∧ y112 ≤ 9223372036854775807) → (0 ≤ y113 ∧ y113 ≤ 800) → (∀ j, 0 ≤ F114 j ∧ F114 j ≤ 408) → (∀ j, 0 ≤ F115 j ∧ F115 j ≤ 64) → (∀ j, 0 ≤ F116 j ∧ F116 j ≤ 191) → (∀ j, (-9223372036854775808) ≤ F117 j ∧ F117 j ≤ 9223372036854775807) → (1 ≤ y110) → (y110 ≤ 8) → TT w D pm_255 (207, [(0, .ref 189), (1, .int (i32 v106))], [], (mhp (mO m [(7, y107), (8, y108), (9, y109), (10, y110), (11, y111), (12, y112), (28, y113), (69, (m.1 69)), (70, (m.1 70)), (71, (m.1 71)), (72, (m.1 72)), (75, (m.1 75))] [(65, F114), (66, F115), (67, F116), (68, F117)]) c, N), 0, 0) (Q_after m c N B) := by
    intro v106 y107 y108 y109 y110 y111 y112 y113 F114 F115 F116 F117 q119 q120 q121 q122 q123 q124 q125 q126 q127 q128 q129 q130 ic131 ic132
    obtain ⟨q119a, q119b⟩ := id q119
    refine T_ld 208 (.ref 189) rfl (fun _ => rfl) ?_
    refine T_ld 209 (.int (i32 v106)) rfl (fun _ => rfl) ?_
    refine T_gf 213 (.int (i32 (m.1 70))) rfl rfl rfl rfl rfl rfl ?_
    refine T_call 216 250 [.ref 189, .int (i32 v106), .int (i32 (m.1 70))] [] rfl (fun _ => rfl) rfl (c_unit w (mO m [(7, y107), (8, y108), (9, y109), (10, y110), (11, y111), (12, y112), (28, y113), (69, (m.1 69)), (70, (m.1 70)), (71, (m.1 71)), (72, (m.1 72)), (75, (m.1 75))] [(65, F114), (66, F115), (67, F116), (68, F117)]) c N D (by omega) (Ty_mO hT rfl rfl ⟨q120, q121, q122, q123, q124, q125, q126, f69, f70, f71, f72, f75, trivial⟩ ⟨q127, q128, q129, q130, trivial⟩) v106 (m.1 70) (r32 (by omega) (by omega)) (r32 (by omega) (by omega)) (show 0 ≤ v106 ∧ v106 ≤ 1024 by omega) (show 0 ≤ (m.1 70) ∧ (m.1 70) ≤ 4000 by omega)) (fun rr134 k135 => ?_)
    obtain ⟨y136, y138, y140, y142, g137, g139, g141, g143, h144, rfl⟩ := k135
    refine ⟨_, _, rfl, ?_⟩
    refine T_nf (st' := []) (l' := [(7, y107), (8, y108), (9, y109), (10, y110), (11, y111), (12, y112), (28, y113), (69, y136), (70, y138), (71, y140), (72, y142), (75, (m.1 75))]) (a' := [(65, F114), (66, F115), (67, F116), (68, F117)]) rfl rfl rfl rfl rfl ?_
    replace h144 : y136 = v106 := h144
    refine T_goto 224 rfl (fun _ => rfl) ?_
    refine T_ret rfl (fun _ => rfl) ?_
    exact ⟨y107, y108, y109, y110, y111, y112, y113, y136, y138, y140, y142, (m.1 75), F114, F115, F116, F117, q120, q121, q122, q123, q124, q125, q126, g137, g139, g141, g143, f75, q127, q128, q129, q130, (by omega), (by first | (first | exact hLx | (intro h9; exfalso; omega)) | (exfalso; omega)), (fun h => absurd h (by omega)), rfl⟩
  have J196_152 : ∀ (s145 : Int) (y146 : Int) (y147 : Int) (y148 : Int) (y149 : Int) (y150 : Int) (y151 : Int), (R32 s145) → (0 ≤ y146 ∧ y146 ≤ 330) → (0 ≤ y147 ∧ y147 ≤ 4000) → (0 ≤ y148 ∧ y148 ≤ 4000) → (0 ≤ y149 ∧ y149 ≤ 8) → ((-1) ≤ y150 ∧ y150 ≤ 4000) → ((-9223372036854775808) ≤ y151 ∧ y151 ≤ 9223372036854775807) → (1 ≤ y149) → (y149 ≤ 8) → TT w D pm_255 (196, [(0, .ref 189)], [.int (i32 s145)], (mhp (mO m [(7, y146), (8, y147), (9, y148), (10, y149), (11, y150), (12, y151), (28, (m.1 28)), (69, (m.1 69)), (70, (m.1 70)), (71, (m.1 71)), (72, (m.1 72)), (75, (m.1 75))] [(65, (m.2 65)), (66, (m.2 66)), (67, (m.2 67)), (68, (m.2 68))]) c, N), 0, 0) (Q_after m c N B) := by
    intro s145 y146 y147 y148 y149 y150 y151 q153 q154 q155 q156 q157 q158 q159 ic160 ic161
    obtain ⟨q153a, q153b⟩ := id q153
    refine T_sto 197 [(1, .int (i32 s145)), (0, .ref 189)] rfl (fun _ => rfl) ?_
    refine T_ld 198 (.ref 189) rfl (fun _ => rfl) ?_
    refine T_ld 201 (.int (i32 406)) rfl (fun _ => rfl) ?_
    refine T_ld 202 (.int (i32 s145)) rfl (fun _ => rfl) ?_
    refine T_ld 203 (.int (i32 0)) rfl (fun _ => rfl) ?_
    refine T_ld 204 (.long (i64 0)) rfl (fun _ => rfl) ?_
    refine T_call 207 248 [.ref 189, .int (i32 406), .int (i32 s145), .int (i32 0), .long (i64 0)] [] rfl (fun _ => rfl) rfl (c_node w (mO m [(7, y146), (8, y147), (9, y148), (10, y149), (11, y150), (12, y151), (28, (m.1 28)), (69, (m.1 69)), (70, (m.1 70)), (71, (m.1 71)), (72, (m.1 72)), (75, (m.1 75))] [(65, (m.2 65)), (66, (m.2 66)), (67, (m.2 67)), (68, (m.2 68))]) c N D (by omega) (Ty_mO hT rfl rfl ⟨q154, q155, q156, q157, q158, q159, f28, f69, f70, f71, f72, f75, trivial⟩ ⟨(hT.2.1 65), (hT.2.1 66), (hT.2.1 67), (hT.2.1 68), trivial⟩) 406 s145 0 0 B (1 + lh (m.2 79) (m.2 80) (m.1 73)) ⟨by decide, by decide⟩ (r32 (by omega) (by omega)) ⟨by decide, by decide⟩ ⟨by decide, by decide⟩ (fun (h : y149 = 0) => absurd h (by omega))) (fun rr163 k164 => ?_)
    obtain ⟨y165, y167, y169, F171, F173, F175, F177, g166, g168, g170, G172, G174, G176, G178, h179, c180, rfl⟩ := k164
    refine ⟨_, _, rfl, ?_⟩
    refine T_nf (st' := []) (l' := [(7, y146), (8, y147), (9, y148), (10, y165), (11, y167), (12, y151), (28, y169), (69, (m.1 69)), (70, (m.1 70)), (71, (m.1 71)), (72, (m.1 72)), (75, (m.1 75))]) (a' := [(65, F171), (66, F173), (67, F175), (68, F177)]) rfl rfl rfl rfl rfl ?_
    replace h179 : y165 = 0 → y149 = 0 := h179
    have hf181 : 1 ≤ y165 := by omega
    clear c180
    clear h179
    clear q157 q158 ic160 ic161
    refine Tm_lv (a := [(0, .ref 189), (1, .int (i32 s145))]) rfl rfl ⟨rfl, rfl, trivial⟩ ?_
    exact J207_118 s145 y146 y147 y148 y165 y167 y151 y169 F171 F173 F175 F177 (r32 (by omega) (by omega)) q154 q155 q156 g166 g168 q159 g170 G172 G174 G176 G178 (by omega) (by omega)
  have J159_196 : ∀ (v182 : Int) (v183 : Int) (v184 : Int) (y185 : Int) (y186 : Int) (y187 : Int) (y188 : Int) (y189 : Int) (y190 : Int) (y191 : Int) (F192 : Int → Int) (F193 : Int → Int) (F194 : Int → Int) (F195 : Int → Int), (R32 v182) → (R64 v183) → (R64 v184) → (0 ≤ y185 ∧ y185 ≤ 330) → (0 ≤ y186 ∧ y186 ≤ 4000) → (0 ≤ y187 ∧ y187 ≤ 4000) → (0 ≤ y188 ∧ y188 ≤ 8) → ((-1) ≤ y189 ∧ y189 ≤ 4000) → ((-9223372036854775808) ≤ y190 ∧ y190 ≤ 9223372036854775807) → (0 ≤ y191 ∧ y191 ≤ 800) → (∀ j, 0 ≤ F192 j ∧ F192 j ≤ 408) → (∀ j, 0 ≤ F193 j ∧ F193 j ≤ 64) → (∀ j, 0 ≤ F194 j ∧ F194 j ≤ 191) → (∀ j, (-9223372036854775808) ≤ F195 j ∧ F195 j ≤ 9223372036854775807) → (0 ≤ v182) → (v182 ≤ 4000) → (1 ≤ y188) → (y188 ≤ 8) → (0 ≤ (m.1 70) ∧ (m.1 70) ≤ 4000) → TT w D pm_255 (159, [(0, .ref 189), (1, .int (i32 v182)), (2, .long (i64 v183)), (4, .long (i64 v184)), (6, .int (i32 (m.1 70)))], [], (mhp (mO m [(7, y185), (8, y186), (9, y187), (10, y188), (11, y189), (12, y190), (28, y191), (69, (m.1 69)), (70, (m.1 70)), (71, (m.1 71)), (72, (m.1 72)), (75, (m.1 75))] [(65, F192), (66, F193), (67, F194), (68, F195)]) c, N), 0, 0) (Q_after m c N B) := by
    intro v182 v183 v184 y185 y186 y187 y188 y189 y190 y191 F192 F193 F194 F195 q197 q198 q199 q200 q201 q202 q203 q204 q205 q206 q207 q208 q209 q210 ic211 ic212 ic213 ic214 ic215
    obtain ⟨q197a, q197b⟩ := id q197
    obtain ⟨q198a, q198b⟩ := id q198
    obtain ⟨q199a, q199b⟩ := id q199
    refine T_ld 160 (.ref 189) rfl (fun _ => rfl) ?_
    refine T_ld 161 (.long (i64 v183)) rfl (fun _ => rfl) ?_
    refine T_ld 163 (.long (i64 v184)) rfl (fun _ => rfl) ?_
    refine T_lsub 164 rfl rfl ?_
    refine T_l2i 165 rfl rfl ?_
    refine T_ld 166 (.int (i32 1)) rfl (fun _ => rfl) ?_
    refine T_iadd 167 rfl rfl ?_
    refine T_ld 169 (.int (i32 (m.1 70))) rfl (fun _ => rfl) ?_
    refine T_call 172 250 [.ref 189, .int (i32 ((v183 - v184) + 1)), .int (i32 (m.1 70))] [] rfl (fun _ => rfl) rfl (c_unit w (mO m [(7, y185), (8, y186), (9, y187), (10, y188), (11, y189), (12, y190), (28, y191), (69, (m.1 69)), (70, (m.1 70)), (71, (m.1 71)), (72, (m.1 72)), (75, (m.1 75))] [(65, F192), (66, F193), (67, F194), (68, F195)]) c N D (by omega) (Ty_mO hT rfl rfl ⟨q200, q201, q202, q203, q204, q205, q206, f69, f70, f71, f72, f75, trivial⟩ ⟨q207, q208, q209, q210, trivial⟩) ((v183 - v184) + 1) (m.1 70) (r32 (by omega) (by omega)) (r32 (by omega) (by omega)) (show 0 ≤ ((v183 - v184) + 1) ∧ ((v183 - v184) + 1) ≤ 1024 by omega) (show 0 ≤ (m.1 70) ∧ (m.1 70) ≤ 4000 by omega)) (fun rr217 k218 => ?_)
    obtain ⟨y219, y221, y223, y225, g220, g222, g224, g226, h227, rfl⟩ := k218
    refine ⟨_, _, rfl, ?_⟩
    refine T_nf (st' := []) (l' := [(7, y185), (8, y186), (9, y187), (10, y188), (11, y189), (12, y190), (28, y191), (69, y219), (70, y221), (71, y223), (72, y225), (75, (m.1 75))]) (a' := [(65, F192), (66, F193), (67, F194), (68, F195)]) rfl rfl rfl rfl rfl ?_
    replace h227 : y219 = ((v183 - v184) + 1) := h227
    refine T_goto 224 rfl (fun _ => rfl) ?_
    refine T_ret rfl (fun _ => rfl) ?_
    exact ⟨y185, y186, y187, y188, y189, y190, y191, y219, y221, y223, y225, (m.1 75), F192, F193, F194, F195, q200, q201, q202, q203, q204, q205, q206, g220, g222, g224, g226, f75, q207, q208, q209, q210, (by omega), (by first | (first | exact hLx | (intro h9; exfalso; omega)) | (exfalso; omega)), (fun h => absurd h (by omega)), rfl⟩
  have J127_237 : ∀ (v228 : Int) (v229 : Int) (v230 : Int) (y231 : Int) (y232 : Int) (y233 : Int) (y234 : Int) (y235 : Int) (y236 : Int), (R32 v228) → (R64 v229) → (R64 v230) → (0 ≤ y231 ∧ y231 ≤ 330) → (0 ≤ y232 ∧ y232 ≤ 4000) → (0 ≤ y233 ∧ y233 ≤ 4000) → (0 ≤ y234 ∧ y234 ≤ 8) → ((-1) ≤ y235 ∧ y235 ≤ 4000) → ((-9223372036854775808) ≤ y236 ∧ y236 ≤ 9223372036854775807) → (0 ≤ v228) → (v228 ≤ 4000) → (1 ≤ y234) → (y234 ≤ 8) → TT w D pm_255 (127, [(0, .ref 189), (1, .int (i32 v228)), (2, .long (i64 v229)), (4, .long (i64 v230))], [], (mhp (mO m [(7, y231), (8, y232), (9, y233), (10, y234), (11, y235), (12, y236), (28, (m.1 28)), (69, (m.1 69)), (70, (m.1 70)), (71, (m.1 71)), (72, (m.1 72)), (75, (m.1 75))] [(65, (m.2 65)), (66, (m.2 66)), (67, (m.2 67)), (68, (m.2 68))]) c, N), 0, 0) (Q_after m c N B) := by
    intro v228 v229 v230 y231 y232 y233 y234 y235 y236 q238 q239 q240 q241 q242 q243 q244 q245 q246 ic247 ic248 ic249 ic250
    obtain ⟨q238a, q238b⟩ := id q238
    obtain ⟨q239a, q239b⟩ := id q239
    obtain ⟨q240a, q240b⟩ := id q240
    refine T_gf 131 (.int (i32 y234)) rfl rfl rfl rfl rfl rfl ?_
    refine T_if 135 134 rfl rfl rfl (r32 (by omega) (by omega)) (fun (h252 : y234 ≤ 0) => by exfalso; omega) (fun (h252 : ¬ (y234 ≤ 0)) => ?_)
    refine T_ret rfl (fun _ => rfl) ?_
    exact ⟨y231, y232, y233, y234, y235, y236, (m.1 28), (m.1 69), (m.1 70), (m.1 71), (m.1 72), (m.1 75), (m.2 65), (m.2 66), (m.2 67), (m.2 68), q241, q242, q243, q244, q245, q246, f28, f69, f70, f71, f72, f75, (hT.2.1 65), (hT.2.1 66), (hT.2.1 67), (hT.2.1 68), (by omega), (by first | (first | exact hLx | (intro h9; exfalso; omega)) | (exfalso; omega)), (fun h => absurd h (by omega)), rfl⟩
  have J121_262 : ∀ (v253 : Int) (v254 : Int) (v255 : Int) (y256 : Int) (y257 : Int) (y258 : Int) (y259 : Int) (y260 : Int) (y261 : Int), (R32 v253) → (R64 v254) → (R64 v255) → (0 ≤ y256 ∧ y256 ≤ 330) → (0 ≤ y257 ∧ y257 ≤ 4000) → (0 ≤ y258 ∧ y258 ≤ 4000) → (0 ≤ y259 ∧ y259 ≤ 8) → ((-1) ≤ y260 ∧ y260 ≤ 4000) → ((-9223372036854775808) ≤ y261 ∧ y261 ≤ 9223372036854775807) → (0 ≤ v253) → (v253 ≤ 4000) → (1 ≤ y259) → (y259 ≤ 8) → TT w D pm_255 (121, [(0, .ref 189), (1, .int (i32 v253)), (2, .long (i64 v254)), (4, .long (i64 v255))], [], (mhp (mO m [(7, y256), (8, y257), (9, y258), (10, y259), (11, y260), (12, y261), (28, (m.1 28)), (69, (m.1 69)), (70, (m.1 70)), (71, (m.1 71)), (72, (m.1 72)), (75, (m.1 75))] [(65, (m.2 65)), (66, (m.2 66)), (67, (m.2 67)), (68, (m.2 68))]) c, N), 0, 0) (Q_after m c N B) := by
    intro v253 v254 v255 y256 y257 y258 y259 y260 y261 q263 q264 q265 q266 q267 q268 q269 q270 q271 ic272 ic273 ic274 ic275
    obtain ⟨q263a, q263b⟩ := id q263
    obtain ⟨q264a, q264b⟩ := id q264
    obtain ⟨q265a, q265b⟩ := id q265
    refine T_ld 122 (.ref 189) rfl (fun _ => rfl) ?_
    refine T_ld 124 (.int (i32 93)) rfl (fun _ => rfl) ?_
    refine T_call 127 232 [.ref 189, .int (i32 93)] [] rfl (fun _ => rfl) rfl (c_need w (mO m [(7, y256), (8, y257), (9, y258), (10, y259), (11, y260), (12, y261), (28, (m.1 28)), (69, (m.1 69)), (70, (m.1 70)), (71, (m.1 71)), (72, (m.1 72)), (75, (m.1 75))] [(65, (m.2 65)), (66, (m.2 66)), (67, (m.2 67)), (68, (m.2 68))]) c N D (by omega) (Ty_mO hT rfl rfl ⟨q266, q267, q268, q269, q270, q271, f28, f69, f70, f71, f72, f75, trivial⟩ ⟨(hT.2.1 65), (hT.2.1 66), (hT.2.1 67), (hT.2.1 68), trivial⟩) 93 ⟨by decide, by decide⟩ (show 1 ≤ (93 : Int) by omega) (show LxP y256 y257 y258 (m.1 6) y259 by first | exact hLx | (intro h9; exfalso; omega) | (intro h9; have h8 := hLx (by omega); omega))) (fun rr277 k278 => ?_)
    obtain ⟨y279, y281, y283, y285, y287, y289, g280, g282, g284, g286, g288, g290, h291, h292, h293, h294, rfl⟩ := k278
    refine ⟨_, _, rfl, ?_⟩
    refine T_nf (st' := []) (l' := [(7, y279), (8, y281), (9, y283), (10, y285), (11, y287), (12, y289), (28, (m.1 28)), (69, (m.1 69)), (70, (m.1 70)), (71, (m.1 71)), (72, (m.1 72)), (75, (m.1 75))]) (a' := [(65, (m.2 65)), (66, (m.2 66)), (67, (m.2 67)), (68, (m.2 68))]) rfl rfl rfl rfl rfl ?_
    replace h291 : LxP y279 y281 y283 (m.1 6) y285 := h291
    replace h292 : y285 = 0 → y259 = 0 ∧ y256 = (93 : Int) := h292
    replace h293 : y257 ≤ y281 := h293
    replace h294 : y285 = 0 → y257 + y258 ≤ y281 := h294
    have hf295 : 1 ≤ y285 := by omega
    clear h292
    clear h294
    have hLx := h291
    clear q266 q267 q268 q269 q270 q271 ic274 ic275 h293
    exact J127_237 v253 v254 v255 y279 y281 y283 y285 y287 y289 (r32 (by omega) (by omega)) (r64 (by omega) (by omega)) (r64 (by omega) (by omega)) g280 g282 g284 g286 g288 g290 (by omega) (by omega) (by omega) (by omega)
  have J74_305 : ∀ (v296 : Int) (v297 : Int) (v298 : Int) (y299 : Int) (y300 : Int) (y301 : Int) (y302 : Int) (y303 : Int) (y304 : Int), (R32 v296) → (R64 v297) → (R64 v298) → (0 ≤ y299 ∧ y299 ≤ 330) → (0 ≤ y300 ∧ y300 ≤ 4000) → (0 ≤ y301 ∧ y301 ≤ 4000) → (0 ≤ y302 ∧ y302 ≤ 8) → ((-1) ≤ y303 ∧ y303 ≤ 4000) → ((-9223372036854775808) ≤ y304 ∧ y304 ≤ 9223372036854775807) → (0 ≤ v296) → (v296 ≤ 4000) → (1 ≤ y302) → (y302 ≤ 8) → TT w D pm_255 (74, [(0, .ref 189), (1, .int (i32 v296)), (2, .long (i64 v297)), (4, .long (i64 v298))], [], (mhp (mO m [(7, y299), (8, y300), (9, y301), (10, y302), (11, y303), (12, y304), (28, (m.1 28)), (69, (m.1 69)), (70, (m.1 70)), (71, (m.1 71)), (72, (m.1 72)), (75, (m.1 75))] [(65, (m.2 65)), (66, (m.2 66)), (67, (m.2 67)), (68, (m.2 68))]) c, N), 0, 0) (Q_after m c N B) := by
    intro v296 v297 v298 y299 y300 y301 y302 y303 y304 q306 q307 q308 q309 q310 q311 q312 q313 q314 ic315 ic316 ic317 ic318
    obtain ⟨q306a, q306b⟩ := id q306
    obtain ⟨q307a, q307b⟩ := id q307
    obtain ⟨q308a, q308b⟩ := id q308
    refine T_gf 78 (.int (i32 y302)) rfl rfl rfl rfl rfl rfl ?_
    refine T_if 121 81 rfl rfl rfl (r32 (by omega) (by omega)) (fun (h320 : y302 ≠ 0) => ?_) (fun (h320 : ¬ (y302 ≠ 0)) => by exfalso; omega)
    refine T_ld 122 (.ref 189) rfl (fun _ => rfl) ?_
    refine T_ld 124 (.int (i32 93)) rfl (fun _ => rfl) ?_
    refine T_call 127 232 [.ref 189, .int (i32 93)] [] rfl (fun _ => rfl) rfl (c_need w (mO m [(7, y299), (8, y300), (9, y301), (10, y302), (11, y303), (12, y304), (28, (m.1 28)), (69, (m.1 69)), (70, (m.1 70)), (71, (m.1 71)), (72, (m.1 72)), (75, (m.1 75))] [(65, (m.2 65)), (66, (m.2 66)), (67, (m.2 67)), (68, (m.2 68))]) c N D (by omega) (Ty_mO hT rfl rfl ⟨q309, q310, q311, q312, q313, q314, f28, f69, f70, f71, f72, f75, trivial⟩ ⟨(hT.2.1 65), (hT.2.1 66), (hT.2.1 67), (hT.2.1 68), trivial⟩) 93 ⟨by decide, by decide⟩ (show 1 ≤ (93 : Int) by omega) (show LxP y299 y300 y301 (m.1 6) y302 by first | exact hLx | (intro h9; exfalso; omega) | (intro h9; have h8 := hLx (by omega); omega))) (fun rr321 k322 => ?_)
    obtain ⟨y323, y325, y327, y329, y331, y333, g324, g326, g328, g330, g332, g334, h335, h336, h337, h338, rfl⟩ := k322
    refine ⟨_, _, rfl, ?_⟩
    refine T_nf (st' := []) (l' := [(7, y323), (8, y325), (9, y327), (10, y329), (11, y331), (12, y333), (28, (m.1 28)), (69, (m.1 69)), (70, (m.1 70)), (71, (m.1 71)), (72, (m.1 72)), (75, (m.1 75))]) (a' := [(65, (m.2 65)), (66, (m.2 66)), (67, (m.2 67)), (68, (m.2 68))]) rfl rfl rfl rfl rfl ?_
    replace h335 : LxP y323 y325 y327 (m.1 6) y329 := h335
    replace h336 : y329 = 0 → y302 = 0 ∧ y299 = (93 : Int) := h336
    replace h337 : y300 ≤ y325 := h337
    replace h338 : y329 = 0 → y300 + y301 ≤ y325 := h338
    have hf339 : 1 ≤ y329 := by omega
    clear h336
    clear h338
    have hLx := h335
    clear q309 q310 q311 q312 q313 q314 ic317 ic318 h320 h337
    exact J127_237 v296 v297 v298 y323 y325 y327 y329 y331 y333 (r32 (by omega) (by omega)) (r64 (by omega) (by omega)) (r64 (by omega) (by omega)) g324 g326 g328 g330 g332 g334 (by omega) (by omega) (by omega) (by omega)
  have J45_348 : ∀ (v340 : Int) (v341 : Int) (y342 : Int) (y343 : Int) (y344 : Int) (y345 : Int) (y346 : Int) (y347 : Int), (R32 v340) → (R64 v341) → (0 ≤ y342 ∧ y342 ≤ 330) → (0 ≤ y343 ∧ y343 ≤ 4000) → (0 ≤ y344 ∧ y344 ≤ 4000) → (0 ≤ y345 ∧ y345 ≤ 8) → ((-1) ≤ y346 ∧ y346 ≤ 4000) → ((-9223372036854775808) ≤ y347 ∧ y347 ≤ 9223372036854775807) → (0 ≤ v340) → (v340 ≤ 4000) → (1 ≤ y345) → (y345 ≤ 8) → TT w D pm_255 (45, [(0, .ref 189), (1, .int (i32 v340)), (2, .long (i64 v341))], [], (mhp (mO m [(7, y342), (8, y343), (9, y344), (10, y345), (11, y346), (12, y347), (28, (m.1 28)), (69, (m.1 69)), (70, (m.1 70)), (71, (m.1 71)), (72, (m.1 72)), (75, (m.1 75))] [(65, (m.2 65)), (66, (m.2 66)), (67, (m.2 67)), (68, (m.2 68))]) c, N), 0, 0) (Q_after m c N B) := by
    intro v340 v341 y342 y343 y344 y345 y346 y347 q349 q350 q351 q352 q353 q354 q355 q356 ic357 ic358 ic359 ic360
    obtain ⟨q349a, q349b⟩ := id q349
    obtain ⟨q350a, q350b⟩ := id q350
    refine T_gf 49 (.int (i32 y345)) rfl rfl rfl rfl rfl rfl ?_
    refine T_if 64 52 rfl rfl rfl (r32 (by omega) (by omega)) (fun (h362 : y345 ≠ 0) => ?_) (fun (h362 : ¬ (y345 ≠ 0)) => by exfalso; omega)
    refine T_gf 68 (.long (i64 y347)) rfl rfl rfl rfl rfl rfl ?_
    refine T_sto 70 [(4, .long (i64 y347)), (0, .ref 189), (1, .int (i32 v340)), (2, .long (i64 v341))] rfl (fun _ => rfl) ?_
    refine T_ld 71 (.ref 189) rfl (fun _ => rfl) ?_
    refine T_call 74 212 [.ref 189] [] rfl (fun _ => rfl) rfl (c_next w (mO m [(7, y342), (8, y343), (9, y344), (10, y345), (11, y346), (12, y347), (28, (m.1 28)), (69, (m.1 69)), (70, (m.1 70)), (71, (m.1 71)), (72, (m.1 72)), (75, (m.1 75))] [(65, (m.2 65)), (66, (m.2 66)), (67, (m.2 67)), (68, (m.2 68))]) c N D (by omega) (Ty_mO hT rfl rfl ⟨q351, q352, q353, q354, q355, q356, f28, f69, f70, f71, f72, f75, trivial⟩ ⟨(hT.2.1 65), (hT.2.1 66), (hT.2.1 67), (hT.2.1 68), trivial⟩) (show y345 = 0 → y343 + y344 ≤ (m.1 6) by first | omega | (intro h9; have h8 := hLx h9; omega))) (fun rr363 k364 => ?_)
    obtain ⟨y365, y367, y369, y371, y373, y375, g366, g368, g370, g372, g374, g376, h377, h378, h379, h380, rfl⟩ := k364
    refine ⟨_, _, rfl, ?_⟩
    refine T_nf (st' := []) (l' := [(7, y365), (8, y367), (9, y369), (10, y371), (11, y373), (12, y375), (28, (m.1 28)), (69, (m.1 69)), (70, (m.1 70)), (71, (m.1 71)), (72, (m.1 72)), (75, (m.1 75))]) (a' := [(65, (m.2 65)), (66, (m.2 66)), (67, (m.2 67)), (68, (m.2 68))]) rfl rfl rfl rfl rfl ?_
    replace h377 : LxP y365 y367 y369 (m.1 6) y371 := h377
    replace h378 : y371 = 0 → y345 = 0 := h378
    replace h379 : y343 ≤ y367 := h379
    replace h380 : y371 = 0 → y343 + y344 ≤ y367 := h380
    have hf381 : 1 ≤ y371 := by omega
    clear h378
    clear h380
    have hLx := h377
    clear q351 q352 q353 q354 q355 ic359 ic360 h362 h379
    refine Tm_lv (a := [(0, .ref 189), (1, .int (i32 v340)), (2, .long (i64 v341)), (4, .long (i64 y347))]) rfl rfl ⟨rfl, rfl, rfl, rfl, trivial⟩ ?_
    exact J74_305 v340 v341 y347 y365 y367 y369 y371 y373 y375 (r32 (by omega) (by omega)) (r64 (by omega) (by omega)) (r64 (by omega) (by omega)) g366 g368 g370 g372 g374 g376 (by omega) (by omega) (by omega) (by omega)
  have J39_390 : ∀ (v382 : Int) (v383 : Int) (y384 : Int) (y385 : Int) (y386 : Int) (y387 : Int) (y388 : Int) (y389 : Int), (R32 v382) → (R64 v383) → (0 ≤ y384 ∧ y384 ≤ 330) → (0 ≤ y385 ∧ y385 ≤ 4000) → (0 ≤ y386 ∧ y386 ≤ 4000) → (0 ≤ y387 ∧ y387 ≤ 8) → ((-1) ≤ y388 ∧ y388 ≤ 4000) → ((-9223372036854775808) ≤ y389 ∧ y389 ≤ 9223372036854775807) → (0 ≤ v382) → (v382 ≤ 4000) → (1 ≤ y387) → (y387 ≤ 8) → TT w D pm_255 (39, [(0, .ref 189), (1, .int (i32 v382)), (2, .long (i64 v383))], [], (mhp (mO m [(7, y384), (8, y385), (9, y386), (10, y387), (11, y388), (12, y389), (28, (m.1 28)), (69, (m.1 69)), (70, (m.1 70)), (71, (m.1 71)), (72, (m.1 72)), (75, (m.1 75))] [(65, (m.2 65)), (66, (m.2 66)), (67, (m.2 67)), (68, (m.2 68))]) c, N), 0, 0) (Q_after m c N B) := by
    intro v382 v383 y384 y385 y386 y387 y388 y389 q391 q392 q393 q394 q395 q396 q397 q398 ic399 ic400 ic401 ic402
    obtain ⟨q391a, q391b⟩ := id q391
    obtain ⟨q392a, q392b⟩ := id q392
    refine T_ld 40 (.ref 189) rfl (fun _ => rfl) ?_
    refine T_ld 42 (.int (i32 58)) rfl (fun _ => rfl) ?_
    refine T_call 45 232 [.ref 189, .int (i32 58)] [] rfl (fun _ => rfl) rfl (c_need w (mO m [(7, y384), (8, y385), (9, y386), (10, y387), (11, y388), (12, y389), (28, (m.1 28)), (69, (m.1 69)), (70, (m.1 70)), (71, (m.1 71)), (72, (m.1 72)), (75, (m.1 75))] [(65, (m.2 65)), (66, (m.2 66)), (67, (m.2 67)), (68, (m.2 68))]) c N D (by omega) (Ty_mO hT rfl rfl ⟨q393, q394, q395, q396, q397, q398, f28, f69, f70, f71, f72, f75, trivial⟩ ⟨(hT.2.1 65), (hT.2.1 66), (hT.2.1 67), (hT.2.1 68), trivial⟩) 58 ⟨by decide, by decide⟩ (show 1 ≤ (58 : Int) by omega) (show LxP y384 y385 y386 (m.1 6) y387 by first | exact hLx | (intro h9; exfalso; omega) | (intro h9; have h8 := hLx (by omega); omega))) (fun rr404 k405 => ?_)
    obtain ⟨y406, y408, y410, y412, y414, y416, g407, g409, g411, g413, g415, g417, h418, h419, h420, h421, rfl⟩ := k405
    refine ⟨_, _, rfl, ?_⟩
    refine T_nf (st' := []) (l' := [(7, y406), (8, y408), (9, y410), (10, y412), (11, y414), (12, y416), (28, (m.1 28)), (69, (m.1 69)), (70, (m.1 70)), (71, (m.1 71)), (72, (m.1 72)), (75, (m.1 75))]) (a' := [(65, (m.2 65)), (66, (m.2 66)), (67, (m.2 67)), (68, (m.2 68))]) rfl rfl rfl rfl rfl ?_
    replace h418 : LxP y406 y408 y410 (m.1 6) y412 := h418
    replace h419 : y412 = 0 → y387 = 0 ∧ y384 = (58 : Int) := h419
    replace h420 : y385 ≤ y408 := h420
    replace h421 : y412 = 0 → y385 + y386 ≤ y408 := h421
    have hf422 : 1 ≤ y412 := by omega
    clear h419
    clear h421
    have hLx := h418
    clear q393 q394 q395 q396 q397 q398 ic401 ic402 h420
    exact J45_348 v382 v383 y406 y408 y410 y412 y414 y416 (r32 (by omega) (by omega)) (r64 (by omega) (by omega)) g407 g409 g411 g413 g415 g417 (by omega) (by omega) (by omega) (by omega)
  have J30_430 : ∀ (v423 : Int) (y424 : Int) (y425 : Int) (y426 : Int) (y427 : Int) (y428 : Int) (y429 : Int), (R32 v423) → (0 ≤ y424 ∧ y424 ≤ 330) → (0 ≤ y425 ∧ y425 ≤ 4000) → (0 ≤ y426 ∧ y426 ≤ 4000) → (0 ≤ y427 ∧ y427 ≤ 8) → ((-1) ≤ y428 ∧ y428 ≤ 4000) → ((-9223372036854775808) ≤ y429 ∧ y429 ≤ 9223372036854775807) → (0 ≤ v423) → (v423 ≤ 4000) → (1 ≤ y427) → (y427 ≤ 8) → TT w D pm_255 (30, [(0, .ref 189), (1, .int (i32 v423))], [], (mhp (mO m [(7, y424), (8, y425), (9, y426), (10, y427), (11, y428), (12, y429), (28, (m.1 28)), (69, (m.1 69)), (70, (m.1 70)), (71, (m.1 71)), (72, (m.1 72)), (75, (m.1 75))] [(65, (m.2 65)), (66, (m.2 66)), (67, (m.2 67)), (68, (m.2 68))]) c, N), 0, 0) (Q_after m c N B) := by
    intro v423 y424 y425 y426 y427 y428 y429 q431 q432 q433 q434 q435 q436 q437 ic438 ic439 ic440 ic441
    obtain ⟨q431a, q431b⟩ := id q431
    refine T_gf 34 (.long (i64 y429)) rfl rfl rfl rfl rfl rfl ?_
    refine T_sto 35 [(2, .long (i64 y429)), (0, .ref 189), (1, .int (i32 v423))] rfl (fun _ => rfl) ?_
    refine T_ld 36 (.ref 189) rfl (fun _ => rfl) ?_
    refine T_call 39 212 [.ref 189] [] rfl (fun _ => rfl) rfl (c_next w (mO m [(7, y424), (8, y425), (9, y426), (10, y427), (11, y428), (12, y429), (28, (m.1 28)), (69, (m.1 69)), (70, (m.1 70)), (71, (m.1 71)), (72, (m.1 72)), (75, (m.1 75))] [(65, (m.2 65)), (66, (m.2 66)), (67, (m.2 67)), (68, (m.2 68))]) c N D (by omega) (Ty_mO hT rfl rfl ⟨q432, q433, q434, q435, q436, q437, f28, f69, f70, f71, f72, f75, trivial⟩ ⟨(hT.2.1 65), (hT.2.1 66), (hT.2.1 67), (hT.2.1 68), trivial⟩) (show y427 = 0 → y425 + y426 ≤ (m.1 6) by first | omega | (intro h9; have h8 := hLx h9; omega))) (fun rr443 k444 => ?_)
    obtain ⟨y445, y447, y449, y451, y453, y455, g446, g448, g450, g452, g454, g456, h457, h458, h459, h460, rfl⟩ := k444
    refine ⟨_, _, rfl, ?_⟩
    refine T_nf (st' := []) (l' := [(7, y445), (8, y447), (9, y449), (10, y451), (11, y453), (12, y455), (28, (m.1 28)), (69, (m.1 69)), (70, (m.1 70)), (71, (m.1 71)), (72, (m.1 72)), (75, (m.1 75))]) (a' := [(65, (m.2 65)), (66, (m.2 66)), (67, (m.2 67)), (68, (m.2 68))]) rfl rfl rfl rfl rfl ?_
    replace h457 : LxP y445 y447 y449 (m.1 6) y451 := h457
    replace h458 : y451 = 0 → y427 = 0 := h458
    replace h459 : y425 ≤ y447 := h459
    replace h460 : y451 = 0 → y425 + y426 ≤ y447 := h460
    have hf461 : 1 ≤ y451 := by omega
    clear h458
    clear h460
    have hLx := h457
    clear q432 q433 q434 q435 q436 ic440 ic441 h459
    refine Tm_lv (a := [(0, .ref 189), (1, .int (i32 v423)), (2, .long (i64 y429))]) rfl rfl ⟨rfl, rfl, rfl, trivial⟩ ?_
    exact J39_390 v423 y429 y445 y447 y449 y451 y453 y455 (r32 (by omega) (by omega)) (r64 (by omega) (by omega)) g446 g448 g450 g452 g454 g456 (by omega) (by omega) (by omega) (by omega)
  refine T_gf 4 (.int (i32 (m.1 7))) rfl rfl rfl rfl rfl rfl ?_
  refine T_ld 6 (.int (i32 91)) rfl (fun _ => rfl) ?_
  refine T_icmp 175 9 rfl rfl rfl (r32 (by omega) (by omega)) ⟨by decide, by decide⟩ (fun (h462 : (m.1 7) ≠ 91) => ?_) (fun (h462 : ¬ ((m.1 7) ≠ 91)) => ?_)
  · skip
    refine T_gf 179 (.int (i32 (m.1 7))) rfl rfl rfl rfl rfl rfl ?_
    refine T_ld 182 (.int (i32 330)) rfl (fun _ => rfl) ?_
    refine T_icmp 219 185 rfl rfl rfl (r32 (by omega) (by omega)) ⟨by decide, by decide⟩ (fun (h463 : (m.1 7) ≠ 330) => ?_) (fun (h463 : ¬ ((m.1 7) ≠ 330)) => ?_)
    · skip
      refine T_ld 220 (.ref 189) rfl (fun _ => rfl) ?_
      refine T_ld 221 (.int (i32 2)) rfl (fun _ => rfl) ?_
      refine T_pf (l' := [(7, (m.1 7)), (8, (m.1 8)), (9, (m.1 9)), (10, (m.1 10)), (11, (m.1 11)), (12, (m.1 12)), (28, (m.1 28)), (69, (m.1 69)), (70, (m.1 70)), (71, (m.1 71)), (72, (m.1 72)), (75, 2)]) 224 2 rfl rfl rfl rfl rfl rfl ?_
      refine T_ret rfl (fun _ => rfl) ?_
      exact ⟨(m.1 7), (m.1 8), (m.1 9), (m.1 10), (m.1 11), (m.1 12), (m.1 28), (m.1 69), (m.1 70), (m.1 71), (m.1 72), 2, (m.2 65), (m.2 66), (m.2 67), (m.2 68), f7, f8, f9, f10, f11, f12, f28, f69, f70, f71, f72, ⟨by omega, by omega⟩, (hT.2.1 65), (hT.2.1 66), (hT.2.1 67), (hT.2.1 68), (by omega), (by first | (first | exact hLx | (intro h9; exfalso; omega)) | (exfalso; omega)), (fun _ => ⟨(by omega), (by omega), (by omega), (by first | (exact hXE) | (exfalso; omega)), (by first | (exact hAgC) | (exfalso; omega))⟩), rfl⟩
    · skip
      refine T_ld 186 (.ref 189) rfl (fun _ => rfl) ?_
      refine T_call 189 212 [.ref 189] [] rfl (fun _ => rfl) rfl (c_next w (mO m [(7, (m.1 7)), (8, (m.1 8)), (9, (m.1 9)), (10, (m.1 10)), (11, (m.1 11)), (12, (m.1 12)), (28, (m.1 28)), (69, (m.1 69)), (70, (m.1 70)), (71, (m.1 71)), (72, (m.1 72)), (75, (m.1 75))] [(65, (m.2 65)), (66, (m.2 66)), (67, (m.2 67)), (68, (m.2 68))]) c N D (by omega) (Ty_mO hT rfl rfl ⟨f7, f8, f9, f10, f11, f12, f28, f69, f70, f71, f72, f75, trivial⟩ ⟨(hT.2.1 65), (hT.2.1 66), (hT.2.1 67), (hT.2.1 68), trivial⟩) (show (m.1 10) = 0 → (m.1 8) + (m.1 9) ≤ (m.1 6) by first | omega | (intro h9; have h8 := hLx h9; omega))) (fun rr464 k465 => ?_)
      obtain ⟨y466, y468, y470, y472, y474, y476, g467, g469, g471, g473, g475, g477, h478, h479, h480, h481, rfl⟩ := k465
      refine ⟨_, _, rfl, ?_⟩
      refine T_nf (st' := []) (l' := [(7, y466), (8, y468), (9, y470), (10, y472), (11, y474), (12, y476), (28, (m.1 28)), (69, (m.1 69)), (70, (m.1 70)), (71, (m.1 71)), (72, (m.1 72)), (75, (m.1 75))]) (a' := [(65, (m.2 65)), (66, (m.2 66)), (67, (m.2 67)), (68, (m.2 68))]) rfl rfl rfl rfl rfl ?_
      by_cases hf482 : y472 = 0
      · skip
        subst hf482
        replace h478 : LxP y466 y468 y470 (m.1 6) (0 : Int) := h478
        have hLx := h478
        replace h479 : (m.1 10) = 0 := h479 rfl
        replace h480 : (m.1 8) ≤ y468 := h480
        replace h481 : (m.1 8) + (m.1 9) ≤ y468 := h481 rfl
        have u483 : (m.1 8) + 1 ≤ y468 := by omega
        have hAgC : agr (m.2 65) (m.2 65) (m.1 28) := by first | exact agr_r _ _ | exact hAgC | exact agr_t hAgC hAg (by omega)
        clear g473
        refine T_ld 190 (.ref 189) rfl (fun _ => rfl) ?_
        refine T_ld 191 (.int (i32 1)) rfl (fun _ => rfl) ?_
        refine T_ld 193 (.int (i32 64)) rfl (fun _ => rfl) ?_
        refine T_call 196 234 [.ref 189, .int (i32 1), .int (i32 64)] [] rfl (fun _ => rfl) rfl (c_number w (mO m [(7, y466), (8, y468), (9, y470), (10, 0), (11, y474), (12, y476), (28, (m.1 28)), (69, (m.1 69)), (70, (m.1 70)), (71, (m.1 71)), (72, (m.1 72)), (75, (m.1 75))] [(65, (m.2 65)), (66, (m.2 66)), (67, (m.2 67)), (68, (m.2 68))]) c N D (by omega) (Ty_mO hT rfl rfl ⟨g467, g469, g471, ⟨(by omega : (0 : Int) ≤ 0), (by omega : (0 : Int) ≤ 8)⟩, g475, g477, f28, f69, f70, f71, f72, f75, trivial⟩ ⟨(hT.2.1 65), (hT.2.1 66), (hT.2.1 67), (hT.2.1 68), trivial⟩) 1 64 ⟨by decide, by decide⟩ ⟨by decide, by decide⟩ (show LxP y466 y468 y470 (m.1 6) (0 : Int) by first | exact hLx | (intro h9; exfalso; omega) | (intro h9; have h8 := hLx (by omega); omega)) (show (1 : Int) ≤ (64 : Int) by omega)) (fun rr484 k485 => ?_)
        obtain ⟨y486, y488, y490, y492, y494, y496, nu, g487, g489, g491, g493, g495, g497, g498, h499, h500, h501, h502, h503, h504, rfl⟩ := k485
        refine ⟨_, _, rfl, ?_⟩
        refine T_nf (st' := [.int (i32 nu)]) (l' := [(7, y486), (8, y488), (9, y490), (10, y492), (11, y494), (12, y496), (28, (m.1 28)), (69, (m.1 69)), (70, (m.1 70)), (71, (m.1 71)), (72, (m.1 72)), (75, (m.1 75))]) (a' := [(65, (m.2 65)), (66, (m.2 66)), (67, (m.2 67)), (68, (m.2 68))]) rfl rfl rfl rfl rfl ?_
        obtain ⟨g498a, g498b⟩ := g498
        by_cases hf505 : y492 = 0
        · skip
          subst hf505
          replace h499 : LxP y486 y488 y490 (m.1 6) (0 : Int) := h499
          have hLx := h499
          replace h500 : y468 ≤ y488 := h500
          replace h501 : (0 : Int) = 0 ∧ y468 + y470 ≤ y488 := h501 rfl
          replace h502 : y466 = 2 := h502 rfl
          replace h503 : (1 : Int) ≤ nu ∧ nu ≤ (64 : Int) := h503
          replace h504 : nu = y476 := h504 rfl
          have u506 : (m.1 8) + 1 ≤ y488 := by omega
          have hAgC : agr (m.2 65) (m.2 65) (m.1 28) := by first | exact agr_r _ _ | exact hAgC | exact agr_t hAgC hAg (by omega)
          clear g467 g469 g471 g475 g477 h478 h480 h481 u483 g493 h500 h501 h502 h504
          refine T_sto 197 [(1, .int (i32 nu)), (0, .ref 189)] rfl (fun _ => rfl) ?_
          have hAr : ar 406 ≤ 1 + lh (m.2 79) (m.2 80) (m.1 73) := by rw [show ar 406 = 1 from rfl]; omega
          have hCk : CNk 406 0 := by refine ⟨?_, ?_, ?_, ?_⟩ <;> omega
          refine T_ld 198 (.ref 189) rfl (fun _ => rfl) ?_
          refine T_ld 201 (.int (i32 406)) rfl (fun _ => rfl) ?_
          refine T_ld 202 (.int (i32 nu)) rfl (fun _ => rfl) ?_
          refine T_ld 203 (.int (i32 0)) rfl (fun _ => rfl) ?_
          refine T_ld 204 (.long (i64 0)) rfl (fun _ => rfl) ?_
          refine T_call 207 248 [.ref 189, .int (i32 406), .int (i32 nu), .int (i32 0), .long (i64 0)] [] rfl (fun _ => rfl) rfl (c_node w (mO m [(7, y486), (8, y488), (9, y490), (10, 0), (11, y494), (12, y496), (28, (m.1 28)), (69, (m.1 69)), (70, (m.1 70)), (71, (m.1 71)), (72, (m.1 72)), (75, (m.1 75))] [(65, (m.2 65)), (66, (m.2 66)), (67, (m.2 67)), (68, (m.2 68))]) c N D (by omega) (Ty_mO hT rfl rfl ⟨g487, g489, g491, ⟨(by omega : (0 : Int) ≤ 0), (by omega : (0 : Int) ≤ 8)⟩, g495, g497, f28, f69, f70, f71, f72, f75, trivial⟩ ⟨(hT.2.1 65), (hT.2.1 66), (hT.2.1 67), (hT.2.1 68), trivial⟩) 406 nu 0 0 B (1 + lh (m.2 79) (m.2 80) (m.1 73)) ⟨by decide, by decide⟩ (r32 (by omega) (by omega)) ⟨by decide, by decide⟩ ⟨by decide, by decide⟩ (fun _ => ⟨(show 0 ≤ (406 : Int) ∧ (406 : Int) ≤ 408 by first | omega | decide), (show 0 ≤ nu ∧ nu ≤ 64 by first | omega | decide), (show 0 ≤ (0 : Int) ∧ (0 : Int) ≤ 191 by first | omega | decide), (show CNk (406 : Int) (0 : Int) by first | exact hCk | (refine ⟨?_, ?_, ?_, ?_⟩ <;> omega)), (show ar (406 : Int) ≤ (1 + lh (m.2 79) (m.2 80) (m.1 73)) by first | exact hAr | omega), (show EX (m.2 65) (m.2 67) B (m.1 28) (1 + lh (m.2 79) (m.2 80) (m.1 73)) by first | exact hEX | assumption)⟩)) (fun rr507 k508 => ?_)
          obtain ⟨y509, y511, y513, F515, F517, F519, F521, g510, g512, g514, G516, G518, G520, G522, h523, c524, rfl⟩ := k508
          refine ⟨_, _, rfl, ?_⟩
          refine T_nf (st' := []) (l' := [(7, y486), (8, y488), (9, y490), (10, y509), (11, y511), (12, y496), (28, y513), (69, (m.1 69)), (70, (m.1 70)), (71, (m.1 71)), (72, (m.1 72)), (75, (m.1 75))]) (a' := [(65, F515), (66, F517), (67, F519), (68, F521)]) rfl rfl rfl rfl rfl ?_
          by_cases hf525 : y509 = 0
          · skip
            subst hf525
            replace h523 : (0 : Int) = 0 := h523 rfl
            obtain ⟨c526, c527, c528⟩ := c524 rfl
            replace c526 : y513 = (m.1 28) + 1 := c526
            replace c527 : EX F515 F519 B y513 ((1 + lh (m.2 79) (m.2 80) (m.1 73)) + 1 - ar (406 : Int)) := c527
            have hEX := c527
            replace c528 : agr (m.2 65) F515 (m.1 28) := c528
            have hAg := c528
            clear c524
            have u529 : (m.1 8) + 1 ≤ y488 := by omega
            have hAgC : agr (m.2 65) F515 (m.1 28) := by first | exact agr_r _ _ | exact hAgC | exact agr_t hAgC hAg (by omega)
            clear g495 g510
            refine T_ld 208 (.ref 189) rfl (fun _ => rfl) ?_
            refine T_ld 209 (.int (i32 nu)) rfl (fun _ => rfl) ?_
            refine T_gf 213 (.int (i32 (m.1 70))) rfl rfl rfl rfl rfl rfl ?_
            refine T_call 216 250 [.ref 189, .int (i32 nu), .int (i32 (m.1 70))] [] rfl (fun _ => rfl) rfl (c_unit w (mO m [(7, y486), (8, y488), (9, y490), (10, 0), (11, y511), (12, y496), (28, y513), (69, (m.1 69)), (70, (m.1 70)), (71, (m.1 71)), (72, (m.1 72)), (75, (m.1 75))] [(65, F515), (66, F517), (67, F519), (68, F521)]) c N D (by omega) (Ty_mO hT rfl rfl ⟨g487, g489, g491, ⟨(by omega : (0 : Int) ≤ 0), (by omega : (0 : Int) ≤ 8)⟩, g512, g497, g514, f69, f70, f71, f72, f75, trivial⟩ ⟨G516, G518, G520, G522, trivial⟩) nu (m.1 70) (r32 (by omega) (by omega)) (r32 (by omega) (by omega)) (show 0 ≤ nu ∧ nu ≤ 1024 by omega) (show 0 ≤ (m.1 70) ∧ (m.1 70) ≤ 4000 by omega)) (fun rr530 k531 => ?_)
            obtain ⟨y532, y534, y536, y538, g533, g535, g537, g539, h540, rfl⟩ := k531
            refine ⟨_, _, rfl, ?_⟩
            refine T_nf (st' := []) (l' := [(7, y486), (8, y488), (9, y490), (10, 0), (11, y511), (12, y496), (28, y513), (69, y532), (70, y534), (71, y536), (72, y538), (75, (m.1 75))]) (a' := [(65, F515), (66, F517), (67, F519), (68, F521)]) rfl rfl rfl rfl rfl ?_
            replace h540 : y532 = nu := h540
            have u541 : (m.1 8) + 1 ≤ y488 := by omega
            have hAgC : agr (m.2 65) F515 (m.1 28) := by first | exact agr_r _ _ | exact hAgC | exact agr_t hAgC hAg (by omega)
            have hXE : XS F515 F519 (m.2 76) (m.2 78) (m.2 79) (m.2 80) B y513 (m.1 73) (m.1 74) 1 := XS_of hXS hEX (by rw [show ar 406 = 1 from rfl]; omega)
            refine T_goto 224 rfl (fun _ => rfl) ?_
            refine T_ret rfl (fun _ => rfl) ?_
            exact ⟨y486, y488, y490, 0, y511, y496, y513, y532, y534, y536, y538, (m.1 75), F515, F517, F519, F521, g487, g489, g491, ⟨by omega, by omega⟩, g512, g497, g514, g533, g535, g537, g539, f75, G516, G518, G520, G522, (by omega), (by first | (first | exact hLx | (intro h9; exfalso; omega)) | (exfalso; omega)), (fun _ => ⟨(by omega), (by omega), (by omega), (by first | (exact hXE) | (exfalso; omega)), (by first | (exact hAgC) | (exfalso; omega))⟩), rfl⟩
          · skip
            clear c524
            clear h523
            have hf542 : 1 ≤ y509 := by omega
            clear g495
            refine Tm_lv (a := [(0, .ref 189), (1, .int (i32 nu))]) rfl rfl ⟨rfl, rfl, trivial⟩ ?_
            exact J207_118 nu y486 y488 y490 y509 y511 y496 y513 F515 F517 F519 F521 (r32 (by omega) (by omega)) g487 g489 g491 g510 g512 g497 g514 G516 G518 G520 G522 (by omega) (by omega)
        · skip
          replace h499 : LxP y486 y488 y490 (m.1 6) y492 := h499
          have hLx := h499
          replace h500 : y468 ≤ y488 := h500
          clear h501
          clear h502
          replace h503 : (1 : Int) ≤ nu ∧ nu ≤ (64 : Int) := h503
          clear h504
          have hf543 : 1 ≤ y492 := by omega
          clear g467 g469 g471 g475 g477 h478 h480 h481 u483 h500
          exact J196_152 nu y486 y488 y490 y492 y494 y496 (r32 (by omega) (by omega)) g487 g489 g491 g493 g495 g497 (by omega) (by omega)
      · skip
        replace h478 : LxP y466 y468 y470 (m.1 6) y472 := h478
        have hLx := h478
        clear h479
        replace h480 : (m.1 8) ≤ y468 := h480
        clear h481
        have hf544 : 1 ≤ y472 := by omega
        refine T_ld 190 (.ref 189) rfl (fun _ => rfl) ?_
        refine T_ld 191 (.int (i32 1)) rfl (fun _ => rfl) ?_
        refine T_ld 193 (.int (i32 64)) rfl (fun _ => rfl) ?_
        refine T_call 196 234 [.ref 189, .int (i32 1), .int (i32 64)] [] rfl (fun _ => rfl) rfl (c_number w (mO m [(7, y466), (8, y468), (9, y470), (10, y472), (11, y474), (12, y476), (28, (m.1 28)), (69, (m.1 69)), (70, (m.1 70)), (71, (m.1 71)), (72, (m.1 72)), (75, (m.1 75))] [(65, (m.2 65)), (66, (m.2 66)), (67, (m.2 67)), (68, (m.2 68))]) c N D (by omega) (Ty_mO hT rfl rfl ⟨g467, g469, g471, g473, g475, g477, f28, f69, f70, f71, f72, f75, trivial⟩ ⟨(hT.2.1 65), (hT.2.1 66), (hT.2.1 67), (hT.2.1 68), trivial⟩) 1 64 ⟨by decide, by decide⟩ ⟨by decide, by decide⟩ (show LxP y466 y468 y470 (m.1 6) y472 by first | exact hLx | (intro h9; exfalso; omega) | (intro h9; have h8 := hLx (by omega); omega)) (show (1 : Int) ≤ (64 : Int) by omega)) (fun rr545 k546 => ?_)
        obtain ⟨y547, y549, y551, y553, y555, y557, nu, g548, g550, g552, g554, g556, g558, g559, h560, h561, h562, h563, h564, h565, rfl⟩ := k546
        refine ⟨_, _, rfl, ?_⟩
        refine T_nf (st' := [.int (i32 nu)]) (l' := [(7, y547), (8, y549), (9, y551), (10, y553), (11, y555), (12, y557), (28, (m.1 28)), (69, (m.1 69)), (70, (m.1 70)), (71, (m.1 71)), (72, (m.1 72)), (75, (m.1 75))]) (a' := [(65, (m.2 65)), (66, (m.2 66)), (67, (m.2 67)), (68, (m.2 68))]) rfl rfl rfl rfl rfl ?_
        obtain ⟨g559a, g559b⟩ := g559
        replace h560 : LxP y547 y549 y551 (m.1 6) y553 := h560
        replace h561 : y468 ≤ y549 := h561
        replace h562 : y553 = 0 → y472 = 0 ∧ y468 + y470 ≤ y549 := h562
        replace h563 : y553 = 0 → y466 = 2 := h563
        replace h564 : (1 : Int) ≤ nu ∧ nu ≤ (64 : Int) := h564
        replace h565 : y553 = 0 → nu = y476 := h565
        have hf566 : 1 ≤ y553 := by omega
        clear h562
        clear h563
        clear h565
        have hLx := h560
        clear g467 g469 g471 g473 g475 g477 h478 h480 hf544 h561
        exact J196_152 nu y547 y549 y551 y553 y555 y557 (r32 (by omega) (by omega)) g548 g550 g552 g554 g556 g558 (by omega) (by omega)
  · skip
    refine T_ld 10 (.ref 189) rfl (fun _ => rfl) ?_
    refine T_call 13 212 [.ref 189] [] rfl (fun _ => rfl) rfl (c_next w (mO m [(7, (m.1 7)), (8, (m.1 8)), (9, (m.1 9)), (10, (m.1 10)), (11, (m.1 11)), (12, (m.1 12)), (28, (m.1 28)), (69, (m.1 69)), (70, (m.1 70)), (71, (m.1 71)), (72, (m.1 72)), (75, (m.1 75))] [(65, (m.2 65)), (66, (m.2 66)), (67, (m.2 67)), (68, (m.2 68))]) c N D (by omega) (Ty_mO hT rfl rfl ⟨f7, f8, f9, f10, f11, f12, f28, f69, f70, f71, f72, f75, trivial⟩ ⟨(hT.2.1 65), (hT.2.1 66), (hT.2.1 67), (hT.2.1 68), trivial⟩) (show (m.1 10) = 0 → (m.1 8) + (m.1 9) ≤ (m.1 6) by first | omega | (intro h9; have h8 := hLx h9; omega))) (fun rr567 k568 => ?_)
    obtain ⟨y569, y571, y573, y575, y577, y579, g570, g572, g574, g576, g578, g580, h581, h582, h583, h584, rfl⟩ := k568
    refine ⟨_, _, rfl, ?_⟩
    refine T_nf (st' := []) (l' := [(7, y569), (8, y571), (9, y573), (10, y575), (11, y577), (12, y579), (28, (m.1 28)), (69, (m.1 69)), (70, (m.1 70)), (71, (m.1 71)), (72, (m.1 72)), (75, (m.1 75))]) (a' := [(65, (m.2 65)), (66, (m.2 66)), (67, (m.2 67)), (68, (m.2 68))]) rfl rfl rfl rfl rfl ?_
    by_cases hf585 : y575 = 0
    · skip
      subst hf585
      replace h581 : LxP y569 y571 y573 (m.1 6) (0 : Int) := h581
      have hLx := h581
      replace h582 : (m.1 10) = 0 := h582 rfl
      replace h583 : (m.1 8) ≤ y571 := h583
      replace h584 : (m.1 8) + (m.1 9) ≤ y571 := h584 rfl
      have u586 : (m.1 8) + 1 ≤ y571 := by omega
      have hAgC : agr (m.2 65) (m.2 65) (m.1 28) := by first | exact agr_r _ _ | exact hAgC | exact agr_t hAgC hAg (by omega)
      clear g576
      refine T_gf 17 (.int (i32 y571)) rfl rfl rfl rfl rfl rfl ?_
      refine T_sto 18 [(1, .int (i32 y571)), (0, .ref 189)] rfl (fun _ => rfl) ?_
      refine T_gf 22 (.int (i32 y569)) rfl rfl rfl rfl rfl rfl ?_
      refine T_ld 23 (.int (i32 2)) rfl (fun _ => rfl) ?_
      refine T_icmp 30 26 rfl rfl rfl (r32 (by omega) (by omega)) ⟨by decide, by decide⟩ (fun (h587 : y569 = 2) => ?_) (fun (h587 : ¬ (y569 = 2)) => ?_)
      · skip
        refine T_gf 34 (.long (i64 y579)) rfl rfl rfl rfl rfl rfl ?_
        refine T_sto 35 [(2, .long (i64 y579)), (1, .int (i32 y571)), (0, .ref 189)] rfl (fun _ => rfl) ?_
        refine T_ld 36 (.ref 189) rfl (fun _ => rfl) ?_
        refine T_call 39 212 [.ref 189] [] rfl (fun _ => rfl) rfl (c_next w (mO m [(7, y569), (8, y571), (9, y573), (10, 0), (11, y577), (12, y579), (28, (m.1 28)), (69, (m.1 69)), (70, (m.1 70)), (71, (m.1 71)), (72, (m.1 72)), (75, (m.1 75))] [(65, (m.2 65)), (66, (m.2 66)), (67, (m.2 67)), (68, (m.2 68))]) c N D (by omega) (Ty_mO hT rfl rfl ⟨g570, g572, g574, ⟨(by omega : (0 : Int) ≤ 0), (by omega : (0 : Int) ≤ 8)⟩, g578, g580, f28, f69, f70, f71, f72, f75, trivial⟩ ⟨(hT.2.1 65), (hT.2.1 66), (hT.2.1 67), (hT.2.1 68), trivial⟩) (show (0 : Int) = 0 → y571 + y573 ≤ (m.1 6) by first | omega | (intro h9; have h8 := hLx h9; omega))) (fun rr588 k589 => ?_)
        obtain ⟨y590, y592, y594, y596, y598, y600, g591, g593, g595, g597, g599, g601, h602, h603, h604, h605, rfl⟩ := k589
        refine ⟨_, _, rfl, ?_⟩
        refine T_nf (st' := []) (l' := [(7, y590), (8, y592), (9, y594), (10, y596), (11, y598), (12, y600), (28, (m.1 28)), (69, (m.1 69)), (70, (m.1 70)), (71, (m.1 71)), (72, (m.1 72)), (75, (m.1 75))]) (a' := [(65, (m.2 65)), (66, (m.2 66)), (67, (m.2 67)), (68, (m.2 68))]) rfl rfl rfl rfl rfl ?_
        by_cases hf606 : y596 = 0
        · skip
          subst hf606
          replace h602 : LxP y590 y592 y594 (m.1 6) (0 : Int) := h602
          have hLx := h602
          replace h603 : (0 : Int) = 0 := h603 rfl
          replace h604 : y571 ≤ y592 := h604
          replace h605 : y571 + y573 ≤ y592 := h605 rfl
          have u607 : (m.1 8) + 1 ≤ y592 := by omega
          have hAgC : agr (m.2 65) (m.2 65) (m.1 28) := by first | exact agr_r _ _ | exact hAgC | exact agr_t hAgC hAg (by omega)
          clear g570 g574 g578 h581 h587 g597 h605
          refine T_ld 40 (.ref 189) rfl (fun _ => rfl) ?_
          refine T_ld 42 (.int (i32 58)) rfl (fun _ => rfl) ?_
          refine T_call 45 232 [.ref 189, .int (i32 58)] [] rfl (fun _ => rfl) rfl (c_need w (mO m [(7, y590), (8, y592), (9, y594), (10, 0), (11, y598), (12, y600), (28, (m.1 28)), (69, (m.1 69)), (70, (m.1 70)), (71, (m.1 71)), (72, (m.1 72)), (75, (m.1 75))] [(65, (m.2 65)), (66, (m.2 66)), (67, (m.2 67)), (68, (m.2 68))]) c N D (by omega) (Ty_mO hT rfl rfl ⟨g591, g593, g595, ⟨(by omega : (0 : Int) ≤ 0), (by omega : (0 : Int) ≤ 8)⟩, g599, g601, f28, f69, f70, f71, f72, f75, trivial⟩ ⟨(hT.2.1 65), (hT.2.1 66), (hT.2.1 67), (hT.2.1 68), trivial⟩) 58 ⟨by decide, by decide⟩ (show 1 ≤ (58 : Int) by omega) (show LxP y590 y592 y594 (m.1 6) (0 : Int) by first | exact hLx | (intro h9; exfalso; omega) | (intro h9; have h8 := hLx (by omega); omega))) (fun rr608 k609 => ?_)
          obtain ⟨y610, y612, y614, y616, y618, y620, g611, g613, g615, g617, g619, g621, h622, h623, h624, h625, rfl⟩ := k609
          refine ⟨_, _, rfl, ?_⟩
          refine T_nf (st' := []) (l' := [(7, y610), (8, y612), (9, y614), (10, y616), (11, y618), (12, y620), (28, (m.1 28)), (69, (m.1 69)), (70, (m.1 70)), (71, (m.1 71)), (72, (m.1 72)), (75, (m.1 75))]) (a' := [(65, (m.2 65)), (66, (m.2 66)), (67, (m.2 67)), (68, (m.2 68))]) rfl rfl rfl rfl rfl ?_
          by_cases hf626 : y616 = 0
          · skip
            subst hf626
            replace h622 : LxP y610 y612 y614 (m.1 6) (0 : Int) := h622
            have hLx := h622
            replace h623 : (0 : Int) = 0 ∧ y590 = (58 : Int) := h623 rfl
            replace h624 : y592 ≤ y612 := h624
            replace h625 : y592 + y594 ≤ y612 := h625 rfl
            have u627 : (m.1 8) + 1 ≤ y612 := by omega
            have hAgC : agr (m.2 65) (m.2 65) (m.1 28) := by first | exact agr_r _ _ | exact hAgC | exact agr_t hAgC hAg (by omega)
            clear g591 g593 g595 g599 g601 h602 h604 u607 g617 h623 h624 h625
            refine T_gf 49 (.int (i32 0)) rfl rfl rfl rfl rfl rfl ?_
            refine T_if 64 52 rfl rfl rfl ⟨by decide, by decide⟩ (fun h628 => absurd (show (0 : Int) ≠ 0 from h628) (by decide)) (fun _ => ?_)
            refine T_gf 56 (.int (i32 y610)) rfl rfl rfl rfl rfl rfl ?_
            refine T_ld 57 (.int (i32 2)) rfl (fun _ => rfl) ?_
            refine T_icmp 64 60 rfl rfl rfl (r32 (by omega) (by omega)) ⟨by decide, by decide⟩ (fun (h629 : y610 = 2) => ?_) (fun (h629 : ¬ (y610 = 2)) => ?_)
            · skip
              refine T_gf 68 (.long (i64 y620)) rfl rfl rfl rfl rfl rfl ?_
              refine T_sto 70 [(4, .long (i64 y620)), (2, .long (i64 y579)), (1, .int (i32 y571)), (0, .ref 189)] rfl (fun _ => rfl) ?_
              refine T_ld 71 (.ref 189) rfl (fun _ => rfl) ?_
              refine T_call 74 212 [.ref 189] [] rfl (fun _ => rfl) rfl (c_next w (mO m [(7, y610), (8, y612), (9, y614), (10, 0), (11, y618), (12, y620), (28, (m.1 28)), (69, (m.1 69)), (70, (m.1 70)), (71, (m.1 71)), (72, (m.1 72)), (75, (m.1 75))] [(65, (m.2 65)), (66, (m.2 66)), (67, (m.2 67)), (68, (m.2 68))]) c N D (by omega) (Ty_mO hT rfl rfl ⟨g611, g613, g615, ⟨(by omega : (0 : Int) ≤ 0), (by omega : (0 : Int) ≤ 8)⟩, g619, g621, f28, f69, f70, f71, f72, f75, trivial⟩ ⟨(hT.2.1 65), (hT.2.1 66), (hT.2.1 67), (hT.2.1 68), trivial⟩) (show (0 : Int) = 0 → y612 + y614 ≤ (m.1 6) by first | omega | (intro h9; have h8 := hLx h9; omega))) (fun rr630 k631 => ?_)
              obtain ⟨y632, y634, y636, y638, y640, y642, g633, g635, g637, g639, g641, g643, h644, h645, h646, h647, rfl⟩ := k631
              refine ⟨_, _, rfl, ?_⟩
              refine T_nf (st' := []) (l' := [(7, y632), (8, y634), (9, y636), (10, y638), (11, y640), (12, y642), (28, (m.1 28)), (69, (m.1 69)), (70, (m.1 70)), (71, (m.1 71)), (72, (m.1 72)), (75, (m.1 75))]) (a' := [(65, (m.2 65)), (66, (m.2 66)), (67, (m.2 67)), (68, (m.2 68))]) rfl rfl rfl rfl rfl ?_
              by_cases hf648 : y638 = 0
              · skip
                subst hf648
                replace h644 : LxP y632 y634 y636 (m.1 6) (0 : Int) := h644
                have hLx := h644
                replace h645 : (0 : Int) = 0 := h645 rfl
                replace h646 : y612 ≤ y634 := h646
                replace h647 : y612 + y614 ≤ y634 := h647 rfl
                have u649 : (m.1 8) + 1 ≤ y634 := by omega
                have hAgC : agr (m.2 65) (m.2 65) (m.1 28) := by first | exact agr_r _ _ | exact hAgC | exact agr_t hAgC hAg (by omega)
                clear g611 g613 g615 g619 h622 u627 h629 g639 h646 h647
                refine T_gf 78 (.int (i32 0)) rfl rfl rfl rfl rfl rfl ?_
                refine T_if 121 81 rfl rfl rfl ⟨by decide, by decide⟩ (fun h650 => absurd (show (0 : Int) ≠ 0 from h650) (by decide)) (fun _ => ?_)
                refine T_ld 82 (.ref 189) rfl (fun _ => rfl) ?_
                refine T_ld 83 (.long (i64 y579)) rfl (fun _ => rfl) ?_
                refine T_ld 84 (.long (i64 0)) rfl (fun _ => rfl) ?_
                refine T_lcmp 85 rfl rfl (r64 (by omega) (by omega)) ⟨by decide, by decide⟩ (fun z651 h652 => ?_)
                obtain ⟨h652a, h652b, h652c, h652d, h652e⟩ := h652
                refine T_if 116 88 rfl rfl rfl (r32 (by omega) (by omega)) (fun (h653 : z651 < 0) => ?_) (fun (h653 : ¬ (z651 < 0)) => ?_)
                · skip
                  refine T_ld 117 (.int (i32 0)) rfl (fun _ => rfl) ?_
                  refine T_ld 118 (.int (i32 y571)) rfl (fun _ => rfl) ?_
                  refine T_call 121 256 [.ref 189, .int (i32 0), .int (i32 y571)] [] rfl (fun _ => rfl) rfl (c_want w (mO m [(7, y632), (8, y634), (9, y636), (10, 0), (11, y640), (12, y642), (28, (m.1 28)), (69, (m.1 69)), (70, (m.1 70)), (71, (m.1 71)), (72, (m.1 72)), (75, (m.1 75))] [(65, (m.2 65)), (66, (m.2 66)), (67, (m.2 67)), (68, (m.2 68))]) c N D (by omega) (Ty_mO hT rfl rfl ⟨g633, g635, g637, ⟨(by omega : (0 : Int) ≤ 0), (by omega : (0 : Int) ≤ 8)⟩, g641, g643, f28, f69, f70, f71, f72, f75, trivial⟩ ⟨(hT.2.1 65), (hT.2.1 66), (hT.2.1 67), (hT.2.1 68), trivial⟩) 0 y571 ⟨by decide, by decide⟩ (r32 (by omega) (by omega)) (show 0 ≤ y571 ∧ y571 ≤ 4000 by omega) (fun _ => trivial)) (fun rr654 k655 => ?_)
                  obtain ⟨y656, y658, g657, g659, h660, c661, rfl⟩ := k655
                  refine ⟨_, _, rfl, ?_⟩
                  refine T_nf (st' := []) (l' := [(7, y632), (8, y634), (9, y636), (10, y656), (11, y658), (12, y642), (28, (m.1 28)), (69, (m.1 69)), (70, (m.1 70)), (71, (m.1 71)), (72, (m.1 72)), (75, (m.1 75))]) (a' := [(65, (m.2 65)), (66, (m.2 66)), (67, (m.2 67)), (68, (m.2 68))]) rfl rfl rfl rfl rfl ?_
                  by_cases hf662 : y656 = 0
                  · skip
                    subst hf662
                    replace h660 : (0 : Int) = 0 := h660 rfl
                    have c663 := c661 rfl
                    replace c663 : (0 : Int) ≠ 0 := c663
                    clear c661
                    have u664 : (m.1 8) + 1 ≤ y634 := by omega
                    have hAgC : agr (m.2 65) (m.2 65) (m.1 28) := by first | exact agr_r _ _ | exact hAgC | exact agr_t hAgC hAg (by omega)
                    clear g641 h652a h652b h652c h652d h652e h653 g657
                    refine T_ld 122 (.ref 189) rfl (fun _ => rfl) ?_
                    refine T_ld 124 (.int (i32 93)) rfl (fun _ => rfl) ?_
                    refine T_call 127 232 [.ref 189, .int (i32 93)] [] rfl (fun _ => rfl) rfl (c_need w (mO m [(7, y632), (8, y634), (9, y636), (10, 0), (11, y658), (12, y642), (28, (m.1 28)), (69, (m.1 69)), (70, (m.1 70)), (71, (m.1 71)), (72, (m.1 72)), (75, (m.1 75))] [(65, (m.2 65)), (66, (m.2 66)), (67, (m.2 67)), (68, (m.2 68))]) c N D (by omega) (Ty_mO hT rfl rfl ⟨g633, g635, g637, ⟨(by omega : (0 : Int) ≤ 0), (by omega : (0 : Int) ≤ 8)⟩, g659, g643, f28, f69, f70, f71, f72, f75, trivial⟩ ⟨(hT.2.1 65), (hT.2.1 66), (hT.2.1 67), (hT.2.1 68), trivial⟩) 93 ⟨by decide, by decide⟩ (show 1 ≤ (93 : Int) by omega) (show LxP y632 y634 y636 (m.1 6) (0 : Int) by first | exact hLx | (intro h9; exfalso; omega) | (intro h9; have h8 := hLx (by omega); omega))) (fun rr665 k666 => ?_)
                    obtain ⟨y667, y669, y671, y673, y675, y677, g668, g670, g672, g674, g676, g678, h679, h680, h681, h682, rfl⟩ := k666
                    refine ⟨_, _, rfl, ?_⟩
                    refine T_nf (st' := []) (l' := [(7, y667), (8, y669), (9, y671), (10, y673), (11, y675), (12, y677), (28, (m.1 28)), (69, (m.1 69)), (70, (m.1 70)), (71, (m.1 71)), (72, (m.1 72)), (75, (m.1 75))]) (a' := [(65, (m.2 65)), (66, (m.2 66)), (67, (m.2 67)), (68, (m.2 68))]) rfl rfl rfl rfl rfl ?_
                    by_cases hf683 : y673 = 0
                    · skip
                      subst hf683
                      replace h679 : LxP y667 y669 y671 (m.1 6) (0 : Int) := h679
                      have hLx := h679
                      replace h680 : (0 : Int) = 0 ∧ y632 = (93 : Int) := h680 rfl
                      replace h681 : y634 ≤ y669 := h681
                      replace h682 : y634 + y636 ≤ y669 := h682 rfl
                      have u684 : (m.1 8) + 1 ≤ y669 := by omega
                      have hAgC : agr (m.2 65) (m.2 65) (m.1 28) := by first | exact agr_r _ _ | exact hAgC | exact agr_t hAgC hAg (by omega)
                      clear g633 g635 g637 g643 h644 u649 g659 u664 g674 h680 h681 h682
                      refine T_gf 131 (.int (i32 0)) rfl rfl rfl rfl rfl rfl ?_
                      refine T_if 135 134 rfl rfl rfl ⟨by decide, by decide⟩ (fun _ => ?_) (fun h685 => absurd (show (0 : Int) ≤ 0 by decide) h685)
                      refine T_gf 139 (.int (i32 (m.1 70))) rfl rfl rfl rfl rfl rfl ?_
                      refine T_sto 141 [(6, .int (i32 (m.1 70))), (4, .long (i64 y620)), (2, .long (i64 y579)), (1, .int (i32 y571)), (0, .ref 189)] rfl (fun _ => rfl) ?_
                      have hAr : ar 405 ≤ 1 + lh (m.2 79) (m.2 80) (m.1 73) := by rw [show ar 405 = 1 from rfl]; omega
                      have hCk : CNk 405 y620 := by refine ⟨?_, ?_, ?_, ?_⟩ <;> omega
                      refine T_ld 142 (.ref 189) rfl (fun _ => rfl) ?_
                      refine T_ld 145 (.int (i32 405)) rfl (fun _ => rfl) ?_
                      refine T_ld 146 (.long (i64 y579)) rfl (fun _ => rfl) ?_
                      refine T_ld 148 (.long (i64 y620)) rfl (fun _ => rfl) ?_
                      refine T_lsub 149 rfl rfl ?_
                      refine T_l2i 150 rfl rfl ?_
                      refine T_ld 151 (.int (i32 1)) rfl (fun _ => rfl) ?_
                      refine T_iadd 152 rfl rfl ?_
                      refine T_ld 154 (.long (i64 y620)) rfl (fun _ => rfl) ?_
                      refine T_l2i 155 rfl rfl ?_
                      refine T_ld 156 (.long (i64 0)) rfl (fun _ => rfl) ?_
                      refine T_call 159 248 [.ref 189, .int (i32 405), .int (i32 ((y579 - y620) + 1)), .int (i32 y620), .long (i64 0)] [] rfl (fun _ => rfl) rfl (c_node w (mO m [(7, y667), (8, y669), (9, y671), (10, 0), (11, y675), (12, y677), (28, (m.1 28)), (69, (m.1 69)), (70, (m.1 70)), (71, (m.1 71)), (72, (m.1 72)), (75, (m.1 75))] [(65, (m.2 65)), (66, (m.2 66)), (67, (m.2 67)), (68, (m.2 68))]) c N D (by omega) (Ty_mO hT rfl rfl ⟨g668, g670, g672, ⟨(by omega : (0 : Int) ≤ 0), (by omega : (0 : Int) ≤ 8)⟩, g676, g678, f28, f69, f70, f71, f72, f75, trivial⟩ ⟨(hT.2.1 65), (hT.2.1 66), (hT.2.1 67), (hT.2.1 68), trivial⟩) 405 ((y579 - y620) + 1) y620 0 B (1 + lh (m.2 79) (m.2 80) (m.1 73)) ⟨by decide, by decide⟩ (r32 (by omega) (by omega)) (r32 (by omega) (by omega)) ⟨by decide, by decide⟩ (fun _ => ⟨(show 0 ≤ (405 : Int) ∧ (405 : Int) ≤ 408 by first | omega | decide), (show 0 ≤ ((y579 - y620) + 1) ∧ ((y579 - y620) + 1) ≤ 64 by first | omega | decide), (show 0 ≤ y620 ∧ y620 ≤ 191 by first | omega | decide), (show CNk (405 : Int) y620 by first | exact hCk | (refine ⟨?_, ?_, ?_, ?_⟩ <;> omega)), (show ar (405 : Int) ≤ (1 + lh (m.2 79) (m.2 80) (m.1 73)) by first | exact hAr | omega), (show EX (m.2 65) (m.2 67) B (m.1 28) (1 + lh (m.2 79) (m.2 80) (m.1 73)) by first | exact hEX | assumption)⟩)) (fun rr686 k687 => ?_)
                      obtain ⟨y688, y690, y692, F694, F696, F698, F700, g689, g691, g693, G695, G697, G699, G701, h702, c703, rfl⟩ := k687
                      refine ⟨_, _, rfl, ?_⟩
                      refine T_nf (st' := []) (l' := [(7, y667), (8, y669), (9, y671), (10, y688), (11, y690), (12, y677), (28, y692), (69, (m.1 69)), (70, (m.1 70)), (71, (m.1 71)), (72, (m.1 72)), (75, (m.1 75))]) (a' := [(65, F694), (66, F696), (67, F698), (68, F700)]) rfl rfl rfl rfl rfl ?_
                      by_cases hf704 : y688 = 0
                      · skip
                        subst hf704
                        replace h702 : (0 : Int) = 0 := h702 rfl
                        obtain ⟨c705, c706, c707⟩ := c703 rfl
                        replace c705 : y692 = (m.1 28) + 1 := c705
                        replace c706 : EX F694 F698 B y692 ((1 + lh (m.2 79) (m.2 80) (m.1 73)) + 1 - ar (405 : Int)) := c706
                        have hEX := c706
                        replace c707 : agr (m.2 65) F694 (m.1 28) := c707
                        have hAg := c707
                        clear c703
                        have u708 : (m.1 8) + 1 ≤ y669 := by omega
                        have hAgC : agr (m.2 65) F694 (m.1 28) := by first | exact agr_r _ _ | exact hAgC | exact agr_t hAgC hAg (by omega)
                        clear g676 g689
                        refine T_ld 160 (.ref 189) rfl (fun _ => rfl) ?_
                        refine T_ld 161 (.long (i64 y579)) rfl (fun _ => rfl) ?_
                        refine T_ld 163 (.long (i64 y620)) rfl (fun _ => rfl) ?_
                        refine T_lsub 164 rfl rfl ?_
                        refine T_l2i 165 rfl rfl ?_
                        refine T_ld 166 (.int (i32 1)) rfl (fun _ => rfl) ?_
                        refine T_iadd 167 rfl rfl ?_
                        refine T_ld 169 (.int (i32 (m.1 70))) rfl (fun _ => rfl) ?_
                        refine T_call 172 250 [.ref 189, .int (i32 ((y579 - y620) + 1)), .int (i32 (m.1 70))] [] rfl (fun _ => rfl) rfl (c_unit w (mO m [(7, y667), (8, y669), (9, y671), (10, 0), (11, y690), (12, y677), (28, y692), (69, (m.1 69)), (70, (m.1 70)), (71, (m.1 71)), (72, (m.1 72)), (75, (m.1 75))] [(65, F694), (66, F696), (67, F698), (68, F700)]) c N D (by omega) (Ty_mO hT rfl rfl ⟨g668, g670, g672, ⟨(by omega : (0 : Int) ≤ 0), (by omega : (0 : Int) ≤ 8)⟩, g691, g678, g693, f69, f70, f71, f72, f75, trivial⟩ ⟨G695, G697, G699, G701, trivial⟩) ((y579 - y620) + 1) (m.1 70) (r32 (by omega) (by omega)) (r32 (by omega) (by omega)) (show 0 ≤ ((y579 - y620) + 1) ∧ ((y579 - y620) + 1) ≤ 1024 by omega) (show 0 ≤ (m.1 70) ∧ (m.1 70) ≤ 4000 by omega)) (fun rr709 k710 => ?_)
                        obtain ⟨y711, y713, y715, y717, g712, g714, g716, g718, h719, rfl⟩ := k710
                        refine ⟨_, _, rfl, ?_⟩
                        refine T_nf (st' := []) (l' := [(7, y667), (8, y669), (9, y671), (10, 0), (11, y690), (12, y677), (28, y692), (69, y711), (70, y713), (71, y715), (72, y717), (75, (m.1 75))]) (a' := [(65, F694), (66, F696), (67, F698), (68, F700)]) rfl rfl rfl rfl rfl ?_
                        replace h719 : y711 = ((y579 - y620) + 1) := h719
                        have u720 : (m.1 8) + 1 ≤ y669 := by omega
                        have hAgC : agr (m.2 65) F694 (m.1 28) := by first | exact agr_r _ _ | exact hAgC | exact agr_t hAgC hAg (by omega)
                        have hXE : XS F694 F698 (m.2 76) (m.2 78) (m.2 79) (m.2 80) B y692 (m.1 73) (m.1 74) 1 := XS_of hXS hEX (by rw [show ar 405 = 1 from rfl]; omega)
                        refine T_goto 224 rfl (fun _ => rfl) ?_
                        refine T_ret rfl (fun _ => rfl) ?_
                        exact ⟨y667, y669, y671, 0, y690, y677, y692, y711, y713, y715, y717, (m.1 75), F694, F696, F698, F700, g668, g670, g672, ⟨by omega, by omega⟩, g691, g678, g693, g712, g714, g716, g718, f75, G695, G697, G699, G701, (by omega), (by first | (first | exact hLx | (intro h9; exfalso; omega)) | (exfalso; omega)), (fun _ => ⟨(by omega), (by omega), (by omega), (by first | (exact hXE) | (exfalso; omega)), (by first | (exact hAgC) | (exfalso; omega))⟩), rfl⟩
                      · skip
                        clear c703
                        clear h702
                        have hf721 : 1 ≤ y688 := by omega
                        clear g676
                        refine Tm_lv (a := [(0, .ref 189), (1, .int (i32 y571)), (2, .long (i64 y579)), (4, .long (i64 y620)), (6, .int (i32 (m.1 70)))]) rfl rfl ⟨rfl, rfl, rfl, rfl, rfl, trivial⟩ ?_
                        exact J159_196 y571 y579 y620 y667 y669 y671 y688 y690 y677 y692 F694 F696 F698 F700 (r32 (by omega) (by omega)) (r64 (by omega) (by omega)) (r64 (by omega) (by omega)) g668 g670 g672 g689 g691 g678 g693 G695 G697 G699 G701 (by omega) (by omega) (by omega) (by omega) (by omega)
                    · skip
                      replace h679 : LxP y667 y669 y671 (m.1 6) y673 := h679
                      have hLx := h679
                      clear h680
                      replace h681 : y634 ≤ y669 := h681
                      clear h682
                      have hf722 : 1 ≤ y673 := by omega
                      clear g633 g635 g637 g643 h644 u649 g659 u664 h681
                      refine Tm_lv (a := [(0, .ref 189), (1, .int (i32 y571)), (2, .long (i64 y579)), (4, .long (i64 y620))]) rfl rfl ⟨rfl, rfl, rfl, rfl, trivial⟩ ?_
                      exact J127_237 y571 y579 y620 y667 y669 y671 y673 y675 y677 (r32 (by omega) (by omega)) (r64 (by omega) (by omega)) (r64 (by omega) (by omega)) g668 g670 g672 g674 g676 g678 (by omega) (by omega) (by omega) (by omega)
                  · skip
                    clear c661
                    clear h660
                    have hf723 : 1 ≤ y656 := by omega
                    clear g641 h652a h652b h652c h652d h652e h653
                    refine Tm_lv (a := [(0, .ref 189), (1, .int (i32 y571)), (2, .long (i64 y579)), (4, .long (i64 y620))]) rfl rfl ⟨rfl, rfl, rfl, rfl, trivial⟩ ?_
                    exact J121_262 y571 y579 y620 y632 y634 y636 y656 y658 y642 (r32 (by omega) (by omega)) (r64 (by omega) (by omega)) (r64 (by omega) (by omega)) g633 g635 g637 g657 g659 g643 (by omega) (by omega) (by omega) (by omega)
                · skip
                  refine T_ld 90 (.long (i64 y620)) rfl (fun _ => rfl) ?_
                  refine T_ld 91 (.long (i64 0)) rfl (fun _ => rfl) ?_
                  refine T_lcmp 92 rfl rfl (r64 (by omega) (by omega)) ⟨by decide, by decide⟩ (fun z724 h725 => ?_)
                  obtain ⟨h725a, h725b, h725c, h725d, h725e⟩ := h725
                  refine T_if 116 95 rfl rfl rfl (r32 (by omega) (by omega)) (fun (h726 : z724 < 0) => ?_) (fun (h726 : ¬ (z724 < 0)) => ?_)
                  · skip
                    refine T_ld 117 (.int (i32 0)) rfl (fun _ => rfl) ?_
                    refine T_ld 118 (.int (i32 y571)) rfl (fun _ => rfl) ?_
                    refine T_call 121 256 [.ref 189, .int (i32 0), .int (i32 y571)] [] rfl (fun _ => rfl) rfl (c_want w (mO m [(7, y632), (8, y634), (9, y636), (10, 0), (11, y640), (12, y642), (28, (m.1 28)), (69, (m.1 69)), (70, (m.1 70)), (71, (m.1 71)), (72, (m.1 72)), (75, (m.1 75))] [(65, (m.2 65)), (66, (m.2 66)), (67, (m.2 67)), (68, (m.2 68))]) c N D (by omega) (Ty_mO hT rfl rfl ⟨g633, g635, g637, ⟨(by omega : (0 : Int) ≤ 0), (by omega : (0 : Int) ≤ 8)⟩, g641, g643, f28, f69, f70, f71, f72, f75, trivial⟩ ⟨(hT.2.1 65), (hT.2.1 66), (hT.2.1 67), (hT.2.1 68), trivial⟩) 0 y571 ⟨by decide, by decide⟩ (r32 (by omega) (by omega)) (show 0 ≤ y571 ∧ y571 ≤ 4000 by omega) (fun _ => trivial)) (fun rr727 k728 => ?_)
                    obtain ⟨y729, y731, g730, g732, h733, c734, rfl⟩ := k728
                    refine ⟨_, _, rfl, ?_⟩
                    refine T_nf (st' := []) (l' := [(7, y632), (8, y634), (9, y636), (10, y729), (11, y731), (12, y642), (28, (m.1 28)), (69, (m.1 69)), (70, (m.1 70)), (71, (m.1 71)), (72, (m.1 72)), (75, (m.1 75))]) (a' := [(65, (m.2 65)), (66, (m.2 66)), (67, (m.2 67)), (68, (m.2 68))]) rfl rfl rfl rfl rfl ?_
                    by_cases hf735 : y729 = 0
                    · skip
                      subst hf735
                      replace h733 : (0 : Int) = 0 := h733 rfl
                      have c736 := c734 rfl
                      replace c736 : (0 : Int) ≠ 0 := c736
                      clear c734
                      have u737 : (m.1 8) + 1 ≤ y634 := by omega
                      have hAgC : agr (m.2 65) (m.2 65) (m.1 28) := by first | exact agr_r _ _ | exact hAgC | exact agr_t hAgC hAg (by omega)
                      clear g641 h652a h652b h652c h652d h652e h653 h725a h725b h725c h725d h725e h726 g730
                      refine T_ld 122 (.ref 189) rfl (fun _ => rfl) ?_
                      refine T_ld 124 (.int (i32 93)) rfl (fun _ => rfl) ?_
                      refine T_call 127 232 [.ref 189, .int (i32 93)] [] rfl (fun _ => rfl) rfl (c_need w (mO m [(7, y632), (8, y634), (9, y636), (10, 0), (11, y731), (12, y642), (28, (m.1 28)), (69, (m.1 69)), (70, (m.1 70)), (71, (m.1 71)), (72, (m.1 72)), (75, (m.1 75))] [(65, (m.2 65)), (66, (m.2 66)), (67, (m.2 67)), (68, (m.2 68))]) c N D (by omega) (Ty_mO hT rfl rfl ⟨g633, g635, g637, ⟨(by omega : (0 : Int) ≤ 0), (by omega : (0 : Int) ≤ 8)⟩, g732, g643, f28, f69, f70, f71, f72, f75, trivial⟩ ⟨(hT.2.1 65), (hT.2.1 66), (hT.2.1 67), (hT.2.1 68), trivial⟩) 93 ⟨by decide, by decide⟩ (show 1 ≤ (93 : Int) by omega) (show LxP y632 y634 y636 (m.1 6) (0 : Int) by first | exact hLx | (intro h9; exfalso; omega) | (intro h9; have h8 := hLx (by omega); omega))) (fun rr738 k739 => ?_)
                      obtain ⟨y740, y742, y744, y746, y748, y750, g741, g743, g745, g747, g749, g751, h752, h753, h754, h755, rfl⟩ := k739
                      refine ⟨_, _, rfl, ?_⟩
                      refine T_nf (st' := []) (l' := [(7, y740), (8, y742), (9, y744), (10, y746), (11, y748), (12, y750), (28, (m.1 28)), (69, (m.1 69)), (70, (m.1 70)), (71, (m.1 71)), (72, (m.1 72)), (75, (m.1 75))]) (a' := [(65, (m.2 65)), (66, (m.2 66)), (67, (m.2 67)), (68, (m.2 68))]) rfl rfl rfl rfl rfl ?_
                      by_cases hf756 : y746 = 0
                      · skip
                        subst hf756
                        replace h752 : LxP y740 y742 y744 (m.1 6) (0 : Int) := h752
                        have hLx := h752
                        replace h753 : (0 : Int) = 0 ∧ y632 = (93 : Int) := h753 rfl
                        replace h754 : y634 ≤ y742 := h754
                        replace h755 : y634 + y636 ≤ y742 := h755 rfl
                        have u757 : (m.1 8) + 1 ≤ y742 := by omega
                        have hAgC : agr (m.2 65) (m.2 65) (m.1 28) := by first | exact agr_r _ _ | exact hAgC | exact agr_t hAgC hAg (by omega)
                        clear g633 g635 g637 g643 h644 u649 g732 u737 g747 h753 h754 h755
                        refine T_gf 131 (.int (i32 0)) rfl rfl rfl rfl rfl rfl ?_
                        refine T_if 135 134 rfl rfl rfl ⟨by decide, by decide⟩ (fun _ => ?_) (fun h758 => absurd (show (0 : Int) ≤ 0 by decide) h758)
                        refine T_gf 139 (.int (i32 (m.1 70))) rfl rfl rfl rfl rfl rfl ?_
                        refine T_sto 141 [(6, .int (i32 (m.1 70))), (4, .long (i64 y620)), (2, .long (i64 y579)), (1, .int (i32 y571)), (0, .ref 189)] rfl (fun _ => rfl) ?_
                        have hAr : ar 405 ≤ 1 + lh (m.2 79) (m.2 80) (m.1 73) := by rw [show ar 405 = 1 from rfl]; omega
                        have hCk : CNk 405 y620 := by refine ⟨?_, ?_, ?_, ?_⟩ <;> omega
                        refine T_ld 142 (.ref 189) rfl (fun _ => rfl) ?_
                        refine T_ld 145 (.int (i32 405)) rfl (fun _ => rfl) ?_
                        refine T_ld 146 (.long (i64 y579)) rfl (fun _ => rfl) ?_
                        refine T_ld 148 (.long (i64 y620)) rfl (fun _ => rfl) ?_
                        refine T_lsub 149 rfl rfl ?_
                        refine T_l2i 150 rfl rfl ?_
                        refine T_ld 151 (.int (i32 1)) rfl (fun _ => rfl) ?_
                        refine T_iadd 152 rfl rfl ?_
                        refine T_ld 154 (.long (i64 y620)) rfl (fun _ => rfl) ?_
                        refine T_l2i 155 rfl rfl ?_
                        refine T_ld 156 (.long (i64 0)) rfl (fun _ => rfl) ?_
                        refine T_call 159 248 [.ref 189, .int (i32 405), .int (i32 ((y579 - y620) + 1)), .int (i32 y620), .long (i64 0)] [] rfl (fun _ => rfl) rfl (c_node w (mO m [(7, y740), (8, y742), (9, y744), (10, 0), (11, y748), (12, y750), (28, (m.1 28)), (69, (m.1 69)), (70, (m.1 70)), (71, (m.1 71)), (72, (m.1 72)), (75, (m.1 75))] [(65, (m.2 65)), (66, (m.2 66)), (67, (m.2 67)), (68, (m.2 68))]) c N D (by omega) (Ty_mO hT rfl rfl ⟨g741, g743, g745, ⟨(by omega : (0 : Int) ≤ 0), (by omega : (0 : Int) ≤ 8)⟩, g749, g751, f28, f69, f70, f71, f72, f75, trivial⟩ ⟨(hT.2.1 65), (hT.2.1 66), (hT.2.1 67), (hT.2.1 68), trivial⟩) 405 ((y579 - y620) + 1) y620 0 B (1 + lh (m.2 79) (m.2 80) (m.1 73)) ⟨by decide, by decide⟩ (r32 (by omega) (by omega)) (r32 (by omega) (by omega)) ⟨by decide, by decide⟩ (fun _ => ⟨(show 0 ≤ (405 : Int) ∧ (405 : Int) ≤ 408 by first | omega | decide), (show 0 ≤ ((y579 - y620) + 1) ∧ ((y579 - y620) + 1) ≤ 64 by first | omega | decide), (show 0 ≤ y620 ∧ y620 ≤ 191 by first | omega | decide), (show CNk (405 : Int) y620 by first | exact hCk | (refine ⟨?_, ?_, ?_, ?_⟩ <;> omega)), (show ar (405 : Int) ≤ (1 + lh (m.2 79) (m.2 80) (m.1 73)) by first | exact hAr | omega), (show EX (m.2 65) (m.2 67) B (m.1 28) (1 + lh (m.2 79) (m.2 80) (m.1 73)) by first | exact hEX | assumption)⟩)) (fun rr759 k760 => ?_)
                        obtain ⟨y761, y763, y765, F767, F769, F771, F773, g762, g764, g766, G768, G770, G772, G774, h775, c776, rfl⟩ := k760
                        refine ⟨_, _, rfl, ?_⟩
                        refine T_nf (st' := []) (l' := [(7, y740), (8, y742), (9, y744), (10, y761), (11, y763), (12, y750), (28, y765), (69, (m.1 69)), (70, (m.1 70)), (71, (m.1 71)), (72, (m.1 72)), (75, (m.1 75))]) (a' := [(65, F767), (66, F769), (67, F771), (68, F773)]) rfl rfl rfl rfl rfl ?_
                        by_cases hf777 : y761 = 0
                        · skip
                          subst hf777
                          replace h775 : (0 : Int) = 0 := h775 rfl
                          obtain ⟨c778, c779, c780⟩ := c776 rfl
                          replace c778 : y765 = (m.1 28) + 1 := c778
                          replace c779 : EX F767 F771 B y765 ((1 + lh (m.2 79) (m.2 80) (m.1 73)) + 1 - ar (405 : Int)) := c779
                          have hEX := c779
                          replace c780 : agr (m.2 65) F767 (m.1 28) := c780
                          have hAg := c780
                          clear c776
                          have u781 : (m.1 8) + 1 ≤ y742 := by omega
                          have hAgC : agr (m.2 65) F767 (m.1 28) := by first | exact agr_r _ _ | exact hAgC | exact agr_t hAgC hAg (by omega)
                          clear g749 g762
                          refine T_ld 160 (.ref 189) rfl (fun _ => rfl) ?_
                          refine T_ld 161 (.long (i64 y579)) rfl (fun _ => rfl) ?_
                          refine T_ld 163 (.long (i64 y620)) rfl (fun _ => rfl) ?_
                          refine T_lsub 164 rfl rfl ?_
                          refine T_l2i 165 rfl rfl ?_
                          refine T_ld 166 (.int (i32 1)) rfl (fun _ => rfl) ?_
                          refine T_iadd 167 rfl rfl ?_
                          refine T_ld 169 (.int (i32 (m.1 70))) rfl (fun _ => rfl) ?_
                          refine T_call 172 250 [.ref 189, .int (i32 ((y579 - y620) + 1)), .int (i32 (m.1 70))] [] rfl (fun _ => rfl) rfl (c_unit w (mO m [(7, y740), (8, y742), (9, y744), (10, 0), (11, y763), (12, y750), (28, y765), (69, (m.1 69)), (70, (m.1 70)), (71, (m.1 71)), (72, (m.1 72)), (75, (m.1 75))] [(65, F767), (66, F769), (67, F771), (68, F773)]) c N D (by omega) (Ty_mO hT rfl rfl ⟨g741, g743, g745, ⟨(by omega : (0 : Int) ≤ 0), (by omega : (0 : Int) ≤ 8)⟩, g764, g751, g766, f69, f70, f71, f72, f75, trivial⟩ ⟨G768, G770, G772, G774, trivial⟩) ((y579 - y620) + 1) (m.1 70) (r32 (by omega) (by omega)) (r32 (by omega) (by omega)) (show 0 ≤ ((y579 - y620) + 1) ∧ ((y579 - y620) + 1) ≤ 1024 by omega) (show 0 ≤ (m.1 70) ∧ (m.1 70) ≤ 4000 by omega)) (fun rr782 k783 => ?_)
                          obtain ⟨y784, y786, y788, y790, g785, g787, g789, g791, h792, rfl⟩ := k783
                          refine ⟨_, _, rfl, ?_⟩
                          refine T_nf (st' := []) (l' := [(7, y740), (8, y742), (9, y744), (10, 0), (11, y763), (12, y750), (28, y765), (69, y784), (70, y786), (71, y788), (72, y790), (75, (m.1 75))]) (a' := [(65, F767), (66, F769), (67, F771), (68, F773)]) rfl rfl rfl rfl rfl ?_
                          replace h792 : y784 = ((y579 - y620) + 1) := h792
                          have u793 : (m.1 8) + 1 ≤ y742 := by omega
                          have hAgC : agr (m.2 65) F767 (m.1 28) := by first | exact agr_r _ _ | exact hAgC | exact agr_t hAgC hAg (by omega)
                          have hXE : XS F767 F771 (m.2 76) (m.2 78) (m.2 79) (m.2 80) B y765 (m.1 73) (m.1 74) 1 := XS_of hXS hEX (by rw [show ar 405 = 1 from rfl]; omega)
                          refine T_goto 224 rfl (fun _ => rfl) ?_
                          refine T_ret rfl (fun _ => rfl) ?_
                          exact ⟨y740, y742, y744, 0, y763, y750, y765, y784, y786, y788, y790, (m.1 75), F767, F769, F771, F773, g741, g743, g745, ⟨by omega, by omega⟩, g764, g751, g766, g785, g787, g789, g791, f75, G768, G770, G772, G774, (by omega), (by first | (first | exact hLx | (intro h9; exfalso; omega)) | (exfalso; omega)), (fun _ => ⟨(by omega), (by omega), (by omega), (by first | (exact hXE) | (exfalso; omega)), (by first | (exact hAgC) | (exfalso; omega))⟩), rfl⟩
                        · skip
                          clear c776
                          clear h775
                          have hf794 : 1 ≤ y761 := by omega
                          clear g749
                          refine Tm_lv (a := [(0, .ref 189), (1, .int (i32 y571)), (2, .long (i64 y579)), (4, .long (i64 y620)), (6, .int (i32 (m.1 70)))]) rfl rfl ⟨rfl, rfl, rfl, rfl, rfl, trivial⟩ ?_
                          exact J159_196 y571 y579 y620 y740 y742 y744 y761 y763 y750 y765 F767 F769 F771 F773 (r32 (by omega) (by omega)) (r64 (by omega) (by omega)) (r64 (by omega) (by omega)) g741 g743 g745 g762 g764 g751 g766 G768 G770 G772 G774 (by omega) (by omega) (by omega) (by omega) (by omega)
                      · skip
                        replace h752 : LxP y740 y742 y744 (m.1 6) y746 := h752
                        have hLx := h752
                        clear h753
                        replace h754 : y634 ≤ y742 := h754
                        clear h755
                        have hf795 : 1 ≤ y746 := by omega
                        clear g633 g635 g637 g643 h644 u649 g732 u737 h754
                        refine Tm_lv (a := [(0, .ref 189), (1, .int (i32 y571)), (2, .long (i64 y579)), (4, .long (i64 y620))]) rfl rfl ⟨rfl, rfl, rfl, rfl, trivial⟩ ?_
                        exact J127_237 y571 y579 y620 y740 y742 y744 y746 y748 y750 (r32 (by omega) (by omega)) (r64 (by omega) (by omega)) (r64 (by omega) (by omega)) g741 g743 g745 g747 g749 g751 (by omega) (by omega) (by omega) (by omega)
                    · skip
                      clear c734
                      clear h733
                      have hf796 : 1 ≤ y729 := by omega
                      clear g641 h652a h652b h652c h652d h652e h653 h725a h725b h725c h725d h725e h726
                      refine Tm_lv (a := [(0, .ref 189), (1, .int (i32 y571)), (2, .long (i64 y579)), (4, .long (i64 y620))]) rfl rfl ⟨rfl, rfl, rfl, rfl, trivial⟩ ?_
                      exact J121_262 y571 y579 y620 y632 y634 y636 y729 y731 y642 (r32 (by omega) (by omega)) (r64 (by omega) (by omega)) (r64 (by omega) (by omega)) g633 g635 g637 g730 g732 g643 (by omega) (by omega) (by omega) (by omega)
                  · skip
                    refine T_ld 97 (.long (i64 y620)) rfl (fun _ => rfl) ?_
                    refine T_ld 98 (.long (i64 y579)) rfl (fun _ => rfl) ?_
                    refine T_lcmp 99 rfl rfl (r64 (by omega) (by omega)) (r64 (by omega) (by omega)) (fun z797 h798 => ?_)
                    obtain ⟨h798a, h798b, h798c, h798d, h798e⟩ := h798
                    refine T_if 116 102 rfl rfl rfl (r32 (by omega) (by omega)) (fun (h799 : (0 : Int) < z797) => ?_) (fun (h799 : ¬ ((0 : Int) < z797)) => ?_)
                    · skip
                      refine T_ld 117 (.int (i32 0)) rfl (fun _ => rfl) ?_
                      refine T_ld 118 (.int (i32 y571)) rfl (fun _ => rfl) ?_
                      refine T_call 121 256 [.ref 189, .int (i32 0), .int (i32 y571)] [] rfl (fun _ => rfl) rfl (c_want w (mO m [(7, y632), (8, y634), (9, y636), (10, 0), (11, y640), (12, y642), (28, (m.1 28)), (69, (m.1 69)), (70, (m.1 70)), (71, (m.1 71)), (72, (m.1 72)), (75, (m.1 75))] [(65, (m.2 65)), (66, (m.2 66)), (67, (m.2 67)), (68, (m.2 68))]) c N D (by omega) (Ty_mO hT rfl rfl ⟨g633, g635, g637, ⟨(by omega : (0 : Int) ≤ 0), (by omega : (0 : Int) ≤ 8)⟩, g641, g643, f28, f69, f70, f71, f72, f75, trivial⟩ ⟨(hT.2.1 65), (hT.2.1 66), (hT.2.1 67), (hT.2.1 68), trivial⟩) 0 y571 ⟨by decide, by decide⟩ (r32 (by omega) (by omega)) (show 0 ≤ y571 ∧ y571 ≤ 4000 by omega) (fun _ => trivial)) (fun rr800 k801 => ?_)
                      obtain ⟨y802, y804, g803, g805, h806, c807, rfl⟩ := k801
                      refine ⟨_, _, rfl, ?_⟩
                      refine T_nf (st' := []) (l' := [(7, y632), (8, y634), (9, y636), (10, y802), (11, y804), (12, y642), (28, (m.1 28)), (69, (m.1 69)), (70, (m.1 70)), (71, (m.1 71)), (72, (m.1 72)), (75, (m.1 75))]) (a' := [(65, (m.2 65)), (66, (m.2 66)), (67, (m.2 67)), (68, (m.2 68))]) rfl rfl rfl rfl rfl ?_
                      by_cases hf808 : y802 = 0
                      · skip
                        subst hf808
                        replace h806 : (0 : Int) = 0 := h806 rfl
                        have c809 := c807 rfl
                        replace c809 : (0 : Int) ≠ 0 := c809
                        clear c807
                        have u810 : (m.1 8) + 1 ≤ y634 := by omega
                        have hAgC : agr (m.2 65) (m.2 65) (m.1 28) := by first | exact agr_r _ _ | exact hAgC | exact agr_t hAgC hAg (by omega)
                        clear g641 h652a h652b h652c h652d h652e h653 h725a h725b h725c h725d h725e h726 h798a h798b h798c h798d h798e h799 g803
                        refine T_ld 122 (.ref 189) rfl (fun _ => rfl) ?_
                        refine T_ld 124 (.int (i32 93)) rfl (fun _ => rfl) ?_
                        refine T_call 127 232 [.ref 189, .int (i32 93)] [] rfl (fun _ => rfl) rfl (c_need w (mO m [(7, y632), (8, y634), (9, y636), (10, 0), (11, y804), (12, y642), (28, (m.1 28)), (69, (m.1 69)), (70, (m.1 70)), (71, (m.1 71)), (72, (m.1 72)), (75, (m.1 75))] [(65, (m.2 65)), (66, (m.2 66)), (67, (m.2 67)), (68, (m.2 68))]) c N D (by omega) (Ty_mO hT rfl rfl ⟨g633, g635, g637, ⟨(by omega : (0 : Int) ≤ 0), (by omega : (0 : Int) ≤ 8)⟩, g805, g643, f28, f69, f70, f71, f72, f75, trivial⟩ ⟨(hT.2.1 65), (hT.2.1 66), (hT.2.1 67), (hT.2.1 68), trivial⟩) 93 ⟨by decide, by decide⟩ (show 1 ≤ (93 : Int) by omega) (show LxP y632 y634 y636 (m.1 6) (0 : Int) by first | exact hLx | (intro h9; exfalso; omega) | (intro h9; have h8 := hLx (by omega); omega))) (fun rr811 k812 => ?_)
                        obtain ⟨y813, y815, y817, y819, y821, y823, g814, g816, g818, g820, g822, g824, h825, h826, h827, h828, rfl⟩ := k812
                        refine ⟨_, _, rfl, ?_⟩
                        refine T_nf (st' := []) (l' := [(7, y813), (8, y815), (9, y817), (10, y819), (11, y821), (12, y823), (28, (m.1 28)), (69, (m.1 69)), (70, (m.1 70)), (71, (m.1 71)), (72, (m.1 72)), (75, (m.1 75))]) (a' := [(65, (m.2 65)), (66, (m.2 66)), (67, (m.2 67)), (68, (m.2 68))]) rfl rfl rfl rfl rfl ?_
                        by_cases hf829 : y819 = 0
                        · skip
                          subst hf829
                          replace h825 : LxP y813 y815 y817 (m.1 6) (0 : Int) := h825
                          have hLx := h825
                          replace h826 : (0 : Int) = 0 ∧ y632 = (93 : Int) := h826 rfl
                          replace h827 : y634 ≤ y815 := h827
                          replace h828 : y634 + y636 ≤ y815 := h828 rfl
                          have u830 : (m.1 8) + 1 ≤ y815 := by omega
                          have hAgC : agr (m.2 65) (m.2 65) (m.1 28) := by first | exact agr_r _ _ | exact hAgC | exact agr_t hAgC hAg (by omega)
                          clear g633 g635 g637 g643 h644 u649 g805 u810 g820 h826 h827 h828
                          refine T_gf 131 (.int (i32 0)) rfl rfl rfl rfl rfl rfl ?_
                          refine T_if 135 134 rfl rfl rfl ⟨by decide, by decide⟩ (fun _ => ?_) (fun h831 => absurd (show (0 : Int) ≤ 0 by decide) h831)
                          refine T_gf 139 (.int (i32 (m.1 70))) rfl rfl rfl rfl rfl rfl ?_
                          refine T_sto 141 [(6, .int (i32 (m.1 70))), (4, .long (i64 y620)), (2, .long (i64 y579)), (1, .int (i32 y571)), (0, .ref 189)] rfl (fun _ => rfl) ?_
                          have hAr : ar 405 ≤ 1 + lh (m.2 79) (m.2 80) (m.1 73) := by rw [show ar 405 = 1 from rfl]; omega
                          have hCk : CNk 405 y620 := by refine ⟨?_, ?_, ?_, ?_⟩ <;> omega
                          refine T_ld 142 (.ref 189) rfl (fun _ => rfl) ?_
                          refine T_ld 145 (.int (i32 405)) rfl (fun _ => rfl) ?_
                          refine T_ld 146 (.long (i64 y579)) rfl (fun _ => rfl) ?_
                          refine T_ld 148 (.long (i64 y620)) rfl (fun _ => rfl) ?_
                          refine T_lsub 149 rfl rfl ?_
                          refine T_l2i 150 rfl rfl ?_
                          refine T_ld 151 (.int (i32 1)) rfl (fun _ => rfl) ?_
                          refine T_iadd 152 rfl rfl ?_
                          refine T_ld 154 (.long (i64 y620)) rfl (fun _ => rfl) ?_
                          refine T_l2i 155 rfl rfl ?_
                          refine T_ld 156 (.long (i64 0)) rfl (fun _ => rfl) ?_
                          refine T_call 159 248 [.ref 189, .int (i32 405), .int (i32 ((y579 - y620) + 1)), .int (i32 y620), .long (i64 0)] [] rfl (fun _ => rfl) rfl (c_node w (mO m [(7, y813), (8, y815), (9, y817), (10, 0), (11, y821), (12, y823), (28, (m.1 28)), (69, (m.1 69)), (70, (m.1 70)), (71, (m.1 71)), (72, (m.1 72)), (75, (m.1 75))] [(65, (m.2 65)), (66, (m.2 66)), (67, (m.2 67)), (68, (m.2 68))]) c N D (by omega) (Ty_mO hT rfl rfl ⟨g814, g816, g818, ⟨(by omega : (0 : Int) ≤ 0), (by omega : (0 : Int) ≤ 8)⟩, g822, g824, f28, f69, f70, f71, f72, f75, trivial⟩ ⟨(hT.2.1 65), (hT.2.1 66), (hT.2.1 67), (hT.2.1 68), trivial⟩) 405 ((y579 - y620) + 1) y620 0 B (1 + lh (m.2 79) (m.2 80) (m.1 73)) ⟨by decide, by decide⟩ (r32 (by omega) (by omega)) (r32 (by omega) (by omega)) ⟨by decide, by decide⟩ (fun _ => ⟨(show 0 ≤ (405 : Int) ∧ (405 : Int) ≤ 408 by first | omega | decide), (show 0 ≤ ((y579 - y620) + 1) ∧ ((y579 - y620) + 1) ≤ 64 by first | omega | decide), (show 0 ≤ y620 ∧ y620 ≤ 191 by first | omega | decide), (show CNk (405 : Int) y620 by first | exact hCk | (refine ⟨?_, ?_, ?_, ?_⟩ <;> omega)), (show ar (405 : Int) ≤ (1 + lh (m.2 79) (m.2 80) (m.1 73)) by first | exact hAr | omega), (show EX (m.2 65) (m.2 67) B (m.1 28) (1 + lh (m.2 79) (m.2 80) (m.1 73)) by first | exact hEX | assumption)⟩)) (fun rr832 k833 => ?_)
                          obtain ⟨y834, y836, y838, F840, F842, F844, F846, g835, g837, g839, G841, G843, G845, G847, h848, c849, rfl⟩ := k833
                          refine ⟨_, _, rfl, ?_⟩
                          refine T_nf (st' := []) (l' := [(7, y813), (8, y815), (9, y817), (10, y834), (11, y836), (12, y823), (28, y838), (69, (m.1 69)), (70, (m.1 70)), (71, (m.1 71)), (72, (m.1 72)), (75, (m.1 75))]) (a' := [(65, F840), (66, F842), (67, F844), (68, F846)]) rfl rfl rfl rfl rfl ?_
                          by_cases hf850 : y834 = 0
                          · skip
                            subst hf850
                            replace h848 : (0 : Int) = 0 := h848 rfl
                            obtain ⟨c851, c852, c853⟩ := c849 rfl
                            replace c851 : y838 = (m.1 28) + 1 := c851
                            replace c852 : EX F840 F844 B y838 ((1 + lh (m.2 79) (m.2 80) (m.1 73)) + 1 - ar (405 : Int)) := c852
                            have hEX := c852
                            replace c853 : agr (m.2 65) F840 (m.1 28) := c853
                            have hAg := c853
                            clear c849
                            have u854 : (m.1 8) + 1 ≤ y815 := by omega
                            have hAgC : agr (m.2 65) F840 (m.1 28) := by first | exact agr_r _ _ | exact hAgC | exact agr_t hAgC hAg (by omega)
                            clear g822 g835
                            refine T_ld 160 (.ref 189) rfl (fun _ => rfl) ?_
                            refine T_ld 161 (.long (i64 y579)) rfl (fun _ => rfl) ?_
                            refine T_ld 163 (.long (i64 y620)) rfl (fun _ => rfl) ?_
                            refine T_lsub 164 rfl rfl ?_
                            refine T_l2i 165 rfl rfl ?_
                            refine T_ld 166 (.int (i32 1)) rfl (fun _ => rfl) ?_
                            refine T_iadd 167 rfl rfl ?_
                            refine T_ld 169 (.int (i32 (m.1 70))) rfl (fun _ => rfl) ?_
                            refine T_call 172 250 [.ref 189, .int (i32 ((y579 - y620) + 1)), .int (i32 (m.1 70))] [] rfl (fun _ => rfl) rfl (c_unit w (mO m [(7, y813), (8, y815), (9, y817), (10, 0), (11, y836), (12, y823), (28, y838), (69, (m.1 69)), (70, (m.1 70)), (71, (m.1 71)), (72, (m.1 72)), (75, (m.1 75))] [(65, F840), (66, F842), (67, F844), (68, F846)]) c N D (by omega) (Ty_mO hT rfl rfl ⟨g814, g816, g818, ⟨(by omega : (0 : Int) ≤ 0), (by omega : (0 : Int) ≤ 8)⟩, g837, g824, g839, f69, f70, f71, f72, f75, trivial⟩ ⟨G841, G843, G845, G847, trivial⟩) ((y579 - y620) + 1) (m.1 70) (r32 (by omega) (by omega)) (r32 (by omega) (by omega)) (show 0 ≤ ((y579 - y620) + 1) ∧ ((y579 - y620) + 1) ≤ 1024 by omega) (show 0 ≤ (m.1 70) ∧ (m.1 70) ≤ 4000 by omega)) (fun rr855 k856 => ?_)
                            obtain ⟨y857, y859, y861, y863, g858, g860, g862, g864, h865, rfl⟩ := k856
                            refine ⟨_, _, rfl, ?_⟩
                            refine T_nf (st' := []) (l' := [(7, y813), (8, y815), (9, y817), (10, 0), (11, y836), (12, y823), (28, y838), (69, y857), (70, y859), (71, y861), (72, y863), (75, (m.1 75))]) (a' := [(65, F840), (66, F842), (67, F844), (68, F846)]) rfl rfl rfl rfl rfl ?_
                            replace h865 : y857 = ((y579 - y620) + 1) := h865
                            have u866 : (m.1 8) + 1 ≤ y815 := by omega
                            have hAgC : agr (m.2 65) F840 (m.1 28) := by first | exact agr_r _ _ | exact hAgC | exact agr_t hAgC hAg (by omega)
                            have hXE : XS F840 F844 (m.2 76) (m.2 78) (m.2 79) (m.2 80) B y838 (m.1 73) (m.1 74) 1 := XS_of hXS hEX (by rw [show ar 405 = 1 from rfl]; omega)
                            refine T_goto 224 rfl (fun _ => rfl) ?_
                            refine T_ret rfl (fun _ => rfl) ?_
                            exact ⟨y813, y815, y817, 0, y836, y823, y838, y857, y859, y861, y863, (m.1 75), F840, F842, F844, F846, g814, g816, g818, ⟨by omega, by omega⟩, g837, g824, g839, g858, g860, g862, g864, f75, G841, G843, G845, G847, (by omega), (by first | (first | exact hLx | (intro h9; exfalso; omega)) | (exfalso; omega)), (fun _ => ⟨(by omega), (by omega), (by omega), (by first | (exact hXE) | (exfalso; omega)), (by first | (exact hAgC) | (exfalso; omega))⟩), rfl⟩
                          · skip
                            clear c849
                            clear h848
                            have hf867 : 1 ≤ y834 := by omega
                            clear g822
                            refine Tm_lv (a := [(0, .ref 189), (1, .int (i32 y571)), (2, .long (i64 y579)), (4, .long (i64 y620)), (6, .int (i32 (m.1 70)))]) rfl rfl ⟨rfl, rfl, rfl, rfl, rfl, trivial⟩ ?_
                            exact J159_196 y571 y579 y620 y813 y815 y817 y834 y836 y823 y838 F840 F842 F844 F846 (r32 (by omega) (by omega)) (r64 (by omega) (by omega)) (r64 (by omega) (by omega)) g814 g816 g818 g835 g837 g824 g839 G841 G843 G845 G847 (by omega) (by omega) (by omega) (by omega) (by omega)
                        · skip
                          replace h825 : LxP y813 y815 y817 (m.1 6) y819 := h825
                          have hLx := h825
                          clear h826
                          replace h827 : y634 ≤ y815 := h827
                          clear h828
                          have hf868 : 1 ≤ y819 := by omega
                          clear g633 g635 g637 g643 h644 u649 g805 u810 h827
                          refine Tm_lv (a := [(0, .ref 189), (1, .int (i32 y571)), (2, .long (i64 y579)), (4, .long (i64 y620))]) rfl rfl ⟨rfl, rfl, rfl, rfl, trivial⟩ ?_
                          exact J127_237 y571 y579 y620 y813 y815 y817 y819 y821 y823 (r32 (by omega) (by omega)) (r64 (by omega) (by omega)) (r64 (by omega) (by omega)) g814 g816 g818 g820 g822 g824 (by omega) (by omega) (by omega) (by omega)
                      · skip
                        clear c807
                        clear h806
                        have hf869 : 1 ≤ y802 := by omega
                        clear g641 h652a h652b h652c h652d h652e h653 h725a h725b h725c h725d h725e h726 h798a h798b h798c h798d h798e h799
                        refine Tm_lv (a := [(0, .ref 189), (1, .int (i32 y571)), (2, .long (i64 y579)), (4, .long (i64 y620))]) rfl rfl ⟨rfl, rfl, rfl, rfl, trivial⟩ ?_
                        exact J121_262 y571 y579 y620 y632 y634 y636 y802 y804 y642 (r32 (by omega) (by omega)) (r64 (by omega) (by omega)) (r64 (by omega) (by omega)) g633 g635 g637 g803 g805 g643 (by omega) (by omega) (by omega) (by omega)
                    · skip
                      refine T_ld 103 (.long (i64 y579)) rfl (fun _ => rfl) ?_
                      refine T_gf 107 (.int (i32 (m.1 69))) rfl rfl rfl rfl rfl rfl ?_
                      refine T_i2l 108 rfl rfl (r32 (by omega) (by omega)) ?_
                      refine T_lcmp 109 rfl rfl (r64 (by omega) (by omega)) (r64 (by omega) (by omega)) (fun z870 h871 => ?_)
                      obtain ⟨h871a, h871b, h871c, h871d, h871e⟩ := h871
                      refine T_if 116 112 rfl rfl rfl (r32 (by omega) (by omega)) (fun (h872 : (0 : Int) ≤ z870) => ?_) (fun (h872 : ¬ ((0 : Int) ≤ z870)) => ?_)
                      · skip
                        refine T_ld 117 (.int (i32 0)) rfl (fun _ => rfl) ?_
                        refine T_ld 118 (.int (i32 y571)) rfl (fun _ => rfl) ?_
                        refine T_call 121 256 [.ref 189, .int (i32 0), .int (i32 y571)] [] rfl (fun _ => rfl) rfl (c_want w (mO m [(7, y632), (8, y634), (9, y636), (10, 0), (11, y640), (12, y642), (28, (m.1 28)), (69, (m.1 69)), (70, (m.1 70)), (71, (m.1 71)), (72, (m.1 72)), (75, (m.1 75))] [(65, (m.2 65)), (66, (m.2 66)), (67, (m.2 67)), (68, (m.2 68))]) c N D (by omega) (Ty_mO hT rfl rfl ⟨g633, g635, g637, ⟨(by omega : (0 : Int) ≤ 0), (by omega : (0 : Int) ≤ 8)⟩, g641, g643, f28, f69, f70, f71, f72, f75, trivial⟩ ⟨(hT.2.1 65), (hT.2.1 66), (hT.2.1 67), (hT.2.1 68), trivial⟩) 0 y571 ⟨by decide, by decide⟩ (r32 (by omega) (by omega)) (show 0 ≤ y571 ∧ y571 ≤ 4000 by omega) (fun _ => trivial)) (fun rr873 k874 => ?_)
                        obtain ⟨y875, y877, g876, g878, h879, c880, rfl⟩ := k874
                        refine ⟨_, _, rfl, ?_⟩
                        refine T_nf (st' := []) (l' := [(7, y632), (8, y634), (9, y636), (10, y875), (11, y877), (12, y642), (28, (m.1 28)), (69, (m.1 69)), (70, (m.1 70)), (71, (m.1 71)), (72, (m.1 72)), (75, (m.1 75))]) (a' := [(65, (m.2 65)), (66, (m.2 66)), (67, (m.2 67)), (68, (m.2 68))]) rfl rfl rfl rfl rfl ?_
                        by_cases hf881 : y875 = 0
                        · skip
                          subst hf881
                          replace h879 : (0 : Int) = 0 := h879 rfl
                          have c882 := c880 rfl
                          replace c882 : (0 : Int) ≠ 0 := c882
                          clear c880
                          have u883 : (m.1 8) + 1 ≤ y634 := by omega
                          have hAgC : agr (m.2 65) (m.2 65) (m.1 28) := by first | exact agr_r _ _ | exact hAgC | exact agr_t hAgC hAg (by omega)
                          clear g641 h652a h652b h652c h652d h652e h653 h725a h725b h725c h725d h725e h726 h798a h798b h798c h798d h798e h799 h871a h871b h871c h871d h871e h872 g876
                          refine T_ld 122 (.ref 189) rfl (fun _ => rfl) ?_
                          refine T_ld 124 (.int (i32 93)) rfl (fun _ => rfl) ?_
                          refine T_call 127 232 [.ref 189, .int (i32 93)] [] rfl (fun _ => rfl) rfl (c_need w (mO m [(7, y632), (8, y634), (9, y636), (10, 0), (11, y877), (12, y642), (28, (m.1 28)), (69, (m.1 69)), (70, (m.1 70)), (71, (m.1 71)), (72, (m.1 72)), (75, (m.1 75))] [(65, (m.2 65)), (66, (m.2 66)), (67, (m.2 67)), (68, (m.2 68))]) c N D (by omega) (Ty_mO hT rfl rfl ⟨g633, g635, g637, ⟨(by omega : (0 : Int) ≤ 0), (by omega : (0 : Int) ≤ 8)⟩, g878, g643, f28, f69, f70, f71, f72, f75, trivial⟩ ⟨(hT.2.1 65), (hT.2.1 66), (hT.2.1 67), (hT.2.1 68), trivial⟩) 93 ⟨by decide, by decide⟩ (show 1 ≤ (93 : Int) by omega) (show LxP y632 y634 y636 (m.1 6) (0 : Int) by first | exact hLx | (intro h9; exfalso; omega) | (intro h9; have h8 := hLx (by omega); omega))) (fun rr884 k885 => ?_)
                          obtain ⟨y886, y888, y890, y892, y894, y896, g887, g889, g891, g893, g895, g897, h898, h899, h900, h901, rfl⟩ := k885
                          refine ⟨_, _, rfl, ?_⟩
                          refine T_nf (st' := []) (l' := [(7, y886), (8, y888), (9, y890), (10, y892), (11, y894), (12, y896), (28, (m.1 28)), (69, (m.1 69)), (70, (m.1 70)), (71, (m.1 71)), (72, (m.1 72)), (75, (m.1 75))]) (a' := [(65, (m.2 65)), (66, (m.2 66)), (67, (m.2 67)), (68, (m.2 68))]) rfl rfl rfl rfl rfl ?_
                          by_cases hf902 : y892 = 0
                          · skip
                            subst hf902
                            replace h898 : LxP y886 y888 y890 (m.1 6) (0 : Int) := h898
                            have hLx := h898
                            replace h899 : (0 : Int) = 0 ∧ y632 = (93 : Int) := h899 rfl
                            replace h900 : y634 ≤ y888 := h900
                            replace h901 : y634 + y636 ≤ y888 := h901 rfl
                            have u903 : (m.1 8) + 1 ≤ y888 := by omega
                            have hAgC : agr (m.2 65) (m.2 65) (m.1 28) := by first | exact agr_r _ _ | exact hAgC | exact agr_t hAgC hAg (by omega)
                            clear g633 g635 g637 g643 h644 u649 g878 u883 g893 h899 h900 h901
                            refine T_gf 131 (.int (i32 0)) rfl rfl rfl rfl rfl rfl ?_
                            refine T_if 135 134 rfl rfl rfl ⟨by decide, by decide⟩ (fun _ => ?_) (fun h904 => absurd (show (0 : Int) ≤ 0 by decide) h904)
                            refine T_gf 139 (.int (i32 (m.1 70))) rfl rfl rfl rfl rfl rfl ?_
                            refine T_sto 141 [(6, .int (i32 (m.1 70))), (4, .long (i64 y620)), (2, .long (i64 y579)), (1, .int (i32 y571)), (0, .ref 189)] rfl (fun _ => rfl) ?_
                            have hAr : ar 405 ≤ 1 + lh (m.2 79) (m.2 80) (m.1 73) := by rw [show ar 405 = 1 from rfl]; omega
                            have hCk : CNk 405 y620 := by refine ⟨?_, ?_, ?_, ?_⟩ <;> omega
                            refine T_ld 142 (.ref 189) rfl (fun _ => rfl) ?_
                            refine T_ld 145 (.int (i32 405)) rfl (fun _ => rfl) ?_
                            refine T_ld 146 (.long (i64 y579)) rfl (fun _ => rfl) ?_
                            refine T_ld 148 (.long (i64 y620)) rfl (fun _ => rfl) ?_
                            refine T_lsub 149 rfl rfl ?_
                            refine T_l2i 150 rfl rfl ?_
                            refine T_ld 151 (.int (i32 1)) rfl (fun _ => rfl) ?_
                            refine T_iadd 152 rfl rfl ?_
                            refine T_ld 154 (.long (i64 y620)) rfl (fun _ => rfl) ?_
                            refine T_l2i 155 rfl rfl ?_
                            refine T_ld 156 (.long (i64 0)) rfl (fun _ => rfl) ?_
                            refine T_call 159 248 [.ref 189, .int (i32 405), .int (i32 ((y579 - y620) + 1)), .int (i32 y620), .long (i64 0)] [] rfl (fun _ => rfl) rfl (c_node w (mO m [(7, y886), (8, y888), (9, y890), (10, 0), (11, y894), (12, y896), (28, (m.1 28)), (69, (m.1 69)), (70, (m.1 70)), (71, (m.1 71)), (72, (m.1 72)), (75, (m.1 75))] [(65, (m.2 65)), (66, (m.2 66)), (67, (m.2 67)), (68, (m.2 68))]) c N D (by omega) (Ty_mO hT rfl rfl ⟨g887, g889, g891, ⟨(by omega : (0 : Int) ≤ 0), (by omega : (0 : Int) ≤ 8)⟩, g895, g897, f28, f69, f70, f71, f72, f75, trivial⟩ ⟨(hT.2.1 65), (hT.2.1 66), (hT.2.1 67), (hT.2.1 68), trivial⟩) 405 ((y579 - y620) + 1) y620 0 B (1 + lh (m.2 79) (m.2 80) (m.1 73)) ⟨by decide, by decide⟩ (r32 (by omega) (by omega)) (r32 (by omega) (by omega)) ⟨by decide, by decide⟩ (fun _ => ⟨(show 0 ≤ (405 : Int) ∧ (405 : Int) ≤ 408 by first | omega | decide), (show 0 ≤ ((y579 - y620) + 1) ∧ ((y579 - y620) + 1) ≤ 64 by first | omega | decide), (show 0 ≤ y620 ∧ y620 ≤ 191 by first | omega | decide), (show CNk (405 : Int) y620 by first | exact hCk | (refine ⟨?_, ?_, ?_, ?_⟩ <;> omega)), (show ar (405 : Int) ≤ (1 + lh (m.2 79) (m.2 80) (m.1 73)) by first | exact hAr | omega), (show EX (m.2 65) (m.2 67) B (m.1 28) (1 + lh (m.2 79) (m.2 80) (m.1 73)) by first | exact hEX | assumption)⟩)) (fun rr905 k906 => ?_)
                            obtain ⟨y907, y909, y911, F913, F915, F917, F919, g908, g910, g912, G914, G916, G918, G920, h921, c922, rfl⟩ := k906
                            refine ⟨_, _, rfl, ?_⟩
                            refine T_nf (st' := []) (l' := [(7, y886), (8, y888), (9, y890), (10, y907), (11, y909), (12, y896), (28, y911), (69, (m.1 69)), (70, (m.1 70)), (71, (m.1 71)), (72, (m.1 72)), (75, (m.1 75))]) (a' := [(65, F913), (66, F915), (67, F917), (68, F919)]) rfl rfl rfl rfl rfl ?_
                            by_cases hf923 : y907 = 0
                            · skip
                              subst hf923
                              replace h921 : (0 : Int) = 0 := h921 rfl
                              obtain ⟨c924, c925, c926⟩ := c922 rfl
                              replace c924 : y911 = (m.1 28) + 1 := c924
                              replace c925 : EX F913 F917 B y911 ((1 + lh (m.2 79) (m.2 80) (m.1 73)) + 1 - ar (405 : Int)) := c925
                              have hEX := c925
                              replace c926 : agr (m.2 65) F913 (m.1 28) := c926
                              have hAg := c926
                              clear c922
                              have u927 : (m.1 8) + 1 ≤ y888 := by omega
                              have hAgC : agr (m.2 65) F913 (m.1 28) := by first | exact agr_r _ _ | exact hAgC | exact agr_t hAgC hAg (by omega)
                              clear g895 g908
                              refine T_ld 160 (.ref 189) rfl (fun _ => rfl) ?_
                              refine T_ld 161 (.long (i64 y579)) rfl (fun _ => rfl) ?_
                              refine T_ld 163 (.long (i64 y620)) rfl (fun _ => rfl) ?_
                              refine T_lsub 164 rfl rfl ?_
                              refine T_l2i 165 rfl rfl ?_
                              refine T_ld 166 (.int (i32 1)) rfl (fun _ => rfl) ?_
                              refine T_iadd 167 rfl rfl ?_
                              refine T_ld 169 (.int (i32 (m.1 70))) rfl (fun _ => rfl) ?_
                              refine T_call 172 250 [.ref 189, .int (i32 ((y579 - y620) + 1)), .int (i32 (m.1 70))] [] rfl (fun _ => rfl) rfl (c_unit w (mO m [(7, y886), (8, y888), (9, y890), (10, 0), (11, y909), (12, y896), (28, y911), (69, (m.1 69)), (70, (m.1 70)), (71, (m.1 71)), (72, (m.1 72)), (75, (m.1 75))] [(65, F913), (66, F915), (67, F917), (68, F919)]) c N D (by omega) (Ty_mO hT rfl rfl ⟨g887, g889, g891, ⟨(by omega : (0 : Int) ≤ 0), (by omega : (0 : Int) ≤ 8)⟩, g910, g897, g912, f69, f70, f71, f72, f75, trivial⟩ ⟨G914, G916, G918, G920, trivial⟩) ((y579 - y620) + 1) (m.1 70) (r32 (by omega) (by omega)) (r32 (by omega) (by omega)) (show 0 ≤ ((y579 - y620) + 1) ∧ ((y579 - y620) + 1) ≤ 1024 by omega) (show 0 ≤ (m.1 70) ∧ (m.1 70) ≤ 4000 by omega)) (fun rr928 k929 => ?_)
                              obtain ⟨y930, y932, y934, y936, g931, g933, g935, g937, h938, rfl⟩ := k929
                              refine ⟨_, _, rfl, ?_⟩
                              refine T_nf (st' := []) (l' := [(7, y886), (8, y888), (9, y890), (10, 0), (11, y909), (12, y896), (28, y911), (69, y930), (70, y932), (71, y934), (72, y936), (75, (m.1 75))]) (a' := [(65, F913), (66, F915), (67, F917), (68, F919)]) rfl rfl rfl rfl rfl ?_
                              replace h938 : y930 = ((y579 - y620) + 1) := h938
                              have u939 : (m.1 8) + 1 ≤ y888 := by omega
                              have hAgC : agr (m.2 65) F913 (m.1 28) := by first | exact agr_r _ _ | exact hAgC | exact agr_t hAgC hAg (by omega)
                              have hXE : XS F913 F917 (m.2 76) (m.2 78) (m.2 79) (m.2 80) B y911 (m.1 73) (m.1 74) 1 := XS_of hXS hEX (by rw [show ar 405 = 1 from rfl]; omega)
                              refine T_goto 224 rfl (fun _ => rfl) ?_
                              refine T_ret rfl (fun _ => rfl) ?_
                              exact ⟨y886, y888, y890, 0, y909, y896, y911, y930, y932, y934, y936, (m.1 75), F913, F915, F917, F919, g887, g889, g891, ⟨by omega, by omega⟩, g910, g897, g912, g931, g933, g935, g937, f75, G914, G916, G918, G920, (by omega), (by first | (first | exact hLx | (intro h9; exfalso; omega)) | (exfalso; omega)), (fun _ => ⟨(by omega), (by omega), (by omega), (by first | (exact hXE) | (exfalso; omega)), (by first | (exact hAgC) | (exfalso; omega))⟩), rfl⟩
                            · skip
                              clear c922
                              clear h921
                              have hf940 : 1 ≤ y907 := by omega
                              clear g895
                              refine Tm_lv (a := [(0, .ref 189), (1, .int (i32 y571)), (2, .long (i64 y579)), (4, .long (i64 y620)), (6, .int (i32 (m.1 70)))]) rfl rfl ⟨rfl, rfl, rfl, rfl, rfl, trivial⟩ ?_
                              exact J159_196 y571 y579 y620 y886 y888 y890 y907 y909 y896 y911 F913 F915 F917 F919 (r32 (by omega) (by omega)) (r64 (by omega) (by omega)) (r64 (by omega) (by omega)) g887 g889 g891 g908 g910 g897 g912 G914 G916 G918 G920 (by omega) (by omega) (by omega) (by omega) (by omega)
                          · skip
                            replace h898 : LxP y886 y888 y890 (m.1 6) y892 := h898
                            have hLx := h898
                            clear h899
                            replace h900 : y634 ≤ y888 := h900
                            clear h901
                            have hf941 : 1 ≤ y892 := by omega
                            clear g633 g635 g637 g643 h644 u649 g878 u883 h900
                            refine Tm_lv (a := [(0, .ref 189), (1, .int (i32 y571)), (2, .long (i64 y579)), (4, .long (i64 y620))]) rfl rfl ⟨rfl, rfl, rfl, rfl, trivial⟩ ?_
                            exact J127_237 y571 y579 y620 y886 y888 y890 y892 y894 y896 (r32 (by omega) (by omega)) (r64 (by omega) (by omega)) (r64 (by omega) (by omega)) g887 g889 g891 g893 g895 g897 (by omega) (by omega) (by omega) (by omega)
                        · skip
                          clear c880
                          clear h879
                          have hf942 : 1 ≤ y875 := by omega
                          clear g641 h652a h652b h652c h652d h652e h653 h725a h725b h725c h725d h725e h726 h798a h798b h798c h798d h798e h799 h871a h871b h871c h871d h871e h872
                          refine Tm_lv (a := [(0, .ref 189), (1, .int (i32 y571)), (2, .long (i64 y579)), (4, .long (i64 y620))]) rfl rfl ⟨rfl, rfl, rfl, rfl, trivial⟩ ?_
                          exact J121_262 y571 y579 y620 y632 y634 y636 y875 y877 y642 (r32 (by omega) (by omega)) (r64 (by omega) (by omega)) (r64 (by omega) (by omega)) g633 g635 g637 g876 g878 g643 (by omega) (by omega) (by omega) (by omega)
                      · skip
                        refine T_ld 113 (.int (i32 1)) rfl (fun _ => rfl) ?_
                        refine T_goto 117 rfl (fun _ => rfl) ?_
                        refine T_ld 118 (.int (i32 y571)) rfl (fun _ => rfl) ?_
                        refine T_call 121 256 [.ref 189, .int (i32 1), .int (i32 y571)] [] rfl (fun _ => rfl) rfl (c_want w (mO m [(7, y632), (8, y634), (9, y636), (10, 0), (11, y640), (12, y642), (28, (m.1 28)), (69, (m.1 69)), (70, (m.1 70)), (71, (m.1 71)), (72, (m.1 72)), (75, (m.1 75))] [(65, (m.2 65)), (66, (m.2 66)), (67, (m.2 67)), (68, (m.2 68))]) c N D (by omega) (Ty_mO hT rfl rfl ⟨g633, g635, g637, ⟨(by omega : (0 : Int) ≤ 0), (by omega : (0 : Int) ≤ 8)⟩, g641, g643, f28, f69, f70, f71, f72, f75, trivial⟩ ⟨(hT.2.1 65), (hT.2.1 66), (hT.2.1 67), (hT.2.1 68), trivial⟩) 1 y571 ⟨by decide, by decide⟩ (r32 (by omega) (by omega)) (show 0 ≤ y571 ∧ y571 ≤ 4000 by omega) (fun _ => trivial)) (fun rr943 k944 => ?_)
                        obtain ⟨y945, y947, g946, g948, h949, c950, rfl⟩ := k944
                        refine ⟨_, _, rfl, ?_⟩
                        refine T_nf (st' := []) (l' := [(7, y632), (8, y634), (9, y636), (10, y945), (11, y947), (12, y642), (28, (m.1 28)), (69, (m.1 69)), (70, (m.1 70)), (71, (m.1 71)), (72, (m.1 72)), (75, (m.1 75))]) (a' := [(65, (m.2 65)), (66, (m.2 66)), (67, (m.2 67)), (68, (m.2 68))]) rfl rfl rfl rfl rfl ?_
                        by_cases hf951 : y945 = 0
                        · skip
                          subst hf951
                          replace h949 : (0 : Int) = 0 := h949 rfl
                          have c952 := c950 rfl
                          replace c952 : (1 : Int) ≠ 0 := c952
                          clear c950
                          have u953 : (m.1 8) + 1 ≤ y634 := by omega
                          have hAgC : agr (m.2 65) (m.2 65) (m.1 28) := by first | exact agr_r _ _ | exact hAgC | exact agr_t hAgC hAg (by omega)
                          clear g641 h652a h652b h652c h652d h652e h653 h725a h725b h725c h725d h725e h726 h798a h798b h798c h798d h798e h799 h871a h871b h871c h871d h871e h872 g946
                          refine T_ld 122 (.ref 189) rfl (fun _ => rfl) ?_
                          refine T_ld 124 (.int (i32 93)) rfl (fun _ => rfl) ?_
                          refine T_call 127 232 [.ref 189, .int (i32 93)] [] rfl (fun _ => rfl) rfl (c_need w (mO m [(7, y632), (8, y634), (9, y636), (10, 0), (11, y947), (12, y642), (28, (m.1 28)), (69, (m.1 69)), (70, (m.1 70)), (71, (m.1 71)), (72, (m.1 72)), (75, (m.1 75))] [(65, (m.2 65)), (66, (m.2 66)), (67, (m.2 67)), (68, (m.2 68))]) c N D (by omega) (Ty_mO hT rfl rfl ⟨g633, g635, g637, ⟨(by omega : (0 : Int) ≤ 0), (by omega : (0 : Int) ≤ 8)⟩, g948, g643, f28, f69, f70, f71, f72, f75, trivial⟩ ⟨(hT.2.1 65), (hT.2.1 66), (hT.2.1 67), (hT.2.1 68), trivial⟩) 93 ⟨by decide, by decide⟩ (show 1 ≤ (93 : Int) by omega) (show LxP y632 y634 y636 (m.1 6) (0 : Int) by first | exact hLx | (intro h9; exfalso; omega) | (intro h9; have h8 := hLx (by omega); omega))) (fun rr954 k955 => ?_)
                          obtain ⟨y956, y958, y960, y962, y964, y966, g957, g959, g961, g963, g965, g967, h968, h969, h970, h971, rfl⟩ := k955
                          refine ⟨_, _, rfl, ?_⟩
                          refine T_nf (st' := []) (l' := [(7, y956), (8, y958), (9, y960), (10, y962), (11, y964), (12, y966), (28, (m.1 28)), (69, (m.1 69)), (70, (m.1 70)), (71, (m.1 71)), (72, (m.1 72)), (75, (m.1 75))]) (a' := [(65, (m.2 65)), (66, (m.2 66)), (67, (m.2 67)), (68, (m.2 68))]) rfl rfl rfl rfl rfl ?_
                          by_cases hf972 : y962 = 0
                          · skip
                            subst hf972
                            replace h968 : LxP y956 y958 y960 (m.1 6) (0 : Int) := h968
                            have hLx := h968
                            replace h969 : (0 : Int) = 0 ∧ y632 = (93 : Int) := h969 rfl
                            replace h970 : y634 ≤ y958 := h970
                            replace h971 : y634 + y636 ≤ y958 := h971 rfl
                            have u973 : (m.1 8) + 1 ≤ y958 := by omega
                            have hAgC : agr (m.2 65) (m.2 65) (m.1 28) := by first | exact agr_r _ _ | exact hAgC | exact agr_t hAgC hAg (by omega)
                            clear g633 g635 g637 g643 h644 u649 g948 u953 g963 h969 h970 h971
                            refine T_gf 131 (.int (i32 0)) rfl rfl rfl rfl rfl rfl ?_
                            refine T_if 135 134 rfl rfl rfl ⟨by decide, by decide⟩ (fun _ => ?_) (fun h974 => absurd (show (0 : Int) ≤ 0 by decide) h974)
                            refine T_gf 139 (.int (i32 (m.1 70))) rfl rfl rfl rfl rfl rfl ?_
                            refine T_sto 141 [(6, .int (i32 (m.1 70))), (4, .long (i64 y620)), (2, .long (i64 y579)), (1, .int (i32 y571)), (0, .ref 189)] rfl (fun _ => rfl) ?_
                            have hAr : ar 405 ≤ 1 + lh (m.2 79) (m.2 80) (m.1 73) := by rw [show ar 405 = 1 from rfl]; omega
                            have hCk : CNk 405 y620 := by refine ⟨?_, ?_, ?_, ?_⟩ <;> omega
                            refine T_ld 142 (.ref 189) rfl (fun _ => rfl) ?_
                            refine T_ld 145 (.int (i32 405)) rfl (fun _ => rfl) ?_
                            refine T_ld 146 (.long (i64 y579)) rfl (fun _ => rfl) ?_
                            refine T_ld 148 (.long (i64 y620)) rfl (fun _ => rfl) ?_
                            refine T_lsub 149 rfl rfl ?_
                            refine T_l2i 150 rfl rfl ?_
                            refine T_ld 151 (.int (i32 1)) rfl (fun _ => rfl) ?_
                            refine T_iadd 152 rfl rfl ?_
                            refine T_ld 154 (.long (i64 y620)) rfl (fun _ => rfl) ?_
                            refine T_l2i 155 rfl rfl ?_
                            refine T_ld 156 (.long (i64 0)) rfl (fun _ => rfl) ?_
                            refine T_call 159 248 [.ref 189, .int (i32 405), .int (i32 ((y579 - y620) + 1)), .int (i32 y620), .long (i64 0)] [] rfl (fun _ => rfl) rfl (c_node w (mO m [(7, y956), (8, y958), (9, y960), (10, 0), (11, y964), (12, y966), (28, (m.1 28)), (69, (m.1 69)), (70, (m.1 70)), (71, (m.1 71)), (72, (m.1 72)), (75, (m.1 75))] [(65, (m.2 65)), (66, (m.2 66)), (67, (m.2 67)), (68, (m.2 68))]) c N D (by omega) (Ty_mO hT rfl rfl ⟨g957, g959, g961, ⟨(by omega : (0 : Int) ≤ 0), (by omega : (0 : Int) ≤ 8)⟩, g965, g967, f28, f69, f70, f71, f72, f75, trivial⟩ ⟨(hT.2.1 65), (hT.2.1 66), (hT.2.1 67), (hT.2.1 68), trivial⟩) 405 ((y579 - y620) + 1) y620 0 B (1 + lh (m.2 79) (m.2 80) (m.1 73)) ⟨by decide, by decide⟩ (r32 (by omega) (by omega)) (r32 (by omega) (by omega)) ⟨by decide, by decide⟩ (fun _ => ⟨(show 0 ≤ (405 : Int) ∧ (405 : Int) ≤ 408 by first | omega | decide), (show 0 ≤ ((y579 - y620) + 1) ∧ ((y579 - y620) + 1) ≤ 64 by first | omega | decide), (show 0 ≤ y620 ∧ y620 ≤ 191 by first | omega | decide), (show CNk (405 : Int) y620 by first | exact hCk | (refine ⟨?_, ?_, ?_, ?_⟩ <;> omega)), (show ar (405 : Int) ≤ (1 + lh (m.2 79) (m.2 80) (m.1 73)) by first | exact hAr | omega), (show EX (m.2 65) (m.2 67) B (m.1 28) (1 + lh (m.2 79) (m.2 80) (m.1 73)) by first | exact hEX | assumption)⟩)) (fun rr975 k976 => ?_)
                            obtain ⟨y977, y979, y981, F983, F985, F987, F989, g978, g980, g982, G984, G986, G988, G990, h991, c992, rfl⟩ := k976
                            refine ⟨_, _, rfl, ?_⟩
                            refine T_nf (st' := []) (l' := [(7, y956), (8, y958), (9, y960), (10, y977), (11, y979), (12, y966), (28, y981), (69, (m.1 69)), (70, (m.1 70)), (71, (m.1 71)), (72, (m.1 72)), (75, (m.1 75))]) (a' := [(65, F983), (66, F985), (67, F987), (68, F989)]) rfl rfl rfl rfl rfl ?_
                            by_cases hf993 : y977 = 0
                            · skip
                              subst hf993
                              replace h991 : (0 : Int) = 0 := h991 rfl
                              obtain ⟨c994, c995, c996⟩ := c992 rfl
                              replace c994 : y981 = (m.1 28) + 1 := c994
                              replace c995 : EX F983 F987 B y981 ((1 + lh (m.2 79) (m.2 80) (m.1 73)) + 1 - ar (405 : Int)) := c995
                              have hEX := c995
                              replace c996 : agr (m.2 65) F983 (m.1 28) := c996
                              have hAg := c996
                              clear c992
                              have u997 : (m.1 8) + 1 ≤ y958 := by omega
                              have hAgC : agr (m.2 65) F983 (m.1 28) := by first | exact agr_r _ _ | exact hAgC | exact agr_t hAgC hAg (by omega)
                              clear g965 g978
                              refine T_ld 160 (.ref 189) rfl (fun _ => rfl) ?_
                              refine T_ld 161 (.long (i64 y579)) rfl (fun _ => rfl) ?_
                              refine T_ld 163 (.long (i64 y620)) rfl (fun _ => rfl) ?_
                              refine T_lsub 164 rfl rfl ?_
                              refine T_l2i 165 rfl rfl ?_
                              refine T_ld 166 (.int (i32 1)) rfl (fun _ => rfl) ?_
                              refine T_iadd 167 rfl rfl ?_
                              refine T_ld 169 (.int (i32 (m.1 70))) rfl (fun _ => rfl) ?_
                              refine T_call 172 250 [.ref 189, .int (i32 ((y579 - y620) + 1)), .int (i32 (m.1 70))] [] rfl (fun _ => rfl) rfl (c_unit w (mO m [(7, y956), (8, y958), (9, y960), (10, 0), (11, y979), (12, y966), (28, y981), (69, (m.1 69)), (70, (m.1 70)), (71, (m.1 71)), (72, (m.1 72)), (75, (m.1 75))] [(65, F983), (66, F985), (67, F987), (68, F989)]) c N D (by omega) (Ty_mO hT rfl rfl ⟨g957, g959, g961, ⟨(by omega : (0 : Int) ≤ 0), (by omega : (0 : Int) ≤ 8)⟩, g980, g967, g982, f69, f70, f71, f72, f75, trivial⟩ ⟨G984, G986, G988, G990, trivial⟩) ((y579 - y620) + 1) (m.1 70) (r32 (by omega) (by omega)) (r32 (by omega) (by omega)) (show 0 ≤ ((y579 - y620) + 1) ∧ ((y579 - y620) + 1) ≤ 1024 by omega) (show 0 ≤ (m.1 70) ∧ (m.1 70) ≤ 4000 by omega)) (fun rr998 k999 => ?_)
                              obtain ⟨y1000, y1002, y1004, y1006, g1001, g1003, g1005, g1007, h1008, rfl⟩ := k999
                              refine ⟨_, _, rfl, ?_⟩
                              refine T_nf (st' := []) (l' := [(7, y956), (8, y958), (9, y960), (10, 0), (11, y979), (12, y966), (28, y981), (69, y1000), (70, y1002), (71, y1004), (72, y1006), (75, (m.1 75))]) (a' := [(65, F983), (66, F985), (67, F987), (68, F989)]) rfl rfl rfl rfl rfl ?_
                              replace h1008 : y1000 = ((y579 - y620) + 1) := h1008
                              have u1009 : (m.1 8) + 1 ≤ y958 := by omega
                              have hAgC : agr (m.2 65) F983 (m.1 28) := by first | exact agr_r _ _ | exact hAgC | exact agr_t hAgC hAg (by omega)
                              have hXE : XS F983 F987 (m.2 76) (m.2 78) (m.2 79) (m.2 80) B y981 (m.1 73) (m.1 74) 1 := XS_of hXS hEX (by rw [show ar 405 = 1 from rfl]; omega)
                              refine T_goto 224 rfl (fun _ => rfl) ?_
                              refine T_ret rfl (fun _ => rfl) ?_
                              exact ⟨y956, y958, y960, 0, y979, y966, y981, y1000, y1002, y1004, y1006, (m.1 75), F983, F985, F987, F989, g957, g959, g961, ⟨by omega, by omega⟩, g980, g967, g982, g1001, g1003, g1005, g1007, f75, G984, G986, G988, G990, (by omega), (by first | (first | exact hLx | (intro h9; exfalso; omega)) | (exfalso; omega)), (fun _ => ⟨(by omega), (by omega), (by omega), (by first | (exact hXE) | (exfalso; omega)), (by first | (exact hAgC) | (exfalso; omega))⟩), rfl⟩
                            · skip
                              clear c992
                              clear h991
                              have hf1010 : 1 ≤ y977 := by omega
                              clear g965
                              refine Tm_lv (a := [(0, .ref 189), (1, .int (i32 y571)), (2, .long (i64 y579)), (4, .long (i64 y620)), (6, .int (i32 (m.1 70)))]) rfl rfl ⟨rfl, rfl, rfl, rfl, rfl, trivial⟩ ?_
                              exact J159_196 y571 y579 y620 y956 y958 y960 y977 y979 y966 y981 F983 F985 F987 F989 (r32 (by omega) (by omega)) (r64 (by omega) (by omega)) (r64 (by omega) (by omega)) g957 g959 g961 g978 g980 g967 g982 G984 G986 G988 G990 (by omega) (by omega) (by omega) (by omega) (by omega)
                          · skip
                            replace h968 : LxP y956 y958 y960 (m.1 6) y962 := h968
                            have hLx := h968
                            clear h969
                            replace h970 : y634 ≤ y958 := h970
                            clear h971
                            have hf1011 : 1 ≤ y962 := by omega
                            clear g633 g635 g637 g643 h644 u649 g948 u953 h970
                            refine Tm_lv (a := [(0, .ref 189), (1, .int (i32 y571)), (2, .long (i64 y579)), (4, .long (i64 y620))]) rfl rfl ⟨rfl, rfl, rfl, rfl, trivial⟩ ?_
                            exact J127_237 y571 y579 y620 y956 y958 y960 y962 y964 y966 (r32 (by omega) (by omega)) (r64 (by omega) (by omega)) (r64 (by omega) (by omega)) g957 g959 g961 g963 g965 g967 (by omega) (by omega) (by omega) (by omega)
                        · skip
                          clear c950
                          clear h949
                          have hf1012 : 1 ≤ y945 := by omega
                          clear g641 h652a h652b h652c h652d h652e h653 h725a h725b h725c h725d h725e h726 h798a h798b h798c h798d h798e h799 h871a h871b h871c h871d h871e h872
                          refine Tm_lv (a := [(0, .ref 189), (1, .int (i32 y571)), (2, .long (i64 y579)), (4, .long (i64 y620))]) rfl rfl ⟨rfl, rfl, rfl, rfl, trivial⟩ ?_
                          exact J121_262 y571 y579 y620 y632 y634 y636 y945 y947 y642 (r32 (by omega) (by omega)) (r64 (by omega) (by omega)) (r64 (by omega) (by omega)) g633 g635 g637 g946 g948 g643 (by omega) (by omega) (by omega) (by omega)
              · skip
                replace h644 : LxP y632 y634 y636 (m.1 6) y638 := h644
                have hLx := h644
                clear h645
                replace h646 : y612 ≤ y634 := h646
                clear h647
                have hf1013 : 1 ≤ y638 := by omega
                clear g611 g613 g615 g619 h622 u627 h629 h646
                refine Tm_lv (a := [(0, .ref 189), (1, .int (i32 y571)), (2, .long (i64 y579)), (4, .long (i64 y620))]) rfl rfl ⟨rfl, rfl, rfl, rfl, trivial⟩ ?_
                exact J74_305 y571 y579 y620 y632 y634 y636 y638 y640 y642 (r32 (by omega) (by omega)) (r64 (by omega) (by omega)) (r64 (by omega) (by omega)) g633 g635 g637 g639 g641 g643 (by omega) (by omega) (by omega) (by omega)
            · skip
              refine T_ld 61 (.ref 189) rfl (fun _ => rfl) ?_
              refine T_call 64 226 [.ref 189] [] rfl (fun _ => rfl) rfl (c_bad w (mO m [(7, y610), (8, y612), (9, y614), (10, 0), (11, y618), (12, y620), (28, (m.1 28)), (69, (m.1 69)), (70, (m.1 70)), (71, (m.1 71)), (72, (m.1 72)), (75, (m.1 75))] [(65, (m.2 65)), (66, (m.2 66)), (67, (m.2 67)), (68, (m.2 68))]) c N D (by omega) (Ty_mO hT rfl rfl ⟨g611, g613, g615, ⟨(by omega : (0 : Int) ≤ 0), (by omega : (0 : Int) ≤ 8)⟩, g619, g621, f28, f69, f70, f71, f72, f75, trivial⟩ ⟨(hT.2.1 65), (hT.2.1 66), (hT.2.1 67), (hT.2.1 68), trivial⟩) ) (fun rr1014 k1015 => ?_)
              obtain ⟨y1016, y1018, g1017, g1019, h1020, rfl⟩ := k1015
              refine ⟨_, _, rfl, ?_⟩
              refine T_nf (st' := []) (l' := [(7, y610), (8, y612), (9, y614), (10, y1016), (11, y1018), (12, y620), (28, (m.1 28)), (69, (m.1 69)), (70, (m.1 70)), (71, (m.1 71)), (72, (m.1 72)), (75, (m.1 75))]) (a' := [(65, (m.2 65)), (66, (m.2 66)), (67, (m.2 67)), (68, (m.2 68))]) rfl rfl rfl rfl rfl ?_
              replace h1020 : (0 < (0 : Int) → y1016 = (0 : Int) ∧ y1018 = y618) ∧ ((0 : Int) ≤ 0 → y1016 = 1 ∧ y1018 = y612) := h1020
              have hf1021 : 1 ≤ y1016 := by omega
              clear g619 h1020
              refine T_gf 68 (.long (i64 y620)) rfl rfl rfl rfl rfl rfl ?_
              refine T_sto 70 [(4, .long (i64 y620)), (2, .long (i64 y579)), (1, .int (i32 y571)), (0, .ref 189)] rfl (fun _ => rfl) ?_
              refine T_ld 71 (.ref 189) rfl (fun _ => rfl) ?_
              refine T_call 74 212 [.ref 189] [] rfl (fun _ => rfl) rfl (c_next w (mO m [(7, y610), (8, y612), (9, y614), (10, y1016), (11, y1018), (12, y620), (28, (m.1 28)), (69, (m.1 69)), (70, (m.1 70)), (71, (m.1 71)), (72, (m.1 72)), (75, (m.1 75))] [(65, (m.2 65)), (66, (m.2 66)), (67, (m.2 67)), (68, (m.2 68))]) c N D (by omega) (Ty_mO hT rfl rfl ⟨g611, g613, g615, g1017, g1019, g621, f28, f69, f70, f71, f72, f75, trivial⟩ ⟨(hT.2.1 65), (hT.2.1 66), (hT.2.1 67), (hT.2.1 68), trivial⟩) (show y1016 = 0 → y612 + y614 ≤ (m.1 6) by first | omega | (intro h9; have h8 := hLx h9; omega))) (fun rr1022 k1023 => ?_)
              obtain ⟨y1024, y1026, y1028, y1030, y1032, y1034, g1025, g1027, g1029, g1031, g1033, g1035, h1036, h1037, h1038, h1039, rfl⟩ := k1023
              refine ⟨_, _, rfl, ?_⟩
              refine T_nf (st' := []) (l' := [(7, y1024), (8, y1026), (9, y1028), (10, y1030), (11, y1032), (12, y1034), (28, (m.1 28)), (69, (m.1 69)), (70, (m.1 70)), (71, (m.1 71)), (72, (m.1 72)), (75, (m.1 75))]) (a' := [(65, (m.2 65)), (66, (m.2 66)), (67, (m.2 67)), (68, (m.2 68))]) rfl rfl rfl rfl rfl ?_
              replace h1036 : LxP y1024 y1026 y1028 (m.1 6) y1030 := h1036
              replace h1037 : y1030 = 0 → y1016 = 0 := h1037
              replace h1038 : y612 ≤ y1026 := h1038
              replace h1039 : y1030 = 0 → y612 + y614 ≤ y1026 := h1039
              have hf1040 : 1 ≤ y1030 := by omega
              clear h1037
              clear h1039
              have hLx := h1036
              clear g611 g613 g615 h622 u627 h629 g1017 g1019 hf1021 h1038
              refine Tm_lv (a := [(0, .ref 189), (1, .int (i32 y571)), (2, .long (i64 y579)), (4, .long (i64 y620))]) rfl rfl ⟨rfl, rfl, rfl, rfl, trivial⟩ ?_
              exact J74_305 y571 y579 y620 y1024 y1026 y1028 y1030 y1032 y1034 (r32 (by omega) (by omega)) (r64 (by omega) (by omega)) (r64 (by omega) (by omega)) g1025 g1027 g1029 g1031 g1033 g1035 (by omega) (by omega) (by omega) (by omega)
          · skip
            replace h622 : LxP y610 y612 y614 (m.1 6) y616 := h622
            have hLx := h622
            clear h623
            replace h624 : y592 ≤ y612 := h624
            clear h625
            have hf1041 : 1 ≤ y616 := by omega
            clear g591 g593 g595 g599 g601 h602 h604 u607 h624
            refine Tm_lv (a := [(0, .ref 189), (1, .int (i32 y571)), (2, .long (i64 y579))]) rfl rfl ⟨rfl, rfl, rfl, trivial⟩ ?_
            exact J45_348 y571 y579 y610 y612 y614 y616 y618 y620 (r32 (by omega) (by omega)) (r64 (by omega) (by omega)) g611 g613 g615 g617 g619 g621 (by omega) (by omega) (by omega) (by omega)
        · skip
          replace h602 : LxP y590 y592 y594 (m.1 6) y596 := h602
          have hLx := h602
          clear h603
          replace h604 : y571 ≤ y592 := h604
          clear h605
          have hf1042 : 1 ≤ y596 := by omega
          clear g570 g574 g578 h581 h587
          refine Tm_lv (a := [(0, .ref 189), (1, .int (i32 y571)), (2, .long (i64 y579))]) rfl rfl ⟨rfl, rfl, rfl, trivial⟩ ?_
          exact J39_390 y571 y579 y590 y592 y594 y596 y598 y600 (r32 (by omega) (by omega)) (r64 (by omega) (by omega)) g591 g593 g595 g597 g599 g601 (by omega) (by omega) (by omega) (by omega)
      · skip
        refine T_ld 27 (.ref 189) rfl (fun _ => rfl) ?_
        refine T_call 30 226 [.ref 189] [] rfl (fun _ => rfl) rfl (c_bad w (mO m [(7, y569), (8, y571), (9, y573), (10, 0), (11, y577), (12, y579), (28, (m.1 28)), (69, (m.1 69)), (70, (m.1 70)), (71, (m.1 71)), (72, (m.1 72)), (75, (m.1 75))] [(65, (m.2 65)), (66, (m.2 66)), (67, (m.2 67)), (68, (m.2 68))]) c N D (by omega) (Ty_mO hT rfl rfl ⟨g570, g572, g574, ⟨(by omega : (0 : Int) ≤ 0), (by omega : (0 : Int) ≤ 8)⟩, g578, g580, f28, f69, f70, f71, f72, f75, trivial⟩ ⟨(hT.2.1 65), (hT.2.1 66), (hT.2.1 67), (hT.2.1 68), trivial⟩) ) (fun rr1043 k1044 => ?_)
        obtain ⟨y1045, y1047, g1046, g1048, h1049, rfl⟩ := k1044
        refine ⟨_, _, rfl, ?_⟩
        refine T_nf (st' := []) (l' := [(7, y569), (8, y571), (9, y573), (10, y1045), (11, y1047), (12, y579), (28, (m.1 28)), (69, (m.1 69)), (70, (m.1 70)), (71, (m.1 71)), (72, (m.1 72)), (75, (m.1 75))]) (a' := [(65, (m.2 65)), (66, (m.2 66)), (67, (m.2 67)), (68, (m.2 68))]) rfl rfl rfl rfl rfl ?_
        replace h1049 : (0 < (0 : Int) → y1045 = (0 : Int) ∧ y1047 = y577) ∧ ((0 : Int) ≤ 0 → y1045 = 1 ∧ y1047 = y571) := h1049
        have hf1050 : 1 ≤ y1045 := by omega
        clear g578 h1049
        refine Tm_lv (a := [(0, .ref 189), (1, .int (i32 y571))]) rfl rfl ⟨rfl, rfl, trivial⟩ ?_
        exact J30_430 y571 y569 y571 y573 y1045 y1047 y579 (r32 (by omega) (by omega)) g570 g572 g574 g1046 g1048 g580 (by omega) (by omega) (by omega) (by omega)
    · skip
      replace h581 : LxP y569 y571 y573 (m.1 6) y575 := h581
      have hLx := h581
      clear h582
      replace h583 : (m.1 8) ≤ y571 := h583
      clear h584
      have hf1051 : 1 ≤ y575 := by omega
      refine T_gf 17 (.int (i32 y571)) rfl rfl rfl rfl rfl rfl ?_
      refine T_sto 18 [(1, .int (i32 y571)), (0, .ref 189)] rfl (fun _ => rfl) ?_
      refine T_gf 22 (.int (i32 y569)) rfl rfl rfl rfl rfl rfl ?_
      refine T_ld 23 (.int (i32 2)) rfl (fun _ => rfl) ?_
      refine T_icmp 30 26 rfl rfl rfl (r32 (by omega) (by omega)) ⟨by decide, by decide⟩ (fun (h1052 : y569 = 2) => ?_) (fun (h1052 : ¬ (y569 = 2)) => ?_)
      · skip
        refine T_gf 34 (.long (i64 y579)) rfl rfl rfl rfl rfl rfl ?_
        refine T_sto 35 [(2, .long (i64 y579)), (1, .int (i32 y571)), (0, .ref 189)] rfl (fun _ => rfl) ?_
        refine T_ld 36 (.ref 189) rfl (fun _ => rfl) ?_
        refine T_call 39 212 [.ref 189] [] rfl (fun _ => rfl) rfl (c_next w (mO m [(7, y569), (8, y571), (9, y573), (10, y575), (11, y577), (12, y579), (28, (m.1 28)), (69, (m.1 69)), (70, (m.1 70)), (71, (m.1 71)), (72, (m.1 72)), (75, (m.1 75))] [(65, (m.2 65)), (66, (m.2 66)), (67, (m.2 67)), (68, (m.2 68))]) c N D (by omega) (Ty_mO hT rfl rfl ⟨g570, g572, g574, g576, g578, g580, f28, f69, f70, f71, f72, f75, trivial⟩ ⟨(hT.2.1 65), (hT.2.1 66), (hT.2.1 67), (hT.2.1 68), trivial⟩) (show y575 = 0 → y571 + y573 ≤ (m.1 6) by first | omega | (intro h9; have h8 := hLx h9; omega))) (fun rr1053 k1054 => ?_)
        obtain ⟨y1055, y1057, y1059, y1061, y1063, y1065, g1056, g1058, g1060, g1062, g1064, g1066, h1067, h1068, h1069, h1070, rfl⟩ := k1054
        refine ⟨_, _, rfl, ?_⟩
        refine T_nf (st' := []) (l' := [(7, y1055), (8, y1057), (9, y1059), (10, y1061), (11, y1063), (12, y1065), (28, (m.1 28)), (69, (m.1 69)), (70, (m.1 70)), (71, (m.1 71)), (72, (m.1 72)), (75, (m.1 75))]) (a' := [(65, (m.2 65)), (66, (m.2 66)), (67, (m.2 67)), (68, (m.2 68))]) rfl rfl rfl rfl rfl ?_
        replace h1067 : LxP y1055 y1057 y1059 (m.1 6) y1061 := h1067
        replace h1068 : y1061 = 0 → y575 = 0 := h1068
        replace h1069 : y571 ≤ y1057 := h1069
        replace h1070 : y1061 = 0 → y571 + y573 ≤ y1057 := h1070
        have hf1071 : 1 ≤ y1061 := by omega
        clear h1068
        clear h1070
        have hLx := h1067
        clear g570 g574 g576 g578 h581 hf1051 h1052
        refine Tm_lv (a := [(0, .ref 189), (1, .int (i32 y571)), (2, .long (i64 y579))]) rfl rfl ⟨rfl, rfl, rfl, trivial⟩ ?_
        exact J39_390 y571 y579 y1055 y1057 y1059 y1061 y1063 y1065 (r32 (by omega) (by omega)) (r64 (by omega) (by omega)) g1056 g1058 g1060 g1062 g1064 g1066 (by omega) (by omega) (by omega) (by omega)
      · skip
        refine T_ld 27 (.ref 189) rfl (fun _ => rfl) ?_
        refine T_call 30 226 [.ref 189] [] rfl (fun _ => rfl) rfl (c_bad w (mO m [(7, y569), (8, y571), (9, y573), (10, y575), (11, y577), (12, y579), (28, (m.1 28)), (69, (m.1 69)), (70, (m.1 70)), (71, (m.1 71)), (72, (m.1 72)), (75, (m.1 75))] [(65, (m.2 65)), (66, (m.2 66)), (67, (m.2 67)), (68, (m.2 68))]) c N D (by omega) (Ty_mO hT rfl rfl ⟨g570, g572, g574, g576, g578, g580, f28, f69, f70, f71, f72, f75, trivial⟩ ⟨(hT.2.1 65), (hT.2.1 66), (hT.2.1 67), (hT.2.1 68), trivial⟩) ) (fun rr1072 k1073 => ?_)
        obtain ⟨y1074, y1076, g1075, g1077, h1078, rfl⟩ := k1073
        refine ⟨_, _, rfl, ?_⟩
        refine T_nf (st' := []) (l' := [(7, y569), (8, y571), (9, y573), (10, y1074), (11, y1076), (12, y579), (28, (m.1 28)), (69, (m.1 69)), (70, (m.1 70)), (71, (m.1 71)), (72, (m.1 72)), (75, (m.1 75))]) (a' := [(65, (m.2 65)), (66, (m.2 66)), (67, (m.2 67)), (68, (m.2 68))]) rfl rfl rfl rfl rfl ?_
        replace h1078 : (0 < y575 → y1074 = y575 ∧ y1076 = y577) ∧ (y575 ≤ 0 → y1074 = 1 ∧ y1076 = y571) := h1078
        have hf1079 : 1 ≤ y1074 := by omega
        clear g576 g578 h581 hf1051 h1078
        refine Tm_lv (a := [(0, .ref 189), (1, .int (i32 y571))]) rfl rfl ⟨rfl, rfl, trivial⟩ ?_
        exact J30_430 y571 y569 y571 y573 y1074 y1076 y579 (r32 (by omega) (by omega)) g570 g572 g574 g1075 g1077 g580 (by omega) (by omega) (by omega) (by omega)
def Q_level (m : mR) (c : Nat → Option am_C) (N : Nat) (x : Int) : ag_Re af_T → Prop := fun R => ∃ (r : Int), ((-1) ≤ r ∧ r ≤ 8) ∧ (0 ≤ r → 4 ≤ x ∧ x ≤ 124) ∧ R = (.inl (some (.int (i32 r))), (mhp (mO m [] []) c, N), 0, 0)
set_option maxHeartbeats 8000000 in
theorem c_level (w : wX) (m : mR) (c : Nat → Option am_C) (N D : Nat) (hD : 1 ≤ D) (hT : Ty m) (x : Int) (qx : R32 x) : TC w D 259 [.int (i32 x)] (mhp m c, N) (Q_level m c N x) := by
  obtain ⟨D, rfl⟩ : ∃ k, D = k + 1 := ⟨D - 1, by omega⟩
  obtain ⟨qxa, qxb⟩ := id qx
  refine Tc_of rfl ?_
  show TT w D pm_259 (0, [(0, .int (i32 x))], [], (mhp m c, N), 0, 0) (Q_level m c N x)
  rw [show (mhp m c, N) = (mhp (mO m [] []) c, N) from rfl]
  refine T_ld 1 (.int (i32 x)) rfl (fun _ => rfl) ?_
  have T144_1 : TT w D pm_259 (144, [(0, .int (i32 x))], [], (mhp (mO m [] []) c, N), 0, 0) (Q_level m c N x) := by
    refine T_ld 145 (.int (i32 2)) rfl (fun _ => rfl) ?_
    refine T_ret rfl (fun _ => rfl) ?_
    exact ⟨2, ⟨by omega, by omega⟩, (by omega), rfl⟩
  have T152_2 : TT w D pm_259 (152, [(0, .int (i32 x))], [], (mhp (mO m [] []) c, N), 0, 0) (Q_level m c N x) := by
    refine T_ld 154 (.int (i32 6)) rfl (fun _ => rfl) ?_
    refine T_ret rfl (fun _ => rfl) ?_
    exact ⟨6, ⟨by omega, by omega⟩, (by omega), rfl⟩
  have T155_3 : TT w D pm_259 (155, [(0, .int (i32 x))], [], (mhp (mO m [] []) c, N), 0, 0) (Q_level m c N x) := by
    refine T_ld 157 (.int (i32 7)) rfl (fun _ => rfl) ?_
    refine T_ret rfl (fun _ => rfl) ?_
    exact ⟨7, ⟨by omega, by omega⟩, (by omega), rfl⟩
  by_cases h4 : x = 4
  · skip
    refine T_cast 4 h4 ?_
    refine T_pop 144 rfl (fun _ => rfl) ?_
    exact T144_1
  by_cases h5 : x = 5
  · skip
    refine T_cast 5 h5 ?_
    refine T_pop 144 rfl (fun _ => rfl) ?_
    exact T144_1
  by_cases h6 : x = 6
  · skip
    refine T_cast 6 h6 ?_
    refine T_pop 144 rfl (fun _ => rfl) ?_
    exact T144_1
  by_cases h7 : x = 7
  · skip
    refine T_cast 7 h7 ?_
    refine T_pop 144 rfl (fun _ => rfl) ?_
    exact T144_1
  by_cases h8 : x = 8
  · skip
    refine T_cast 8 h8 ?_
    refine T_pop 158 rfl (fun _ => rfl) ?_
    refine T_ld 160 (.int (i32 8)) rfl (fun _ => rfl) ?_
    refine T_ret rfl (fun _ => rfl) ?_
    exact ⟨8, ⟨by omega, by omega⟩, (by omega), rfl⟩
  by_cases h9 : x = 9
  · skip
    refine T_cast 9 h9 ?_
    refine T_pop 142 rfl (fun _ => rfl) ?_
    refine T_ld 143 (.int (i32 1)) rfl (fun _ => rfl) ?_
    refine T_ret rfl (fun _ => rfl) ?_
    exact ⟨1, ⟨by omega, by omega⟩, (by omega), rfl⟩
  by_cases h10 : x = 10
  · skip
    refine T_cast 10 h10 ?_
    refine T_pop 140 rfl (fun _ => rfl) ?_
    refine T_ld 141 (.int (i32 0)) rfl (fun _ => rfl) ?_
    refine T_ret rfl (fun _ => rfl) ?_
    exact ⟨0, ⟨by omega, by omega⟩, (by omega), rfl⟩
  by_cases h11 : x = 11
  · skip
    refine T_cast 11 h11 ?_
    refine T_pop 152 rfl (fun _ => rfl) ?_
    exact T152_2
  by_cases h12 : x = 12
  · skip
    refine T_cast 12 h12 ?_
    refine T_pop 152 rfl (fun _ => rfl) ?_
    exact T152_2
  by_cases h13 : x = 38
  · skip
    refine T_cast 38 h13 ?_
    refine T_pop 150 rfl (fun _ => rfl) ?_
    refine T_ld 151 (.int (i32 5)) rfl (fun _ => rfl) ?_
    refine T_ret rfl (fun _ => rfl) ?_
    exact ⟨5, ⟨by omega, by omega⟩, (by omega), rfl⟩
  by_cases h14 : x = 43
  · skip
    refine T_cast 43 h14 ?_
    refine T_pop 155 rfl (fun _ => rfl) ?_
    exact T155_3
  by_cases h15 : x = 45
  · skip
    refine T_cast 45 h15 ?_
    refine T_pop 155 rfl (fun _ => rfl) ?_
    exact T155_3
  by_cases h16 : x = 60
  · skip
    refine T_cast 60 h16 ?_
    refine T_pop 144 rfl (fun _ => rfl) ?_
    exact T144_1
  by_cases h17 : x = 62
  · skip
    refine T_cast 62 h17 ?_
    refine T_pop 144 rfl (fun _ => rfl) ?_
    exact T144_1
  by_cases h18 : x = 94
  · skip
    refine T_cast 94 h18 ?_
    refine T_pop 148 rfl (fun _ => rfl) ?_
    refine T_ld 149 (.int (i32 4)) rfl (fun _ => rfl) ?_
    refine T_ret rfl (fun _ => rfl) ?_
    exact ⟨4, ⟨by omega, by omega⟩, (by omega), rfl⟩
  by_cases h19 : x = 124
  · skip
    refine T_cast 124 h19 ?_
    refine T_pop 146 rfl (fun _ => rfl) ?_
    refine T_ld 147 (.int (i32 3)) rfl (fun _ => rfl) ?_
    refine T_ret rfl (fun _ => rfl) ?_
    exact ⟨3, ⟨by omega, by omega⟩, (by omega), rfl⟩
  refine T_lkd 161 rfl rfl (r32 (by omega) (by omega)) (by simp [Op.lookupswitch.offset, h4, h5, h6, h7, h8, h9, h10, h11, h12, h13, h14, h15, h16, h17, h18, h19]) ?_
  refine T_ld 162 (.int (i32 (-1))) rfl (fun _ => rfl) ?_
  refine T_ret rfl (fun _ => rfl) ?_
  exact ⟨(-1), ⟨by omega, by omega⟩, (by omega), rfl⟩
def Q_join (m : mR) (c : Nat → Option am_C) (N : Nat) (w : Int) (B : Int) : ag_Re af_T → Prop := fun R => ∃ (y10 : Int) (y11 : Int) (y28 : Int) (y69 : Int) (y70 : Int) (y71 : Int) (y72 : Int) (F65 : Int → Int) (F66 : Int → Int) (F67 : Int → Int) (F68 : Int → Int) (F80 : Int → Int), (0 ≤ y10 ∧ y10 ≤ 8) ∧ ((-1) ≤ y11 ∧ y11 ≤ 4000) ∧ (0 ≤ y28 ∧ y28 ≤ 800) ∧ (0 ≤ y69 ∧ y69 ≤ 1024) ∧ (0 ≤ y70 ∧ y70 ≤ 4000) ∧ (0 ≤ y71 ∧ y71 ≤ 1) ∧ ((-9223372036854775808) ≤ y72 ∧ y72 ≤ 9223372036854775807) ∧ (∀ j, 0 ≤ F65 j ∧ F65 j ≤ 408) ∧ (∀ j, 0 ≤ F66 j ∧ F66 j ≤ 64) ∧ (∀ j, 0 ≤ F67 j ∧ F67 j ≤ 191) ∧ (∀ j, (-9223372036854775808) ≤ F68 j ∧ F68 j ≤ 9223372036854775807) ∧ (∀ j, (-1) ≤ F80 j ∧ F80 j ≤ 330) ∧ (y10 = 0 → (m.1 10) = 0) ∧ (y69 ≤ (m.1 69) + 64) ∧ (y10 = 0 → (y69 ≤ 64) ∧ (y28 = (m.1 28) + 1) ∧ (XS F65 F67 (m.2 76) (m.2 78) (m.2 79) F80 B y28 (m.1 73) (m.1 74) 1) ∧ (agr (m.2 65) F65 (m.1 28)) ∧ (F80 = upI (m.2 80) w (-1))) ∧ R = (.inl (none), (mhp (mO m [(10, y10), (11, y11), (28, y28), (69, y69), (70, y70), (71, y71), (72, y72)] [(65, F65), (66, F66), (67, F67), (68, F68), (80, F80)]) c, N), 0, 0)
set_option maxHeartbeats 8000000 in
theorem c_join (w : wX) (m : mR) (c : Nat → Option am_C) (N D : Nat) (hD : 4 ≤ D) (hT : Ty m) (w : Int) (B : Int) (qw : R32 w) (p0 : 0 ≤ w ∧ w ≤ 539) (p1 : (m.1 69) ≤ 900) (hC : m.1 10 = 0 → (XS (m.2 65) (m.2 67) (m.2 76) (m.2 78) (m.2 79) (m.2 80) B (m.1 28) (m.1 73) (m.1 74) 1) ∧ ((m.1 69) ≤ 64) ∧ (1 ≤ (m.1 73)) ∧ (9 * ((m.1 73) - 1) ≤ w ∧ w < 9 * (m.1 73)) ∧ (0 ≤ (m.2 80) w)) : TC w D 260 [.ref 189, .int (i32 w)] (mhp m c, N) (Q_join m c N w B) := by
  obtain ⟨D, rfl⟩ : ∃ k, D = k + 1 := ⟨D - 1, by omega⟩
  obtain ⟨qwa, qwb⟩ := id qw
  have f10 : 0 ≤ m.1 10 ∧ m.1 10 ≤ 8 := hT.1 10
  have f11 : (-1) ≤ m.1 11 ∧ m.1 11 ≤ 4000 := hT.1 11
  have f28 : 0 ≤ m.1 28 ∧ m.1 28 ≤ 800 := hT.1 28
  have f69 : 0 ≤ m.1 69 ∧ m.1 69 ≤ 1024 := hT.1 69
  have f70 : 0 ≤ m.1 70 ∧ m.1 70 ≤ 4000 := hT.1 70
  have f71 : 0 ≤ m.1 71 ∧ m.1 71 ≤ 1 := hT.1 71
  have f72 : (-9223372036854775808) ≤ m.1 72 ∧ m.1 72 ≤ 9223372036854775807 := hT.1 72
  have f74 : 0 ≤ m.1 74 ∧ m.1 74 ≤ 24 := hT.1 74
  have f73 : 0 ≤ m.1 73 ∧ m.1 73 ≤ 60 := hT.1 73
  refine Tc_of rfl ?_
  show TT w D pm_260 (0, [(0, .ref 189), (1, .int (i32 w))], [], (mhp m c, N), 0, 0) (Q_join m c N w B)
  rw [show (mhp m c, N) = (mhp (mO m [(10, (m.1 10)), (11, (m.1 11)), (28, (m.1 28)), (69, (m.1 69)), (70, (m.1 70)), (71, (m.1 71)), (72, (m.1 72))] [(65, (m.2 65)), (66, (m.2 66)), (67, (m.2 67)), (68, (m.2 68)), (80, (m.2 80))]) c, N) from congrArg (fun M => (mhp M c, N)) (mO_pad m [10, 11, 28, 69, 70, 71, 72] [65, 66, 67, 68, 80])]
  by_cases hf0 : m.1 10 = 0
  · skip
    obtain ⟨hXS, c1, c2, c3, c4⟩ := hC hf0
    have hEX := hXS.1.1
    have hl1 := lh_ws (st := (m.2 79)) (ws := (m.2 80)) (hi := (m.1 73)) (i := w) (by omega) (by omega) (by omega) (by omega)
    have hl0 : 0 ≤ lh (m.2 79) (upI (m.2 80) w (-1)) (m.1 73) := lh_0 (hT.2.1 79) _ _
    have ha2 := ar_2 (s := (m.2 80) w) (by have := hT.2.1 80 w; have e : (m.2 80) w ≤ 330 := this.2; omega)
    have J278_36 : ∀ (v27 : Int) (y28 : Int) (y29 : Int) (y30 : Int) (F31 : Int → Int) (F32 : Int → Int) (F33 : Int → Int) (F34 : Int → Int) (F35 : Int → Int), (R32 v27) → (0 ≤ y28 ∧ y28 ≤ 8) → ((-1) ≤ y29 ∧ y29 ≤ 4000) → (0 ≤ y30 ∧ y30 ≤ 800) → (∀ j, 0 ≤ F31 j ∧ F31 j ≤ 408) → (∀ j, 0 ≤ F32 j ∧ F32 j ≤ 64) → (∀ j, 0 ≤ F33 j ∧ F33 j ≤ 191) → (∀ j, (-9223372036854775808) ≤ F34 j ∧ F34 j ≤ 9223372036854775807) → (∀ j, (-1) ≤ F35 j ∧ F35 j ≤ 330) → (1 ≤ y28) → (y28 ≤ 8) → (0 ≤ (m.1 69) ∧ (m.1 69) ≤ 1024) → TT w D pm_260 (278, [(0, .ref 189), (1, .int (i32 w)), (2, .int (i32 v27)), (3, .int (i32 ((m.2 82) w))), (4, .int (i32 ((m.2 80) w))), (5, .int (i32 (m.1 69)))], [], (mhp (mO m [(10, y28), (11, y29), (28, y30), (69, (m.1 69)), (70, (m.1 70)), (71, (m.1 71)), (72, (m.1 72))] [(65, F31), (66, F32), (67, F33), (68, F34), (80, F35)]) c, N), 0, 0) (Q_join m c N w B) := by
      intro v27 y28 y29 y30 F31 F32 F33 F34 F35 q37 q38 q39 q40 q41 q42 q43 q44 q45 ic46 ic47 ic48
      obtain ⟨q37a, q37b⟩ := id q37
      refine T_ld 279 (.ref 189) rfl (fun _ => rfl) ?_
      refine T_ld 280 (.int (i32 v27)) rfl (fun _ => rfl) ?_
      refine T_ld 281 (.int (i32 ((m.2 82) w))) rfl (fun _ => rfl) ?_
      refine T_call 284 250 [.ref 189, .int (i32 v27), .int (i32 ((m.2 82) w))] [] rfl (fun _ => rfl) rfl (c_unit w (mO m [(10, y28), (11, y29), (28, y30), (69, (m.1 69)), (70, (m.1 70)), (71, (m.1 71)), (72, (m.1 72))] [(65, F31), (66, F32), (67, F33), (68, F34), (80, F35)]) c N D (by omega) (Ty_mO hT rfl rfl ⟨q38, q39, q40, f69, f70, f71, f72, trivial⟩ ⟨q41, q42, q43, q44, q45, trivial⟩) v27 ((m.2 82) w) (r32 (by omega) (by omega)) (r32 (by omega) (by omega)) (show 0 ≤ v27 ∧ v27 ≤ 1024 by omega) (show 0 ≤ ((m.2 82) w) ∧ ((m.2 82) w) ≤ 4000 by omega)) (fun rr50 k51 => ?_)
      obtain ⟨y52, y54, y56, y58, g53, g55, g57, g59, h60, rfl⟩ := k51
      refine ⟨_, _, rfl, ?_⟩
      refine T_nf (st' := []) (l' := [(10, y28), (11, y29), (28, y30), (69, y52), (70, y54), (71, y56), (72, y58)]) (a' := [(65, F31), (66, F32), (67, F33), (68, F34), (80, F35)]) rfl rfl rfl rfl rfl ?_
      replace h60 : y52 = v27 := h60
      refine T_ret rfl (fun _ => rfl) ?_
      exact ⟨y28, y29, y30, y52, y54, y56, y58, F31, F32, F33, F34, F35, q38, q39, q40, g53, g55, g57, g59, q41, q42, q43, q44, q45, (by omega), (by omega), (fun h => absurd h (by omega)), rfl⟩
    have J197_63 : ∀ (y61 : Int) (y62 : Int), (0 ≤ y61 ∧ y61 ≤ 8) → ((-1) ≤ y62 ∧ y62 ≤ 4000) → (1 ≤ y61) → (y61 ≤ 8) → (0 ≤ (m.1 69) ∧ (m.1 69) ≤ 1024) → TT w D pm_260 (197, [(0, .ref 189), (1, .int (i32 w)), (2, .int (i32 ((m.2 81) w))), (3, .int (i32 ((m.2 82) w))), (4, .int (i32 ((m.2 80) w))), (5, .int (i32 (m.1 69)))], [], (mhp (mO m [(10, y61), (11, y62), (28, (m.1 28)), (69, (m.1 69)), (70, (m.1 70)), (71, (m.1 71)), (72, (m.1 72))] [(65, (m.2 65)), (66, (m.2 66)), (67, (m.2 67)), (68, (m.2 68)), (80, (m.2 80))]) c, N), 0, 0) (Q_join m c N w B) := by
      intro y61 y62 q64 q65 ic66 ic67 ic68
      refine T_ld 198 (.int (i32 ((m.2 81) w))) rfl (fun _ => rfl) ?_
      refine T_gf 202 (.int (i32 (m.1 69))) rfl rfl rfl rfl rfl rfl ?_
      refine T_iadd 203 rfl rfl ?_
      refine T_sto 204 [(2, .int (i32 (((m.2 81) w) + (m.1 69)))), (0, .ref 189), (1, .int (i32 w)), (3, .int (i32 ((m.2 82) w))), (4, .int (i32 ((m.2 80) w))), (5, .int (i32 (m.1 69)))] rfl (fun _ => rfl) ?_
      refine T_goto 261 rfl (fun _ => rfl) ?_
      refine T_gf 265 (.ref 242) rfl rfl rfl rfl rfl rfl ?_
      refine T_ld 266 (.int (i32 w)) rfl (fun _ => rfl) ?_
      refine T_ld 267 (.int (i32 (-1))) rfl (fun _ => rfl) ?_
      have G70 : ∀ j, (-1) ≤ (upI (m.2 80) w (-1)) j ∧ (upI (m.2 80) w (-1)) j ≤ 330 := upI_rg (hT.2.1 80) ⟨by omega, by omega⟩
      refine T_iast (a' := [(65, (m.2 65)), (66, (m.2 66)), (67, (m.2 67)), (68, (m.2 68)), (80, upI (m.2 80) w (-1))]) 268 80 (m.2 80) rfl rfl rfl (by omega) (show w < (540 : Int) by omega) rfl rfl ?_
      refine T_ld 269 (.ref 189) rfl (fun _ => rfl) ?_
      refine T_ld 271 (.int (i32 ((m.2 80) w))) rfl (fun _ => rfl) ?_
      refine T_ld 272 (.int (i32 (((m.2 81) w) + (m.1 69)))) rfl (fun _ => rfl) ?_
      refine T_ld 274 (.int (i32 (m.1 69))) rfl (fun _ => rfl) ?_
      refine T_ld 275 (.long (i64 0)) rfl (fun _ => rfl) ?_
      refine T_call 278 248 [.ref 189, .int (i32 ((m.2 80) w)), .int (i32 (((m.2 81) w) + (m.1 69))), .int (i32 (m.1 69)), .long (i64 0)] [] rfl (fun _ => rfl) rfl (c_node w (mO m [(10, y61), (11, y62), (28, (m.1 28)), (69, (m.1 69)), (70, (m.1 70)), (71, (m.1 71)), (72, (m.1 72))] [(65, (m.2 65)), (66, (m.2 66)), (67, (m.2 67)), (68, (m.2 68)), (80, upI (m.2 80) w (-1))]) c N D (by omega) (Ty_mO hT rfl rfl ⟨q64, q65, f28, f69, f70, f71, f72, trivial⟩ ⟨(hT.2.1 65), (hT.2.1 66), (hT.2.1 67), (hT.2.1 68), G70, trivial⟩) ((m.2 80) w) (((m.2 81) w) + (m.1 69)) (m.1 69) 0 B (1 + lh (m.2 79) (m.2 80) (m.1 73)) (r32 (by omega) (by omega)) (r32 (by omega) (by omega)) (r32 (by omega) (by omega)) ⟨by decide, by decide⟩ (fun (h : y61 = 0) => absurd h (by omega))) (fun rr71 k72 => ?_)
      obtain ⟨y73, y75, y77, F79, F81, F83, F85, g74, g76, g78, G80, G82, G84, G86, h87, c88, rfl⟩ := k72
      refine ⟨_, _, rfl, ?_⟩
      refine T_nf (st' := []) (l' := [(10, y73), (11, y75), (28, y77), (69, (m.1 69)), (70, (m.1 70)), (71, (m.1 71)), (72, (m.1 72))]) (a' := [(65, F79), (66, F81), (67, F83), (68, F85), (80, upI (m.2 80) w (-1))]) rfl rfl rfl rfl rfl ?_
      replace h87 : y73 = 0 → y61 = 0 := h87
      have hf89 : 1 ≤ y73 := by omega
      clear c88
      clear h87
      clear q64 q65 ic66 ic67
      refine Tm_lv (a := [(0, .ref 189), (1, .int (i32 w)), (2, .int (i32 (((m.2 81) w) + (m.1 69)))), (3, .int (i32 ((m.2 82) w))), (4, .int (i32 ((m.2 80) w))), (5, .int (i32 (m.1 69)))]) rfl rfl ⟨rfl, rfl, rfl, rfl, rfl, rfl, trivial⟩ ?_
      exact J278_36 (((m.2 81) w) + (m.1 69)) y73 y75 y77 F79 F81 F83 F85 (upI (m.2 80) w (-1)) (r32 (by omega) (by omega)) g74 g76 g78 G80 G82 G84 G86 G70 (by omega) (by omega) (by omega)
    have J173_92 : ∀ (y90 : Int) (y91 : Int), (0 ≤ y90 ∧ y90 ≤ 8) → ((-1) ≤ y91 ∧ y91 ≤ 4000) → (1 ≤ y90) → (y90 ≤ 8) → (0 ≤ (m.1 69) ∧ (m.1 69) ≤ 1024) → TT w D pm_260 (173, [(0, .ref 189), (1, .int (i32 w)), (2, .int (i32 ((m.2 81) w))), (3, .int (i32 ((m.2 82) w))), (4, .int (i32 ((m.2 80) w))), (5, .int (i32 (m.1 69)))], [], (mhp (mO m [(10, y90), (11, y91), (28, (m.1 28)), (69, (m.1 69)), (70, (m.1 70)), (71, (m.1 71)), (72, (m.1 72))] [(65, (m.2 65)), (66, (m.2 66)), (67, (m.2 67)), (68, (m.2 68)), (80, (m.2 80))]) c, N), 0, 0) (Q_join m c N w B) := by
      intro y90 y91 q93 q94 ic95 ic96 ic97
      refine T_ld 174 (.ref 189) rfl (fun _ => rfl) ?_
      refine T_ld 175 (.int (i32 ((m.2 81) w))) rfl (fun _ => rfl) ?_
      refine T_gf 179 (.int (i32 (m.1 69))) rfl rfl rfl rfl rfl rfl ?_
      refine T_iadd 180 rfl rfl ?_
      refine T_ld 182 (.int (i32 64)) rfl (fun _ => rfl) ?_
      refine T_icmp 189 185 rfl rfl rfl (r32 (by omega) (by omega)) ⟨by decide, by decide⟩ (fun (h99 : (64 : Int) < ((m.2 81) w) + (m.1 69)) => ?_) (fun (h99 : ¬ ((64 : Int) < ((m.2 81) w) + (m.1 69))) => ?_)
      · skip
        refine T_ld 190 (.int (i32 0)) rfl (fun _ => rfl) ?_
        refine T_gf 194 (.int (i32 (m.1 70))) rfl rfl rfl rfl rfl rfl ?_
        refine T_call 197 256 [.ref 189, .int (i32 0), .int (i32 (m.1 70))] [] rfl (fun _ => rfl) rfl (c_want w (mO m [(10, y90), (11, y91), (28, (m.1 28)), (69, (m.1 69)), (70, (m.1 70)), (71, (m.1 71)), (72, (m.1 72))] [(65, (m.2 65)), (66, (m.2 66)), (67, (m.2 67)), (68, (m.2 68)), (80, (m.2 80))]) c N D (by omega) (Ty_mO hT rfl rfl ⟨q93, q94, f28, f69, f70, f71, f72, trivial⟩ ⟨(hT.2.1 65), (hT.2.1 66), (hT.2.1 67), (hT.2.1 68), (hT.2.1 80), trivial⟩) 0 (m.1 70) ⟨by decide, by decide⟩ (r32 (by omega) (by omega)) (show 0 ≤ (m.1 70) ∧ (m.1 70) ≤ 4000 by omega) (fun (h : y90 = 0) => absurd h (by omega))) (fun rr100 k101 => ?_)
        obtain ⟨y102, y104, g103, g105, h106, c107, rfl⟩ := k101
        refine ⟨_, _, rfl, ?_⟩
        refine T_nf (st' := []) (l' := [(10, y102), (11, y104), (28, (m.1 28)), (69, (m.1 69)), (70, (m.1 70)), (71, (m.1 71)), (72, (m.1 72))]) (a' := [(65, (m.2 65)), (66, (m.2 66)), (67, (m.2 67)), (68, (m.2 68)), (80, (m.2 80))]) rfl rfl rfl rfl rfl ?_
        replace h106 : y102 = 0 → y90 = 0 := h106
        have hf108 : 1 ≤ y102 := by omega
        clear c107
        clear h106
        clear q93 q94 ic95 ic96
        exact J197_63 y102 y104 g103 g105 (by omega) (by omega) (by omega)
      · skip
        refine T_ld 186 (.int (i32 1)) rfl (fun _ => rfl) ?_
        refine T_goto 190 rfl (fun _ => rfl) ?_
        refine T_gf 194 (.int (i32 (m.1 70))) rfl rfl rfl rfl rfl rfl ?_
        refine T_call 197 256 [.ref 189, .int (i32 1), .int (i32 (m.1 70))] [] rfl (fun _ => rfl) rfl (c_want w (mO m [(10, y90), (11, y91), (28, (m.1 28)), (69, (m.1 69)), (70, (m.1 70)), (71, (m.1 71)), (72, (m.1 72))] [(65, (m.2 65)), (66, (m.2 66)), (67, (m.2 67)), (68, (m.2 68)), (80, (m.2 80))]) c N D (by omega) (Ty_mO hT rfl rfl ⟨q93, q94, f28, f69, f70, f71, f72, trivial⟩ ⟨(hT.2.1 65), (hT.2.1 66), (hT.2.1 67), (hT.2.1 68), (hT.2.1 80), trivial⟩) 1 (m.1 70) ⟨by decide, by decide⟩ (r32 (by omega) (by omega)) (show 0 ≤ (m.1 70) ∧ (m.1 70) ≤ 4000 by omega) (fun (h : y90 = 0) => absurd h (by omega))) (fun rr109 k110 => ?_)
        obtain ⟨y111, y113, g112, g114, h115, c116, rfl⟩ := k110
        refine ⟨_, _, rfl, ?_⟩
        refine T_nf (st' := []) (l' := [(10, y111), (11, y113), (28, (m.1 28)), (69, (m.1 69)), (70, (m.1 70)), (71, (m.1 71)), (72, (m.1 72))]) (a' := [(65, (m.2 65)), (66, (m.2 66)), (67, (m.2 67)), (68, (m.2 68)), (80, (m.2 80))]) rfl rfl rfl rfl rfl ?_
        replace h115 : y111 = 0 → y90 = 0 := h115
        have hf117 : 1 ≤ y111 := by omega
        clear c116
        clear h115
        clear q93 q94 ic95 ic96
        exact J197_63 y111 y113 g112 g114 (by omega) (by omega) (by omega)
    have J153_120 : ∀ (y118 : Int) (y119 : Int), (0 ≤ y118 ∧ y118 ≤ 8) → ((-1) ≤ y119 ∧ y119 ≤ 4000) → (1 ≤ y118) → (y118 ≤ 8) → (0 ≤ (m.1 69) ∧ (m.1 69) ≤ 1024) → ((-1) ≤ ((m.2 80) w) ∧ ((m.2 80) w) ≤ 330) → (0 ≤ ((m.2 82) w) ∧ ((m.2 82) w) ≤ 4000) → (0 ≤ ((m.2 81) w) ∧ ((m.2 81) w) ≤ 64) → TT w D pm_260 (153, [(0, .ref 189), (1, .int (i32 w)), (2, .int (i32 ((m.2 81) w))), (3, .int (i32 ((m.2 82) w))), (4, .int (i32 ((m.2 80) w))), (5, .int (i32 (m.1 69)))], [], (mhp (mO m [(10, y118), (11, y119), (28, (m.1 28)), (69, (m.1 69)), (70, (m.1 70)), (71, (m.1 71)), (72, (m.1 72))] [(65, (m.2 65)), (66, (m.2 66)), (67, (m.2 67)), (68, (m.2 68)), (80, (m.2 80))]) c, N), 0, 0) (Q_join m c N w B) := by
      intro y118 y119 q121 q122 ic123 ic124 ic125 ic126 ic127 ic128
      refine T_ld 154 (.ref 189) rfl (fun _ => rfl) ?_
      refine T_gf 158 (.int (i32 (m.1 71))) rfl rfl rfl rfl rfl rfl ?_
      refine T_if 165 161 rfl rfl rfl (r32 (by omega) (by omega)) (fun (h130 : (m.1 71) ≠ 0) => ?_) (fun (h130 : ¬ ((m.1 71) ≠ 0)) => ?_)
      · skip
        refine T_ld 166 (.int (i32 0)) rfl (fun _ => rfl) ?_
        refine T_gf 170 (.int (i32 (m.1 70))) rfl rfl rfl rfl rfl rfl ?_
        refine T_call 173 256 [.ref 189, .int (i32 0), .int (i32 (m.1 70))] [] rfl (fun _ => rfl) rfl (c_want w (mO m [(10, y118), (11, y119), (28, (m.1 28)), (69, (m.1 69)), (70, (m.1 70)), (71, (m.1 71)), (72, (m.1 72))] [(65, (m.2 65)), (66, (m.2 66)), (67, (m.2 67)), (68, (m.2 68)), (80, (m.2 80))]) c N D (by omega) (Ty_mO hT rfl rfl ⟨q121, q122, f28, f69, f70, f71, f72, trivial⟩ ⟨(hT.2.1 65), (hT.2.1 66), (hT.2.1 67), (hT.2.1 68), (hT.2.1 80), trivial⟩) 0 (m.1 70) ⟨by decide, by decide⟩ (r32 (by omega) (by omega)) (show 0 ≤ (m.1 70) ∧ (m.1 70) ≤ 4000 by omega) (fun (h : y118 = 0) => absurd h (by omega))) (fun rr131 k132 => ?_)
        obtain ⟨y133, y135, g134, g136, h137, c138, rfl⟩ := k132
        refine ⟨_, _, rfl, ?_⟩
        refine T_nf (st' := []) (l' := [(10, y133), (11, y135), (28, (m.1 28)), (69, (m.1 69)), (70, (m.1 70)), (71, (m.1 71)), (72, (m.1 72))]) (a' := [(65, (m.2 65)), (66, (m.2 66)), (67, (m.2 67)), (68, (m.2 68)), (80, (m.2 80))]) rfl rfl rfl rfl rfl ?_
        replace h137 : y133 = 0 → y118 = 0 := h137
        have hf139 : 1 ≤ y133 := by omega
        clear c138
        clear h137
        clear q121 q122 ic123 ic124
        exact J173_92 y133 y135 g134 g136 (by omega) (by omega) (by omega)
      · skip
        refine T_ld 162 (.int (i32 1)) rfl (fun _ => rfl) ?_
        refine T_goto 166 rfl (fun _ => rfl) ?_
        refine T_gf 170 (.int (i32 (m.1 70))) rfl rfl rfl rfl rfl rfl ?_
        refine T_call 173 256 [.ref 189, .int (i32 1), .int (i32 (m.1 70))] [] rfl (fun _ => rfl) rfl (c_want w (mO m [(10, y118), (11, y119), (28, (m.1 28)), (69, (m.1 69)), (70, (m.1 70)), (71, (m.1 71)), (72, (m.1 72))] [(65, (m.2 65)), (66, (m.2 66)), (67, (m.2 67)), (68, (m.2 68)), (80, (m.2 80))]) c N D (by omega) (Ty_mO hT rfl rfl ⟨q121, q122, f28, f69, f70, f71, f72, trivial⟩ ⟨(hT.2.1 65), (hT.2.1 66), (hT.2.1 67), (hT.2.1 68), (hT.2.1 80), trivial⟩) 1 (m.1 70) ⟨by decide, by decide⟩ (r32 (by omega) (by omega)) (show 0 ≤ (m.1 70) ∧ (m.1 70) ≤ 4000 by omega) (fun (h : y118 = 0) => absurd h (by omega))) (fun rr140 k141 => ?_)
        obtain ⟨y142, y144, g143, g145, h146, c147, rfl⟩ := k141
        refine ⟨_, _, rfl, ?_⟩
        refine T_nf (st' := []) (l' := [(10, y142), (11, y144), (28, (m.1 28)), (69, (m.1 69)), (70, (m.1 70)), (71, (m.1 71)), (72, (m.1 72))]) (a' := [(65, (m.2 65)), (66, (m.2 66)), (67, (m.2 67)), (68, (m.2 68)), (80, (m.2 80))]) rfl rfl rfl rfl rfl ?_
        replace h146 : y142 = 0 → y118 = 0 := h146
        have hf148 : 1 ≤ y142 := by omega
        clear c147
        clear h146
        clear q121 q122 ic123 ic124
        exact J173_92 y142 y144 g143 g145 (by omega) (by omega) (by omega)
    have J126_151 : ∀ (y149 : Int) (y150 : Int), (0 ≤ y149 ∧ y149 ≤ 8) → ((-1) ≤ y150 ∧ y150 ≤ 4000) → (1 ≤ y149) → (y149 ≤ 8) → (0 ≤ (m.1 69) ∧ (m.1 69) ≤ 1024) → TT w D pm_260 (126, [(0, .ref 189), (1, .int (i32 w)), (2, .int (i32 ((m.2 81) w))), (3, .int (i32 ((m.2 82) w))), (4, .int (i32 ((m.2 80) w))), (5, .int (i32 (m.1 69)))], [], (mhp (mO m [(10, y149), (11, y150), (28, (m.1 28)), (69, (m.1 69)), (70, (m.1 70)), (71, (m.1 71)), (72, (m.1 72))] [(65, (m.2 65)), (66, (m.2 66)), (67, (m.2 67)), (68, (m.2 68)), (80, (m.2 80))]) c, N), 0, 0) (Q_join m c N w B) := by
      intro y149 y150 q152 q153 ic154 ic155 ic156
      refine T_ld 127 (.int (i32 1)) rfl (fun _ => rfl) ?_
      refine T_sto 128 [(2, .int (i32 1)), (0, .ref 189), (1, .int (i32 w)), (3, .int (i32 ((m.2 82) w))), (4, .int (i32 ((m.2 80) w))), (5, .int (i32 (m.1 69)))] rfl (fun _ => rfl) ?_
      refine T_goto 261 rfl (fun _ => rfl) ?_
      refine T_gf 265 (.ref 242) rfl rfl rfl rfl rfl rfl ?_
      refine T_ld 266 (.int (i32 w)) rfl (fun _ => rfl) ?_
      refine T_ld 267 (.int (i32 (-1))) rfl (fun _ => rfl) ?_
      have G158 : ∀ j, (-1) ≤ (upI (m.2 80) w (-1)) j ∧ (upI (m.2 80) w (-1)) j ≤ 330 := upI_rg (hT.2.1 80) ⟨by omega, by omega⟩
      refine T_iast (a' := [(65, (m.2 65)), (66, (m.2 66)), (67, (m.2 67)), (68, (m.2 68)), (80, upI (m.2 80) w (-1))]) 268 80 (m.2 80) rfl rfl rfl (by omega) (show w < (540 : Int) by omega) rfl rfl ?_
      refine T_ld 269 (.ref 189) rfl (fun _ => rfl) ?_
      refine T_ld 271 (.int (i32 ((m.2 80) w))) rfl (fun _ => rfl) ?_
      refine T_ld 272 (.int (i32 1)) rfl (fun _ => rfl) ?_
      refine T_ld 274 (.int (i32 (m.1 69))) rfl (fun _ => rfl) ?_
      refine T_ld 275 (.long (i64 0)) rfl (fun _ => rfl) ?_
      refine T_call 278 248 [.ref 189, .int (i32 ((m.2 80) w)), .int (i32 1), .int (i32 (m.1 69)), .long (i64 0)] [] rfl (fun _ => rfl) rfl (c_node w (mO m [(10, y149), (11, y150), (28, (m.1 28)), (69, (m.1 69)), (70, (m.1 70)), (71, (m.1 71)), (72, (m.1 72))] [(65, (m.2 65)), (66, (m.2 66)), (67, (m.2 67)), (68, (m.2 68)), (80, upI (m.2 80) w (-1))]) c N D (by omega) (Ty_mO hT rfl rfl ⟨q152, q153, f28, f69, f70, f71, f72, trivial⟩ ⟨(hT.2.1 65), (hT.2.1 66), (hT.2.1 67), (hT.2.1 68), G158, trivial⟩) ((m.2 80) w) 1 (m.1 69) 0 B (1 + lh (m.2 79) (m.2 80) (m.1 73)) (r32 (by omega) (by omega)) ⟨by decide, by decide⟩ (r32 (by omega) (by omega)) ⟨by decide, by decide⟩ (fun (h : y149 = 0) => absurd h (by omega))) (fun rr159 k160 => ?_)
      obtain ⟨y161, y163, y165, F167, F169, F171, F173, g162, g164, g166, G168, G170, G172, G174, h175, c176, rfl⟩ := k160
      refine ⟨_, _, rfl, ?_⟩
      refine T_nf (st' := []) (l' := [(10, y161), (11, y163), (28, y165), (69, (m.1 69)), (70, (m.1 70)), (71, (m.1 71)), (72, (m.1 72))]) (a' := [(65, F167), (66, F169), (67, F171), (68, F173), (80, upI (m.2 80) w (-1))]) rfl rfl rfl rfl rfl ?_
      replace h175 : y161 = 0 → y149 = 0 := h175
      have hf177 : 1 ≤ y161 := by omega
      clear c176
      clear h175
      clear q152 q153 ic154 ic155
      refine Tm_lv (a := [(0, .ref 189), (1, .int (i32 w)), (2, .int (i32 1)), (3, .int (i32 ((m.2 82) w))), (4, .int (i32 ((m.2 80) w))), (5, .int (i32 (m.1 69)))]) rfl rfl ⟨rfl, rfl, rfl, rfl, rfl, rfl, trivial⟩ ?_
      exact J278_36 1 y161 y163 y165 F167 F169 F171 F173 (upI (m.2 80) w (-1)) ⟨by decide, by decide⟩ g162 g164 g166 G168 G170 G172 G174 G158 (by omega) (by omega) (by omega)
    refine T_gf 4 (.ref 243) rfl rfl rfl rfl rfl rfl ?_
    refine T_ld 5 (.int (i32 w)) rfl (fun _ => rfl) ?_
    refine T_iald 6 81 (m.2 81) rfl rfl rfl (by omega) (show w < (540 : Int) by omega) rfl ?_
    have e178 : 0 ≤ m.2 81 w ∧ m.2 81 w ≤ 64 := hT.2.1 81 w
    refine T_sto 7 [(2, .int (i32 ((m.2 81) w))), (0, .ref 189), (1, .int (i32 w))] rfl (fun _ => rfl) ?_
    refine T_gf 11 (.ref 244) rfl rfl rfl rfl rfl rfl ?_
    refine T_ld 12 (.int (i32 w)) rfl (fun _ => rfl) ?_
    refine T_iald 13 82 (m.2 82) rfl rfl rfl (by omega) (show w < (540 : Int) by omega) rfl ?_
    have e179 : 0 ≤ m.2 82 w ∧ m.2 82 w ≤ 4000 := hT.2.1 82 w
    refine T_sto 14 [(3, .int (i32 ((m.2 82) w))), (2, .int (i32 ((m.2 81) w))), (0, .ref 189), (1, .int (i32 w))] rfl (fun _ => rfl) ?_
    refine T_gf 18 (.ref 242) rfl rfl rfl rfl rfl rfl ?_
    refine T_ld 19 (.int (i32 w)) rfl (fun _ => rfl) ?_
    refine T_iald 20 80 (m.2 80) rfl rfl rfl (by omega) (show w < (540 : Int) by omega) rfl ?_
    have e180 : (-1) ≤ (m.2 80) w ∧ (m.2 80) w ≤ 330 := (hT.2.1 80) w
    refine T_sto 22 [(4, .int (i32 ((m.2 80) w))), (3, .int (i32 ((m.2 82) w))), (2, .int (i32 ((m.2 81) w))), (0, .ref 189), (1, .int (i32 w))] rfl (fun _ => rfl) ?_
    refine T_gf 26 (.int (i32 (m.1 69))) rfl rfl rfl rfl rfl rfl ?_
    refine T_sto 28 [(5, .int (i32 (m.1 69))), (4, .int (i32 ((m.2 80) w))), (3, .int (i32 ((m.2 82) w))), (2, .int (i32 ((m.2 81) w))), (0, .ref 189), (1, .int (i32 w))] rfl (fun _ => rfl) ?_
    refine T_gf 32 (.ref 242) rfl rfl rfl rfl rfl rfl ?_
    refine T_ld 33 (.int (i32 w)) rfl (fun _ => rfl) ?_
    refine T_iald 34 80 (m.2 80) rfl rfl rfl (by omega) (show w < (540 : Int) by omega) rfl ?_
    have e181 : (-1) ≤ (m.2 80) w ∧ (m.2 80) w ≤ 330 := (hT.2.1 80) w
    refine T_call 37 259 [.int (i32 ((m.2 80) w))] [] rfl (fun _ => rfl) rfl (c_level w (mO m [(10, (m.1 10)), (11, (m.1 11)), (28, (m.1 28)), (69, (m.1 69)), (70, (m.1 70)), (71, (m.1 71)), (72, (m.1 72))] [(65, (m.2 65)), (66, (m.2 66)), (67, (m.2 67)), (68, (m.2 68)), (80, (m.2 80))]) c N D (by omega) (Ty_mO hT rfl rfl ⟨f10, f11, f28, f69, f70, f71, f72, trivial⟩ ⟨(hT.2.1 65), (hT.2.1 66), (hT.2.1 67), (hT.2.1 68), (hT.2.1 80), trivial⟩) ((m.2 80) w) (r32 (by omega) (by omega))) (fun rr182 k183 => ?_)
    obtain ⟨x184, g185, h186, rfl⟩ := k183
    refine ⟨_, _, rfl, ?_⟩
    refine T_nf (st' := [.int (i32 x184)]) (l' := [(10, (m.1 10)), (11, (m.1 11)), (28, (m.1 28)), (69, (m.1 69)), (70, (m.1 70)), (71, (m.1 71)), (72, (m.1 72))]) (a' := [(65, (m.2 65)), (66, (m.2 66)), (67, (m.2 67)), (68, (m.2 68)), (80, (m.2 80))]) rfl rfl rfl rfl rfl ?_
    obtain ⟨g185a, g185b⟩ := g185
    replace h186 : 0 ≤ x184 → 4 ≤ ((m.2 80) w) ∧ ((m.2 80) w) ≤ 124 := h186
    have J261_190 : ∀ (v187 : Int) (y188 : Int) (y189 : Int), (R32 v187) → (0 ≤ y188 ∧ y188 ≤ 8) → ((-1) ≤ y189 ∧ y189 ≤ 4000) → (0 ≤ v187 ∧ v187 ≤ (m.1 69) + 64) → (y188 = 0 → (v187 ≤ 64)) → TT w D pm_260 (261, [(0, .ref 189), (1, .int (i32 w)), (2, .int (i32 v187)), (3, .int (i32 ((m.2 82) w))), (4, .int (i32 ((m.2 80) w))), (5, .int (i32 (m.1 69)))], [.int (i32 x184)], (mhp (mO m [(10, y188), (11, y189), (28, (m.1 28)), (69, (m.1 69)), (70, (m.1 70)), (71, (m.1 71)), (72, (m.1 72))] [(65, (m.2 65)), (66, (m.2 66)), (67, (m.2 67)), (68, (m.2 68)), (80, (m.2 80))]) c, N), 0, 0) (Q_join m c N w B) := by
      intro v187 y188 y189 q191 q192 q193 ic194 c195
      obtain ⟨q191a, q191b⟩ := id q191
      by_cases hf196 : y188 = 0
      · skip
        subst hf196
        have c197 := c195 rfl
        refine T_gf 265 (.ref 242) rfl rfl rfl rfl rfl rfl ?_
        refine T_ld 266 (.int (i32 w)) rfl (fun _ => rfl) ?_
        refine T_ld 267 (.int (i32 (-1))) rfl (fun _ => rfl) ?_
        have G198 : ∀ j, (-1) ≤ (upI (m.2 80) w (-1)) j ∧ (upI (m.2 80) w (-1)) j ≤ 330 := upI_rg (hT.2.1 80) ⟨by omega, by omega⟩
        refine T_iast (a' := [(65, (m.2 65)), (66, (m.2 66)), (67, (m.2 67)), (68, (m.2 68)), (80, upI (m.2 80) w (-1))]) 268 80 (m.2 80) rfl rfl rfl (by omega) (show w < (540 : Int) by omega) rfl rfl ?_
        have hAr : ar ((m.2 80) w) ≤ 1 + lh (m.2 79) (m.2 80) (m.1 73) := by omega
        have hCk : CNk ((m.2 80) w) (m.1 69) := by refine ⟨?_, ?_, ?_, ?_⟩ <;> omega
        refine T_ld 269 (.ref 189) rfl (fun _ => rfl) ?_
        refine T_ld 271 (.int (i32 ((m.2 80) w))) rfl (fun _ => rfl) ?_
        refine T_ld 272 (.int (i32 v187)) rfl (fun _ => rfl) ?_
        refine T_ld 274 (.int (i32 (m.1 69))) rfl (fun _ => rfl) ?_
        refine T_ld 275 (.long (i64 0)) rfl (fun _ => rfl) ?_
        refine T_call 278 248 [.ref 189, .int (i32 ((m.2 80) w)), .int (i32 v187), .int (i32 (m.1 69)), .long (i64 0)] [.int (i32 x184)] rfl (fun _ => rfl) rfl (c_node w (mO m [(10, 0), (11, y189), (28, (m.1 28)), (69, (m.1 69)), (70, (m.1 70)), (71, (m.1 71)), (72, (m.1 72))] [(65, (m.2 65)), (66, (m.2 66)), (67, (m.2 67)), (68, (m.2 68)), (80, upI (m.2 80) w (-1))]) c N D (by omega) (Ty_mO hT rfl rfl ⟨⟨(by omega : (0 : Int) ≤ 0), (by omega : (0 : Int) ≤ 8)⟩, q193, f28, f69, f70, f71, f72, trivial⟩ ⟨(hT.2.1 65), (hT.2.1 66), (hT.2.1 67), (hT.2.1 68), G198, trivial⟩) ((m.2 80) w) v187 (m.1 69) 0 B (1 + lh (m.2 79) (m.2 80) (m.1 73)) (r32 (by omega) (by omega)) (r32 (by omega) (by omega)) (r32 (by omega) (by omega)) ⟨by decide, by decide⟩ (fun _ => ⟨(show 0 ≤ ((m.2 80) w) ∧ ((m.2 80) w) ≤ 408 by first | omega | decide), (show 0 ≤ v187 ∧ v187 ≤ 64 by first | omega | decide), (show 0 ≤ (m.1 69) ∧ (m.1 69) ≤ 191 by first | omega | decide), (show CNk ((m.2 80) w) (m.1 69) by first | exact hCk | (refine ⟨?_, ?_, ?_, ?_⟩ <;> omega)), (show ar ((m.2 80) w) ≤ (1 + lh (m.2 79) (m.2 80) (m.1 73)) by first | exact hAr | omega), (show EX (m.2 65) (m.2 67) B (m.1 28) (1 + lh (m.2 79) (m.2 80) (m.1 73)) by first | exact hEX | assumption)⟩)) (fun rr199 k200 => ?_)
        obtain ⟨y201, y203, y205, F207, F209, F211, F213, g202, g204, g206, G208, G210, G212, G214, h215, c216, rfl⟩ := k200
        refine ⟨_, _, rfl, ?_⟩
        refine T_nf (st' := [.int (i32 x184)]) (l' := [(10, y201), (11, y203), (28, y205), (69, (m.1 69)), (70, (m.1 70)), (71, (m.1 71)), (72, (m.1 72))]) (a' := [(65, F207), (66, F209), (67, F211), (68, F213), (80, upI (m.2 80) w (-1))]) rfl rfl rfl rfl rfl ?_
        by_cases hf217 : y201 = 0
        · skip
          subst hf217
          replace h215 : (0 : Int) = 0 := h215 rfl
          obtain ⟨c218, c219, c220⟩ := c216 rfl
          replace c218 : y205 = (m.1 28) + 1 := c218
          replace c219 : EX F207 F211 B y205 ((1 + lh (m.2 79) (m.2 80) (m.1 73)) + 1 - ar ((m.2 80) w)) := c219
          have hEX := c219
          replace c220 : agr (m.2 65) F207 (m.1 28) := c220
          have hAg := c220
          clear c216
          clear q192 q193 g202
          have hXE : XS F207 F211 (m.2 76) (m.2 78) (m.2 79) (upI (m.2 80) w (-1)) B y205 (m.1 73) (m.1 74) 1 := XS_of (XS_ws (x := -1) (U' := 1) hXS (by omega) (by omega) (by omega) (by rw [if_neg (by omega)]; have := cn1_0 (m.2 80) w; omega)) hEX (by omega)
          refine T_ld 279 (.ref 189) rfl (fun _ => rfl) ?_
          refine T_ld 280 (.int (i32 v187)) rfl (fun _ => rfl) ?_
          refine T_ld 281 (.int (i32 ((m.2 82) w))) rfl (fun _ => rfl) ?_
          refine T_call 284 250 [.ref 189, .int (i32 v187), .int (i32 ((m.2 82) w))] [.int (i32 x184)] rfl (fun _ => rfl) rfl (c_unit w (mO m [(10, 0), (11, y203), (28, y205), (69, (m.1 69)), (70, (m.1 70)), (71, (m.1 71)), (72, (m.1 72))] [(65, F207), (66, F209), (67, F211), (68, F213), (80, upI (m.2 80) w (-1))]) c N D (by omega) (Ty_mO hT rfl rfl ⟨⟨(by omega : (0 : Int) ≤ 0), (by omega : (0 : Int) ≤ 8)⟩, g204, g206, f69, f70, f71, f72, trivial⟩ ⟨G208, G210, G212, G214, G198, trivial⟩) v187 ((m.2 82) w) (r32 (by omega) (by omega)) (r32 (by omega) (by omega)) (show 0 ≤ v187 ∧ v187 ≤ 1024 by omega) (show 0 ≤ ((m.2 82) w) ∧ ((m.2 82) w) ≤ 4000 by omega)) (fun rr221 k222 => ?_)
          obtain ⟨y223, y225, y227, y229, g224, g226, g228, g230, h231, rfl⟩ := k222
          refine ⟨_, _, rfl, ?_⟩
          refine T_nf (st' := [.int (i32 x184)]) (l' := [(10, 0), (11, y203), (28, y205), (69, y223), (70, y225), (71, y227), (72, y229)]) (a' := [(65, F207), (66, F209), (67, F211), (68, F213), (80, upI (m.2 80) w (-1))]) rfl rfl rfl rfl rfl ?_
          replace h231 : y223 = v187 := h231
          refine T_ret rfl (fun _ => rfl) ?_
          exact ⟨0, y203, y205, y223, y225, y227, y229, F207, F209, F211, F213, upI (m.2 80) w (-1), ⟨by omega, by omega⟩, g204, g206, g224, g226, g228, g230, G208, G210, G212, G214, G198, (by omega), (by omega), (fun _ => ⟨(by omega), (by omega), (by first | (exact hXE) | (exfalso; omega)), (by first | (exact hAg) | (exfalso; omega)), (by rfl)⟩), rfl⟩
        · skip
          clear c216
          clear h215
          have hf232 : 1 ≤ y201 := by omega
          clear q192 q193
          exact J278_36 v187 y201 y203 y205 F207 F209 F211 F213 (upI (m.2 80) w (-1)) (r32 (by omega) (by omega)) g202 g204 g206 G208 G210 G212 G214 G198 (by omega) (by omega) (by omega)
      · skip
        clear c195
        have hf233 : 1 ≤ y188 := by omega
        refine T_gf 265 (.ref 242) rfl rfl rfl rfl rfl rfl ?_
        refine T_ld 266 (.int (i32 w)) rfl (fun _ => rfl) ?_
        refine T_ld 267 (.int (i32 (-1))) rfl (fun _ => rfl) ?_
        have G234 : ∀ j, (-1) ≤ (upI (m.2 80) w (-1)) j ∧ (upI (m.2 80) w (-1)) j ≤ 330 := upI_rg (hT.2.1 80) ⟨by omega, by omega⟩
        refine T_iast (a' := [(65, (m.2 65)), (66, (m.2 66)), (67, (m.2 67)), (68, (m.2 68)), (80, upI (m.2 80) w (-1))]) 268 80 (m.2 80) rfl rfl rfl (by omega) (show w < (540 : Int) by omega) rfl rfl ?_
        refine T_ld 269 (.ref 189) rfl (fun _ => rfl) ?_
        refine T_ld 271 (.int (i32 ((m.2 80) w))) rfl (fun _ => rfl) ?_
        refine T_ld 272 (.int (i32 v187)) rfl (fun _ => rfl) ?_
        refine T_ld 274 (.int (i32 (m.1 69))) rfl (fun _ => rfl) ?_
        refine T_ld 275 (.long (i64 0)) rfl (fun _ => rfl) ?_
        refine T_call 278 248 [.ref 189, .int (i32 ((m.2 80) w)), .int (i32 v187), .int (i32 (m.1 69)), .long (i64 0)] [.int (i32 x184)] rfl (fun _ => rfl) rfl (c_node w (mO m [(10, y188), (11, y189), (28, (m.1 28)), (69, (m.1 69)), (70, (m.1 70)), (71, (m.1 71)), (72, (m.1 72))] [(65, (m.2 65)), (66, (m.2 66)), (67, (m.2 67)), (68, (m.2 68)), (80, upI (m.2 80) w (-1))]) c N D (by omega) (Ty_mO hT rfl rfl ⟨q192, q193, f28, f69, f70, f71, f72, trivial⟩ ⟨(hT.2.1 65), (hT.2.1 66), (hT.2.1 67), (hT.2.1 68), G234, trivial⟩) ((m.2 80) w) v187 (m.1 69) 0 B (1 + lh (m.2 79) (m.2 80) (m.1 73)) (r32 (by omega) (by omega)) (r32 (by omega) (by omega)) (r32 (by omega) (by omega)) ⟨by decide, by decide⟩ (fun (h : y188 = 0) => absurd h (by omega))) (fun rr235 k236 => ?_)
        obtain ⟨y237, y239, y241, F243, F245, F247, F249, g238, g240, g242, G244, G246, G248, G250, h251, c252, rfl⟩ := k236
        refine ⟨_, _, rfl, ?_⟩
        refine T_nf (st' := [.int (i32 x184)]) (l' := [(10, y237), (11, y239), (28, y241), (69, (m.1 69)), (70, (m.1 70)), (71, (m.1 71)), (72, (m.1 72))]) (a' := [(65, F243), (66, F245), (67, F247), (68, F249), (80, upI (m.2 80) w (-1))]) rfl rfl rfl rfl rfl ?_
        replace h251 : y237 = 0 → y188 = 0 := h251
        have hf253 : 1 ≤ y237 := by omega
        clear c252
        clear h251
        clear q192 q193 hf233
        exact J278_36 v187 y237 y239 y241 F243 F245 F247 F249 (upI (m.2 80) w (-1)) (r32 (by omega) (by omega)) g238 g240 g242 G244 G246 G248 G250 G234 (by omega) (by omega) (by omega)
    have T88_254 : TT w D pm_260 (88, [(5, .int (i32 (m.1 69))), (4, .int (i32 ((m.2 80) w))), (3, .int (i32 ((m.2 82) w))), (2, .int (i32 ((m.2 81) w))), (0, .ref 189), (1, .int (i32 w))], [], (mhp (mO m [(10, (m.1 10)), (11, (m.1 11)), (28, (m.1 28)), (69, (m.1 69)), (70, (m.1 70)), (71, (m.1 71)), (72, (m.1 72))] [(65, (m.2 65)), (66, (m.2 66)), (67, (m.2 67)), (68, (m.2 68)), (80, (m.2 80))]) c, N), 0, 0) (Q_join m c N w B) := by
      refine T_ld 89 (.ref 189) rfl (fun _ => rfl) ?_
      refine T_ld 90 (.int (i32 ((m.2 81) w))) rfl (fun _ => rfl) ?_
      refine T_gf 94 (.ref 245) rfl rfl rfl rfl rfl rfl ?_
      refine T_ld 95 (.int (i32 w)) rfl (fun _ => rfl) ?_
      refine T_bald 96 83 (m.2 83) rfl rfl rfl (by omega) (show w < (540 : Int) by omega) rfl ?_
      have e255 : 0 ≤ m.2 83 w ∧ m.2 83 w ≤ 1 := hT.2.1 83 w
      refine T_gf 100 (.ref 246) rfl rfl rfl rfl rfl rfl ?_
      refine T_ld 101 (.int (i32 w)) rfl (fun _ => rfl) ?_
      refine T_lald 102 84 (m.2 84) rfl rfl rfl (by omega) (show w < (540 : Int) by omega) rfl ?_
      have e256 : (-9223372036854775808) ≤ m.2 84 w ∧ m.2 84 w ≤ 9223372036854775807 := hT.2.1 84 w
      refine T_ld 103 (.int (i32 ((m.2 82) w))) rfl (fun _ => rfl) ?_
      refine T_call 106 258 [.ref 189, .int (i32 ((m.2 81) w)), .int (i32 ((m.2 83) w)), .long (i64 ((m.2 84) w)), .int (i32 ((m.2 82) w))] [] rfl (fun _ => rfl) rfl (c_wantBit w (mO m [(10, (m.1 10)), (11, (m.1 11)), (28, (m.1 28)), (69, (m.1 69)), (70, (m.1 70)), (71, (m.1 71)), (72, (m.1 72))] [(65, (m.2 65)), (66, (m.2 66)), (67, (m.2 67)), (68, (m.2 68)), (80, (m.2 80))]) c N D (by omega) (Ty_mO hT rfl rfl ⟨f10, f11, f28, f69, f70, f71, f72, trivial⟩ ⟨(hT.2.1 65), (hT.2.1 66), (hT.2.1 67), (hT.2.1 68), (hT.2.1 80), trivial⟩) ((m.2 81) w) ((m.2 83) w) ((m.2 84) w) ((m.2 82) w) (r32 (by omega) (by omega)) (r32 (by omega) (by omega)) (r64 (by omega) (by omega)) (r32 (by omega) (by omega)) (show 0 ≤ ((m.2 82) w) ∧ ((m.2 82) w) ≤ 4000 by omega) (fun _ => trivial)) (fun rr257 k258 => ?_)
      obtain ⟨y259, y261, g260, g262, h263, c264, rfl⟩ := k258
      refine ⟨_, _, rfl, ?_⟩
      refine T_nf (st' := []) (l' := [(10, y259), (11, y261), (28, (m.1 28)), (69, (m.1 69)), (70, (m.1 70)), (71, (m.1 71)), (72, (m.1 72))]) (a' := [(65, (m.2 65)), (66, (m.2 66)), (67, (m.2 67)), (68, (m.2 68)), (80, (m.2 80))]) rfl rfl rfl rfl rfl ?_
      by_cases hf265 : y259 = 0
      · skip
        subst hf265
        replace h263 : (m.1 10) = 0 := h263 rfl
        clear c264
        clear g185a g185b h186 g260
        refine T_ld 107 (.ref 189) rfl (fun _ => rfl) ?_
        refine T_gf 111 (.int (i32 (m.1 69))) rfl rfl rfl rfl rfl rfl ?_
        refine T_gf 115 (.int (i32 (m.1 71))) rfl rfl rfl rfl rfl rfl ?_
        refine T_gf 119 (.long (i64 (m.1 72))) rfl rfl rfl rfl rfl rfl ?_
        refine T_gf 123 (.int (i32 (m.1 70))) rfl rfl rfl rfl rfl rfl ?_
        refine T_call 126 258 [.ref 189, .int (i32 (m.1 69)), .int (i32 (m.1 71)), .long (i64 (m.1 72)), .int (i32 (m.1 70))] [] rfl (fun _ => rfl) rfl (c_wantBit w (mO m [(10, 0), (11, y261), (28, (m.1 28)), (69, (m.1 69)), (70, (m.1 70)), (71, (m.1 71)), (72, (m.1 72))] [(65, (m.2 65)), (66, (m.2 66)), (67, (m.2 67)), (68, (m.2 68)), (80, (m.2 80))]) c N D (by omega) (Ty_mO hT rfl rfl ⟨⟨(by omega : (0 : Int) ≤ 0), (by omega : (0 : Int) ≤ 8)⟩, g262, f28, f69, f70, f71, f72, trivial⟩ ⟨(hT.2.1 65), (hT.2.1 66), (hT.2.1 67), (hT.2.1 68), (hT.2.1 80), trivial⟩) (m.1 69) (m.1 71) (m.1 72) (m.1 70) (r32 (by omega) (by omega)) (r32 (by omega) (by omega)) (r64 (by omega) (by omega)) (r32 (by omega) (by omega)) (show 0 ≤ (m.1 70) ∧ (m.1 70) ≤ 4000 by omega) (fun _ => trivial)) (fun rr266 k267 => ?_)
        obtain ⟨y268, y270, g269, g271, h272, c273, rfl⟩ := k267
        refine ⟨_, _, rfl, ?_⟩
        refine T_nf (st' := []) (l' := [(10, y268), (11, y270), (28, (m.1 28)), (69, (m.1 69)), (70, (m.1 70)), (71, (m.1 71)), (72, (m.1 72))]) (a' := [(65, (m.2 65)), (66, (m.2 66)), (67, (m.2 67)), (68, (m.2 68)), (80, (m.2 80))]) rfl rfl rfl rfl rfl ?_
        by_cases hf274 : y268 = 0
        · skip
          subst hf274
          replace h272 : (0 : Int) = 0 := h272 rfl
          clear c273
          clear g262 g269
          refine T_ld 127 (.int (i32 1)) rfl (fun _ => rfl) ?_
          refine T_sto 128 [(2, .int (i32 1)), (5, .int (i32 (m.1 69))), (4, .int (i32 ((m.2 80) w))), (3, .int (i32 ((m.2 82) w))), (0, .ref 189), (1, .int (i32 w))] rfl (fun _ => rfl) ?_
          refine T_goto 261 rfl (fun _ => rfl) ?_
          refine Tm_lv (a := [(0, .ref 189), (1, .int (i32 w)), (2, .int (i32 1)), (3, .int (i32 ((m.2 82) w))), (4, .int (i32 ((m.2 80) w))), (5, .int (i32 (m.1 69)))]) rfl rfl ⟨rfl, rfl, rfl, rfl, rfl, rfl, trivial⟩ ?_
          exact J261_190 1 0 y270 ⟨by decide, by decide⟩ ⟨by omega, by omega⟩ g271 (by omega) (fun _ => (by omega))
        · skip
          clear c273
          clear h272
          have hf275 : 1 ≤ y268 := by omega
          clear g262
          refine Tm_lv (a := [(0, .ref 189), (1, .int (i32 w)), (2, .int (i32 ((m.2 81) w))), (3, .int (i32 ((m.2 82) w))), (4, .int (i32 ((m.2 80) w))), (5, .int (i32 (m.1 69)))]) rfl rfl ⟨rfl, rfl, rfl, rfl, rfl, rfl, trivial⟩ ?_
          exact J126_151 y268 y270 g269 g271 (by omega) (by omega) (by omega)
      · skip
        clear c264
        clear h263
        have hf276 : 1 ≤ y259 := by omega
        clear g185a g185b h186
        refine T_ld 107 (.ref 189) rfl (fun _ => rfl) ?_
        refine T_gf 111 (.int (i32 (m.1 69))) rfl rfl rfl rfl rfl rfl ?_
        refine T_gf 115 (.int (i32 (m.1 71))) rfl rfl rfl rfl rfl rfl ?_
        refine T_gf 119 (.long (i64 (m.1 72))) rfl rfl rfl rfl rfl rfl ?_
        refine T_gf 123 (.int (i32 (m.1 70))) rfl rfl rfl rfl rfl rfl ?_
        refine T_call 126 258 [.ref 189, .int (i32 (m.1 69)), .int (i32 (m.1 71)), .long (i64 (m.1 72)), .int (i32 (m.1 70))] [] rfl (fun _ => rfl) rfl (c_wantBit w (mO m [(10, y259), (11, y261), (28, (m.1 28)), (69, (m.1 69)), (70, (m.1 70)), (71, (m.1 71)), (72, (m.1 72))] [(65, (m.2 65)), (66, (m.2 66)), (67, (m.2 67)), (68, (m.2 68)), (80, (m.2 80))]) c N D (by omega) (Ty_mO hT rfl rfl ⟨g260, g262, f28, f69, f70, f71, f72, trivial⟩ ⟨(hT.2.1 65), (hT.2.1 66), (hT.2.1 67), (hT.2.1 68), (hT.2.1 80), trivial⟩) (m.1 69) (m.1 71) (m.1 72) (m.1 70) (r32 (by omega) (by omega)) (r32 (by omega) (by omega)) (r64 (by omega) (by omega)) (r32 (by omega) (by omega)) (show 0 ≤ (m.1 70) ∧ (m.1 70) ≤ 4000 by omega) (fun (h : y259 = 0) => absurd h (by omega))) (fun rr277 k278 => ?_)
        obtain ⟨y279, y281, g280, g282, h283, c284, rfl⟩ := k278
        refine ⟨_, _, rfl, ?_⟩
        refine T_nf (st' := []) (l' := [(10, y279), (11, y281), (28, (m.1 28)), (69, (m.1 69)), (70, (m.1 70)), (71, (m.1 71)), (72, (m.1 72))]) (a' := [(65, (m.2 65)), (66, (m.2 66)), (67, (m.2 67)), (68, (m.2 68)), (80, (m.2 80))]) rfl rfl rfl rfl rfl ?_
        replace h283 : y279 = 0 → y259 = 0 := h283
        have hf285 : 1 ≤ y279 := by omega
        clear c284
        clear h283
        clear g260 g262 hf276
        refine Tm_lv (a := [(0, .ref 189), (1, .int (i32 w)), (2, .int (i32 ((m.2 81) w))), (3, .int (i32 ((m.2 82) w))), (4, .int (i32 ((m.2 80) w))), (5, .int (i32 (m.1 69)))]) rfl rfl ⟨rfl, rfl, rfl, rfl, rfl, rfl, trivial⟩ ?_
        exact J126_151 y279 y281 g280 g282 (by omega) (by omega) (by omega)
    have T207_286 : TT w D pm_260 (207, [(5, .int (i32 (m.1 69))), (4, .int (i32 ((m.2 80) w))), (3, .int (i32 ((m.2 82) w))), (2, .int (i32 ((m.2 81) w))), (0, .ref 189), (1, .int (i32 w))], [], (mhp (mO m [(10, (m.1 10)), (11, (m.1 11)), (28, (m.1 28)), (69, (m.1 69)), (70, (m.1 70)), (71, (m.1 71)), (72, (m.1 72))] [(65, (m.2 65)), (66, (m.2 66)), (67, (m.2 67)), (68, (m.2 68)), (80, (m.2 80))]) c, N), 0, 0) (Q_join m c N w B) := by
      refine T_ld 208 (.ref 189) rfl (fun _ => rfl) ?_
      refine T_ld 209 (.int (i32 ((m.2 81) w))) rfl (fun _ => rfl) ?_
      refine T_gf 213 (.ref 245) rfl rfl rfl rfl rfl rfl ?_
      refine T_ld 214 (.int (i32 w)) rfl (fun _ => rfl) ?_
      refine T_bald 215 83 (m.2 83) rfl rfl rfl (by omega) (show w < (540 : Int) by omega) rfl ?_
      have e287 : 0 ≤ m.2 83 w ∧ m.2 83 w ≤ 1 := hT.2.1 83 w
      refine T_gf 219 (.ref 246) rfl rfl rfl rfl rfl rfl ?_
      refine T_ld 220 (.int (i32 w)) rfl (fun _ => rfl) ?_
      refine T_lald 221 84 (m.2 84) rfl rfl rfl (by omega) (show w < (540 : Int) by omega) rfl ?_
      have e288 : (-9223372036854775808) ≤ m.2 84 w ∧ m.2 84 w ≤ 9223372036854775807 := hT.2.1 84 w
      refine T_ld 222 (.int (i32 ((m.2 82) w))) rfl (fun _ => rfl) ?_
      refine T_gf 226 (.int (i32 (m.1 69))) rfl rfl rfl rfl rfl rfl ?_
      refine T_gf 230 (.int (i32 (m.1 71))) rfl rfl rfl rfl rfl rfl ?_
      refine T_gf 234 (.long (i64 (m.1 72))) rfl rfl rfl rfl rfl rfl ?_
      refine T_gf 238 (.int (i32 (m.1 70))) rfl rfl rfl rfl rfl rfl ?_
      refine T_call 241 261 [.ref 189, .int (i32 ((m.2 81) w)), .int (i32 ((m.2 83) w)), .long (i64 ((m.2 84) w)), .int (i32 ((m.2 82) w)), .int (i32 (m.1 69)), .int (i32 (m.1 71)), .long (i64 (m.1 72)), .int (i32 (m.1 70))] [] rfl (fun _ => rfl) rfl (c_common w (mO m [(10, (m.1 10)), (11, (m.1 11)), (28, (m.1 28)), (69, (m.1 69)), (70, (m.1 70)), (71, (m.1 71)), (72, (m.1 72))] [(65, (m.2 65)), (66, (m.2 66)), (67, (m.2 67)), (68, (m.2 68)), (80, (m.2 80))]) c N D (by omega) (Ty_mO hT rfl rfl ⟨f10, f11, f28, f69, f70, f71, f72, trivial⟩ ⟨(hT.2.1 65), (hT.2.1 66), (hT.2.1 67), (hT.2.1 68), (hT.2.1 80), trivial⟩) ((m.2 81) w) ((m.2 83) w) ((m.2 84) w) ((m.2 82) w) (m.1 69) (m.1 71) (m.1 72) (m.1 70) (r32 (by omega) (by omega)) (r32 (by omega) (by omega)) (r64 (by omega) (by omega)) (r32 (by omega) (by omega)) (r32 (by omega) (by omega)) (r32 (by omega) (by omega)) (r64 (by omega) (by omega)) (r32 (by omega) (by omega)) (show 0 ≤ ((m.2 82) w) ∧ ((m.2 82) w) ≤ 4000 by omega) (show 0 ≤ (m.1 70) ∧ (m.1 70) ≤ 4000 by omega) (show 0 ≤ ((m.2 81) w) ∧ ((m.2 81) w) ≤ 1024 by omega) (show 0 ≤ (m.1 69) ∧ (m.1 69) ≤ 1024 by omega) (fun _ => trivial)) (fun rr289 k290 => ?_)
      obtain ⟨y291, y293, x295, g292, g294, g296, h297, h298, c299, rfl⟩ := k290
      refine ⟨_, _, rfl, ?_⟩
      refine T_nf (st' := [.int (i32 x295)]) (l' := [(10, y291), (11, y293), (28, (m.1 28)), (69, (m.1 69)), (70, (m.1 70)), (71, (m.1 71)), (72, (m.1 72))]) (a' := [(65, (m.2 65)), (66, (m.2 66)), (67, (m.2 67)), (68, (m.2 68)), (80, (m.2 80))]) rfl rfl rfl rfl rfl ?_
      obtain ⟨g296a, g296b⟩ := g296
      by_cases hf300 : y291 = 0
      · skip
        subst hf300
        replace h297 : (m.1 10) = 0 := h297 rfl
        replace h298 : x295 = 64 ∨ x295 = ((m.2 81) w) ∨ x295 = (m.1 69) := h298
        clear c299
        clear g185a g185b h186 g292
        refine T_sto 242 [(2, .int (i32 x295)), (5, .int (i32 (m.1 69))), (4, .int (i32 ((m.2 80) w))), (3, .int (i32 ((m.2 82) w))), (0, .ref 189), (1, .int (i32 w))] rfl (fun _ => rfl) ?_
        refine T_gf 246 (.ref 242) rfl rfl rfl rfl rfl rfl ?_
        refine T_ld 247 (.int (i32 w)) rfl (fun _ => rfl) ?_
        refine T_iald 248 80 (m.2 80) rfl rfl rfl (by omega) (show w < (540 : Int) by omega) rfl ?_
        have e301 : (-1) ≤ (m.2 80) w ∧ (m.2 80) w ≤ 330 := (hT.2.1 80) w
        refine T_call 251 259 [.int (i32 ((m.2 80) w))] [] rfl (fun _ => rfl) rfl (c_level w (mO m [(10, 0), (11, y293), (28, (m.1 28)), (69, (m.1 69)), (70, (m.1 70)), (71, (m.1 71)), (72, (m.1 72))] [(65, (m.2 65)), (66, (m.2 66)), (67, (m.2 67)), (68, (m.2 68)), (80, (m.2 80))]) c N D (by omega) (Ty_mO hT rfl rfl ⟨⟨(by omega : (0 : Int) ≤ 0), (by omega : (0 : Int) ≤ 8)⟩, g294, f28, f69, f70, f71, f72, trivial⟩ ⟨(hT.2.1 65), (hT.2.1 66), (hT.2.1 67), (hT.2.1 68), (hT.2.1 80), trivial⟩) ((m.2 80) w) (r32 (by omega) (by omega))) (fun rr302 k303 => ?_)
        obtain ⟨x304, g305, h306, rfl⟩ := k303
        refine ⟨_, _, rfl, ?_⟩
        refine T_nf (st' := [.int (i32 x304)]) (l' := [(10, 0), (11, y293), (28, (m.1 28)), (69, (m.1 69)), (70, (m.1 70)), (71, (m.1 71)), (72, (m.1 72))]) (a' := [(65, (m.2 65)), (66, (m.2 66)), (67, (m.2 67)), (68, (m.2 68)), (80, (m.2 80))]) rfl rfl rfl rfl rfl ?_
        obtain ⟨g305a, g305b⟩ := g305
        replace h306 : 0 ≤ x304 → 4 ≤ ((m.2 80) w) ∧ ((m.2 80) w) ≤ 124 := h306
        refine T_ld 252 (.int (i32 2)) rfl (fun _ => rfl) ?_
        refine T_icmp 259 255 rfl rfl rfl (r32 (by omega) (by omega)) ⟨by decide, by decide⟩ (fun (h307 : x304 ≠ 2) => ?_) (fun (h307 : ¬ (x304 ≠ 2)) => ?_)
        · skip
          refine T_ld 260 (.int (i32 x295)) rfl (fun _ => rfl) ?_
          refine T_sto 261 [(2, .int (i32 x295)), (5, .int (i32 (m.1 69))), (4, .int (i32 ((m.2 80) w))), (3, .int (i32 ((m.2 82) w))), (0, .ref 189), (1, .int (i32 w))] rfl (fun _ => rfl) ?_
          refine Tm_lv (a := [(0, .ref 189), (1, .int (i32 w)), (2, .int (i32 x295)), (3, .int (i32 ((m.2 82) w))), (4, .int (i32 ((m.2 80) w))), (5, .int (i32 (m.1 69)))]) rfl rfl ⟨rfl, rfl, rfl, rfl, rfl, rfl, trivial⟩ ?_
          exact J261_190 x295 0 y293 (r32 (by omega) (by omega)) ⟨by omega, by omega⟩ g294 (by omega) (fun _ => (by omega))
        · skip
          refine T_ld 256 (.int (i32 1)) rfl (fun _ => rfl) ?_
          refine T_goto 260 rfl (fun _ => rfl) ?_
          refine T_sto 261 [(2, .int (i32 1)), (5, .int (i32 (m.1 69))), (4, .int (i32 ((m.2 80) w))), (3, .int (i32 ((m.2 82) w))), (0, .ref 189), (1, .int (i32 w))] rfl (fun _ => rfl) ?_
          refine Tm_lv (a := [(0, .ref 189), (1, .int (i32 w)), (2, .int (i32 1)), (3, .int (i32 ((m.2 82) w))), (4, .int (i32 ((m.2 80) w))), (5, .int (i32 (m.1 69)))]) rfl rfl ⟨rfl, rfl, rfl, rfl, rfl, rfl, trivial⟩ ?_
          exact J261_190 1 0 y293 ⟨by decide, by decide⟩ ⟨by omega, by omega⟩ g294 (by omega) (fun _ => (by omega))
      · skip
        clear c299
        clear h297
        replace h298 : x295 = 64 ∨ x295 = ((m.2 81) w) ∨ x295 = (m.1 69) := h298
        have hf308 : 1 ≤ y291 := by omega
        clear g185a g185b h186
        refine T_sto 242 [(2, .int (i32 x295)), (5, .int (i32 (m.1 69))), (4, .int (i32 ((m.2 80) w))), (3, .int (i32 ((m.2 82) w))), (0, .ref 189), (1, .int (i32 w))] rfl (fun _ => rfl) ?_
        refine T_gf 246 (.ref 242) rfl rfl rfl rfl rfl rfl ?_
        refine T_ld 247 (.int (i32 w)) rfl (fun _ => rfl) ?_
        refine T_iald 248 80 (m.2 80) rfl rfl rfl (by omega) (show w < (540 : Int) by omega) rfl ?_
        have e309 : (-1) ≤ (m.2 80) w ∧ (m.2 80) w ≤ 330 := (hT.2.1 80) w
        refine T_call 251 259 [.int (i32 ((m.2 80) w))] [] rfl (fun _ => rfl) rfl (c_level w (mO m [(10, y291), (11, y293), (28, (m.1 28)), (69, (m.1 69)), (70, (m.1 70)), (71, (m.1 71)), (72, (m.1 72))] [(65, (m.2 65)), (66, (m.2 66)), (67, (m.2 67)), (68, (m.2 68)), (80, (m.2 80))]) c N D (by omega) (Ty_mO hT rfl rfl ⟨g292, g294, f28, f69, f70, f71, f72, trivial⟩ ⟨(hT.2.1 65), (hT.2.1 66), (hT.2.1 67), (hT.2.1 68), (hT.2.1 80), trivial⟩) ((m.2 80) w) (r32 (by omega) (by omega))) (fun rr310 k311 => ?_)
        obtain ⟨x312, g313, h314, rfl⟩ := k311
        refine ⟨_, _, rfl, ?_⟩
        refine T_nf (st' := [.int (i32 x312)]) (l' := [(10, y291), (11, y293), (28, (m.1 28)), (69, (m.1 69)), (70, (m.1 70)), (71, (m.1 71)), (72, (m.1 72))]) (a' := [(65, (m.2 65)), (66, (m.2 66)), (67, (m.2 67)), (68, (m.2 68)), (80, (m.2 80))]) rfl rfl rfl rfl rfl ?_
        obtain ⟨g313a, g313b⟩ := g313
        replace h314 : 0 ≤ x312 → 4 ≤ ((m.2 80) w) ∧ ((m.2 80) w) ≤ 124 := h314
        refine T_ld 252 (.int (i32 2)) rfl (fun _ => rfl) ?_
        refine T_icmp 259 255 rfl rfl rfl (r32 (by omega) (by omega)) ⟨by decide, by decide⟩ (fun (h315 : x312 ≠ 2) => ?_) (fun (h315 : ¬ (x312 ≠ 2)) => ?_)
        · skip
          refine T_ld 260 (.int (i32 x295)) rfl (fun _ => rfl) ?_
          refine T_sto 261 [(2, .int (i32 x295)), (5, .int (i32 (m.1 69))), (4, .int (i32 ((m.2 80) w))), (3, .int (i32 ((m.2 82) w))), (0, .ref 189), (1, .int (i32 w))] rfl (fun _ => rfl) ?_
          refine Tm_lv (a := [(0, .ref 189), (1, .int (i32 w)), (2, .int (i32 x295)), (3, .int (i32 ((m.2 82) w))), (4, .int (i32 ((m.2 80) w))), (5, .int (i32 (m.1 69)))]) rfl rfl ⟨rfl, rfl, rfl, rfl, rfl, rfl, trivial⟩ ?_
          exact J261_190 x295 y291 y293 (r32 (by omega) (by omega)) g292 g294 (by omega) (fun h => absurd h (by omega))
        · skip
          refine T_ld 256 (.int (i32 1)) rfl (fun _ => rfl) ?_
          refine T_goto 260 rfl (fun _ => rfl) ?_
          refine T_sto 261 [(2, .int (i32 1)), (5, .int (i32 (m.1 69))), (4, .int (i32 ((m.2 80) w))), (3, .int (i32 ((m.2 82) w))), (0, .ref 189), (1, .int (i32 w))] rfl (fun _ => rfl) ?_
          refine Tm_lv (a := [(0, .ref 189), (1, .int (i32 w)), (2, .int (i32 1)), (3, .int (i32 ((m.2 82) w))), (4, .int (i32 ((m.2 80) w))), (5, .int (i32 (m.1 69)))]) rfl rfl ⟨rfl, rfl, rfl, rfl, rfl, rfl, trivial⟩ ?_
          exact J261_190 1 y291 y293 ⟨by decide, by decide⟩ g292 g294 (by omega) (fun h => absurd h (by omega))
    by_cases h316 : x184 = 0
    · skip
      refine T_cast 0 h316 ?_
      refine T_pop 88 rfl (fun _ => rfl) ?_
      exact T88_254
    by_cases h317 : x184 = 1
    · skip
      refine T_cast 1 h317 ?_
      refine T_pop 88 rfl (fun _ => rfl) ?_
      exact T88_254
    by_cases h318 : x184 = 6
    · skip
      refine T_cast 6 h318 ?_
      refine T_pop 131 rfl (fun _ => rfl) ?_
      refine T_goto 261 rfl (fun _ => rfl) ?_
      refine Tm_lv (a := [(0, .ref 189), (1, .int (i32 w)), (2, .int (i32 ((m.2 81) w))), (3, .int (i32 ((m.2 82) w))), (4, .int (i32 ((m.2 80) w))), (5, .int (i32 (m.1 69)))]) rfl rfl ⟨rfl, rfl, rfl, rfl, rfl, rfl, trivial⟩ ?_
      exact J261_190 ((m.2 81) w) (m.1 10) (m.1 11) (r32 (by omega) (by omega)) f10 f11 (by omega) (fun _ => (by omega))
    by_cases h319 : x184 = 8
    · skip
      refine T_cast 8 h319 ?_
      refine T_pop 134 rfl (fun _ => rfl) ?_
      refine T_ld 135 (.ref 189) rfl (fun _ => rfl) ?_
      refine T_gf 139 (.ref 245) rfl rfl rfl rfl rfl rfl ?_
      refine T_ld 140 (.int (i32 w)) rfl (fun _ => rfl) ?_
      refine T_bald 141 83 (m.2 83) rfl rfl rfl (by omega) (show w < (540 : Int) by omega) rfl ?_
      have e320 : 0 ≤ m.2 83 w ∧ m.2 83 w ≤ 1 := hT.2.1 83 w
      refine T_if 148 144 rfl rfl rfl (r32 (by omega) (by omega)) (fun (h321 : (m.2 83) w ≠ 0) => ?_) (fun (h321 : ¬ ((m.2 83) w ≠ 0)) => ?_)
      · skip
        refine T_ld 149 (.int (i32 0)) rfl (fun _ => rfl) ?_
        refine T_ld 150 (.int (i32 ((m.2 82) w))) rfl (fun _ => rfl) ?_
        refine T_call 153 256 [.ref 189, .int (i32 0), .int (i32 ((m.2 82) w))] [] rfl (fun _ => rfl) rfl (c_want w (mO m [(10, (m.1 10)), (11, (m.1 11)), (28, (m.1 28)), (69, (m.1 69)), (70, (m.1 70)), (71, (m.1 71)), (72, (m.1 72))] [(65, (m.2 65)), (66, (m.2 66)), (67, (m.2 67)), (68, (m.2 68)), (80, (m.2 80))]) c N D (by omega) (Ty_mO hT rfl rfl ⟨f10, f11, f28, f69, f70, f71, f72, trivial⟩ ⟨(hT.2.1 65), (hT.2.1 66), (hT.2.1 67), (hT.2.1 68), (hT.2.1 80), trivial⟩) 0 ((m.2 82) w) ⟨by decide, by decide⟩ (r32 (by omega) (by omega)) (show 0 ≤ ((m.2 82) w) ∧ ((m.2 82) w) ≤ 4000 by omega) (fun _ => trivial)) (fun rr322 k323 => ?_)
        obtain ⟨y324, y326, g325, g327, h328, c329, rfl⟩ := k323
        refine ⟨_, _, rfl, ?_⟩
        refine T_nf (st' := []) (l' := [(10, y324), (11, y326), (28, (m.1 28)), (69, (m.1 69)), (70, (m.1 70)), (71, (m.1 71)), (72, (m.1 72))]) (a' := [(65, (m.2 65)), (66, (m.2 66)), (67, (m.2 67)), (68, (m.2 68)), (80, (m.2 80))]) rfl rfl rfl rfl rfl ?_
        by_cases hf330 : y324 = 0
        · skip
          subst hf330
          replace h328 : (m.1 10) = 0 := h328 rfl
          have c331 := c329 rfl
          replace c331 : (0 : Int) ≠ 0 := c331
          clear c329
          clear g185a g185b h186 g325
          refine T_ld 154 (.ref 189) rfl (fun _ => rfl) ?_
          refine T_gf 158 (.int (i32 (m.1 71))) rfl rfl rfl rfl rfl rfl ?_
          refine T_if 165 161 rfl rfl rfl (r32 (by omega) (by omega)) (fun (h332 : (m.1 71) ≠ 0) => ?_) (fun (h332 : ¬ ((m.1 71) ≠ 0)) => ?_)
          · skip
            refine T_ld 166 (.int (i32 0)) rfl (fun _ => rfl) ?_
            refine T_gf 170 (.int (i32 (m.1 70))) rfl rfl rfl rfl rfl rfl ?_
            refine T_call 173 256 [.ref 189, .int (i32 0), .int (i32 (m.1 70))] [] rfl (fun _ => rfl) rfl (c_want w (mO m [(10, 0), (11, y326), (28, (m.1 28)), (69, (m.1 69)), (70, (m.1 70)), (71, (m.1 71)), (72, (m.1 72))] [(65, (m.2 65)), (66, (m.2 66)), (67, (m.2 67)), (68, (m.2 68)), (80, (m.2 80))]) c N D (by omega) (Ty_mO hT rfl rfl ⟨⟨(by omega : (0 : Int) ≤ 0), (by omega : (0 : Int) ≤ 8)⟩, g327, f28, f69, f70, f71, f72, trivial⟩ ⟨(hT.2.1 65), (hT.2.1 66), (hT.2.1 67), (hT.2.1 68), (hT.2.1 80), trivial⟩) 0 (m.1 70) ⟨by decide, by decide⟩ (r32 (by omega) (by omega)) (show 0 ≤ (m.1 70) ∧ (m.1 70) ≤ 4000 by omega) (fun _ => trivial)) (fun rr333 k334 => ?_)
            obtain ⟨y335, y337, g336, g338, h339, c340, rfl⟩ := k334
            refine ⟨_, _, rfl, ?_⟩
            refine T_nf (st' := []) (l' := [(10, y335), (11, y337), (28, (m.1 28)), (69, (m.1 69)), (70, (m.1 70)), (71, (m.1 71)), (72, (m.1 72))]) (a' := [(65, (m.2 65)), (66, (m.2 66)), (67, (m.2 67)), (68, (m.2 68)), (80, (m.2 80))]) rfl rfl rfl rfl rfl ?_
            by_cases hf341 : y335 = 0
            · skip
              subst hf341
              replace h339 : (0 : Int) = 0 := h339 rfl
              have c342 := c340 rfl
              replace c342 : (0 : Int) ≠ 0 := c342
              clear c340
              clear g327 g336
              refine T_ld 174 (.ref 189) rfl (fun _ => rfl) ?_
              refine T_ld 175 (.int (i32 ((m.2 81) w))) rfl (fun _ => rfl) ?_
              refine T_gf 179 (.int (i32 (m.1 69))) rfl rfl rfl rfl rfl rfl ?_
              refine T_iadd 180 rfl rfl ?_
              refine T_ld 182 (.int (i32 64)) rfl (fun _ => rfl) ?_
              refine T_icmp 189 185 rfl rfl rfl (r32 (by omega) (by omega)) ⟨by decide, by decide⟩ (fun (h343 : (64 : Int) < ((m.2 81) w) + (m.1 69)) => ?_) (fun (h343 : ¬ ((64 : Int) < ((m.2 81) w) + (m.1 69))) => ?_)
              · skip
                refine T_ld 190 (.int (i32 0)) rfl (fun _ => rfl) ?_
                refine T_gf 194 (.int (i32 (m.1 70))) rfl rfl rfl rfl rfl rfl ?_
                refine T_call 197 256 [.ref 189, .int (i32 0), .int (i32 (m.1 70))] [] rfl (fun _ => rfl) rfl (c_want w (mO m [(10, 0), (11, y337), (28, (m.1 28)), (69, (m.1 69)), (70, (m.1 70)), (71, (m.1 71)), (72, (m.1 72))] [(65, (m.2 65)), (66, (m.2 66)), (67, (m.2 67)), (68, (m.2 68)), (80, (m.2 80))]) c N D (by omega) (Ty_mO hT rfl rfl ⟨⟨(by omega : (0 : Int) ≤ 0), (by omega : (0 : Int) ≤ 8)⟩, g338, f28, f69, f70, f71, f72, trivial⟩ ⟨(hT.2.1 65), (hT.2.1 66), (hT.2.1 67), (hT.2.1 68), (hT.2.1 80), trivial⟩) 0 (m.1 70) ⟨by decide, by decide⟩ (r32 (by omega) (by omega)) (show 0 ≤ (m.1 70) ∧ (m.1 70) ≤ 4000 by omega) (fun _ => trivial)) (fun rr344 k345 => ?_)
                obtain ⟨y346, y348, g347, g349, h350, c351, rfl⟩ := k345
                refine ⟨_, _, rfl, ?_⟩
                refine T_nf (st' := []) (l' := [(10, y346), (11, y348), (28, (m.1 28)), (69, (m.1 69)), (70, (m.1 70)), (71, (m.1 71)), (72, (m.1 72))]) (a' := [(65, (m.2 65)), (66, (m.2 66)), (67, (m.2 67)), (68, (m.2 68)), (80, (m.2 80))]) rfl rfl rfl rfl rfl ?_
                by_cases hf352 : y346 = 0
                · skip
                  subst hf352
                  replace h350 : (0 : Int) = 0 := h350 rfl
                  have c353 := c351 rfl
                  replace c353 : (0 : Int) ≠ 0 := c353
                  clear c351
                  clear g338 g347
                  refine T_ld 198 (.int (i32 ((m.2 81) w))) rfl (fun _ => rfl) ?_
                  refine T_gf 202 (.int (i32 (m.1 69))) rfl rfl rfl rfl rfl rfl ?_
                  refine T_iadd 203 rfl rfl ?_
                  refine T_sto 204 [(2, .int (i32 (((m.2 81) w) + (m.1 69)))), (5, .int (i32 (m.1 69))), (4, .int (i32 ((m.2 80) w))), (3, .int (i32 ((m.2 82) w))), (0, .ref 189), (1, .int (i32 w))] rfl (fun _ => rfl) ?_
                  refine T_goto 261 rfl (fun _ => rfl) ?_
                  refine Tm_lv (a := [(0, .ref 189), (1, .int (i32 w)), (2, .int (i32 (((m.2 81) w) + (m.1 69)))), (3, .int (i32 ((m.2 82) w))), (4, .int (i32 ((m.2 80) w))), (5, .int (i32 (m.1 69)))]) rfl rfl ⟨rfl, rfl, rfl, rfl, rfl, rfl, trivial⟩ ?_
                  exact J261_190 (((m.2 81) w) + (m.1 69)) 0 y348 (r32 (by omega) (by omega)) ⟨by omega, by omega⟩ g349 (by omega) (fun _ => (by omega))
                · skip
                  clear c351
                  clear h350
                  have hf354 : 1 ≤ y346 := by omega
                  clear g338
                  refine Tm_lv (a := [(0, .ref 189), (1, .int (i32 w)), (2, .int (i32 ((m.2 81) w))), (3, .int (i32 ((m.2 82) w))), (4, .int (i32 ((m.2 80) w))), (5, .int (i32 (m.1 69)))]) rfl rfl ⟨rfl, rfl, rfl, rfl, rfl, rfl, trivial⟩ ?_
                  exact J197_63 y346 y348 g347 g349 (by omega) (by omega) (by omega)
              · skip
                refine T_ld 186 (.int (i32 1)) rfl (fun _ => rfl) ?_
                refine T_goto 190 rfl (fun _ => rfl) ?_
                refine T_gf 194 (.int (i32 (m.1 70))) rfl rfl rfl rfl rfl rfl ?_
                refine T_call 197 256 [.ref 189, .int (i32 1), .int (i32 (m.1 70))] [] rfl (fun _ => rfl) rfl (c_want w (mO m [(10, 0), (11, y337), (28, (m.1 28)), (69, (m.1 69)), (70, (m.1 70)), (71, (m.1 71)), (72, (m.1 72))] [(65, (m.2 65)), (66, (m.2 66)), (67, (m.2 67)), (68, (m.2 68)), (80, (m.2 80))]) c N D (by omega) (Ty_mO hT rfl rfl ⟨⟨(by omega : (0 : Int) ≤ 0), (by omega : (0 : Int) ≤ 8)⟩, g338, f28, f69, f70, f71, f72, trivial⟩ ⟨(hT.2.1 65), (hT.2.1 66), (hT.2.1 67), (hT.2.1 68), (hT.2.1 80), trivial⟩) 1 (m.1 70) ⟨by decide, by decide⟩ (r32 (by omega) (by omega)) (show 0 ≤ (m.1 70) ∧ (m.1 70) ≤ 4000 by omega) (fun _ => trivial)) (fun rr355 k356 => ?_)
                obtain ⟨y357, y359, g358, g360, h361, c362, rfl⟩ := k356
                refine ⟨_, _, rfl, ?_⟩
                refine T_nf (st' := []) (l' := [(10, y357), (11, y359), (28, (m.1 28)), (69, (m.1 69)), (70, (m.1 70)), (71, (m.1 71)), (72, (m.1 72))]) (a' := [(65, (m.2 65)), (66, (m.2 66)), (67, (m.2 67)), (68, (m.2 68)), (80, (m.2 80))]) rfl rfl rfl rfl rfl ?_
                by_cases hf363 : y357 = 0
                · skip
                  subst hf363
                  replace h361 : (0 : Int) = 0 := h361 rfl
                  have c364 := c362 rfl
                  replace c364 : (1 : Int) ≠ 0 := c364
                  clear c362
                  clear g338 g358
                  refine T_ld 198 (.int (i32 ((m.2 81) w))) rfl (fun _ => rfl) ?_
                  refine T_gf 202 (.int (i32 (m.1 69))) rfl rfl rfl rfl rfl rfl ?_
                  refine T_iadd 203 rfl rfl ?_
                  refine T_sto 204 [(2, .int (i32 (((m.2 81) w) + (m.1 69)))), (5, .int (i32 (m.1 69))), (4, .int (i32 ((m.2 80) w))), (3, .int (i32 ((m.2 82) w))), (0, .ref 189), (1, .int (i32 w))] rfl (fun _ => rfl) ?_
                  refine T_goto 261 rfl (fun _ => rfl) ?_
                  refine Tm_lv (a := [(0, .ref 189), (1, .int (i32 w)), (2, .int (i32 (((m.2 81) w) + (m.1 69)))), (3, .int (i32 ((m.2 82) w))), (4, .int (i32 ((m.2 80) w))), (5, .int (i32 (m.1 69)))]) rfl rfl ⟨rfl, rfl, rfl, rfl, rfl, rfl, trivial⟩ ?_
                  exact J261_190 (((m.2 81) w) + (m.1 69)) 0 y359 (r32 (by omega) (by omega)) ⟨by omega, by omega⟩ g360 (by omega) (fun _ => (by omega))
                · skip
                  clear c362
                  clear h361
                  have hf365 : 1 ≤ y357 := by omega
                  clear g338
                  refine Tm_lv (a := [(0, .ref 189), (1, .int (i32 w)), (2, .int (i32 ((m.2 81) w))), (3, .int (i32 ((m.2 82) w))), (4, .int (i32 ((m.2 80) w))), (5, .int (i32 (m.1 69)))]) rfl rfl ⟨rfl, rfl, rfl, rfl, rfl, rfl, trivial⟩ ?_
                  exact J197_63 y357 y359 g358 g360 (by omega) (by omega) (by omega)
            · skip
              clear c340
              clear h339
              have hf366 : 1 ≤ y335 := by omega
              clear g327
              refine Tm_lv (a := [(0, .ref 189), (1, .int (i32 w)), (2, .int (i32 ((m.2 81) w))), (3, .int (i32 ((m.2 82) w))), (4, .int (i32 ((m.2 80) w))), (5, .int (i32 (m.1 69)))]) rfl rfl ⟨rfl, rfl, rfl, rfl, rfl, rfl, trivial⟩ ?_
              exact J173_92 y335 y337 g336 g338 (by omega) (by omega) (by omega)
          · skip
            refine T_ld 162 (.int (i32 1)) rfl (fun _ => rfl) ?_
            refine T_goto 166 rfl (fun _ => rfl) ?_
            refine T_gf 170 (.int (i32 (m.1 70))) rfl rfl rfl rfl rfl rfl ?_
            refine T_call 173 256 [.ref 189, .int (i32 1), .int (i32 (m.1 70))] [] rfl (fun _ => rfl) rfl (c_want w (mO m [(10, 0), (11, y326), (28, (m.1 28)), (69, (m.1 69)), (70, (m.1 70)), (71, (m.1 71)), (72, (m.1 72))] [(65, (m.2 65)), (66, (m.2 66)), (67, (m.2 67)), (68, (m.2 68)), (80, (m.2 80))]) c N D (by omega) (Ty_mO hT rfl rfl ⟨⟨(by omega : (0 : Int) ≤ 0), (by omega : (0 : Int) ≤ 8)⟩, g327, f28, f69, f70, f71, f72, trivial⟩ ⟨(hT.2.1 65), (hT.2.1 66), (hT.2.1 67), (hT.2.1 68), (hT.2.1 80), trivial⟩) 1 (m.1 70) ⟨by decide, by decide⟩ (r32 (by omega) (by omega)) (show 0 ≤ (m.1 70) ∧ (m.1 70) ≤ 4000 by omega) (fun _ => trivial)) (fun rr367 k368 => ?_)
            obtain ⟨y369, y371, g370, g372, h373, c374, rfl⟩ := k368
            refine ⟨_, _, rfl, ?_⟩
            refine T_nf (st' := []) (l' := [(10, y369), (11, y371), (28, (m.1 28)), (69, (m.1 69)), (70, (m.1 70)), (71, (m.1 71)), (72, (m.1 72))]) (a' := [(65, (m.2 65)), (66, (m.2 66)), (67, (m.2 67)), (68, (m.2 68)), (80, (m.2 80))]) rfl rfl rfl rfl rfl ?_
            by_cases hf375 : y369 = 0
            · skip
              subst hf375
              replace h373 : (0 : Int) = 0 := h373 rfl
              have c376 := c374 rfl
              replace c376 : (1 : Int) ≠ 0 := c376
              clear c374
              clear g327 g370
              refine T_ld 174 (.ref 189) rfl (fun _ => rfl) ?_
              refine T_ld 175 (.int (i32 ((m.2 81) w))) rfl (fun _ => rfl) ?_
              refine T_gf 179 (.int (i32 (m.1 69))) rfl rfl rfl rfl rfl rfl ?_
              refine T_iadd 180 rfl rfl ?_
              refine T_ld 182 (.int (i32 64)) rfl (fun _ => rfl) ?_
              refine T_icmp 189 185 rfl rfl rfl (r32 (by omega) (by omega)) ⟨by decide, by decide⟩ (fun (h377 : (64 : Int) < ((m.2 81) w) + (m.1 69)) => ?_) (fun (h377 : ¬ ((64 : Int) < ((m.2 81) w) + (m.1 69))) => ?_)
              · skip
                refine T_ld 190 (.int (i32 0)) rfl (fun _ => rfl) ?_
                refine T_gf 194 (.int (i32 (m.1 70))) rfl rfl rfl rfl rfl rfl ?_
                refine T_call 197 256 [.ref 189, .int (i32 0), .int (i32 (m.1 70))] [] rfl (fun _ => rfl) rfl (c_want w (mO m [(10, 0), (11, y371), (28, (m.1 28)), (69, (m.1 69)), (70, (m.1 70)), (71, (m.1 71)), (72, (m.1 72))] [(65, (m.2 65)), (66, (m.2 66)), (67, (m.2 67)), (68, (m.2 68)), (80, (m.2 80))]) c N D (by omega) (Ty_mO hT rfl rfl ⟨⟨(by omega : (0 : Int) ≤ 0), (by omega : (0 : Int) ≤ 8)⟩, g372, f28, f69, f70, f71, f72, trivial⟩ ⟨(hT.2.1 65), (hT.2.1 66), (hT.2.1 67), (hT.2.1 68), (hT.2.1 80), trivial⟩) 0 (m.1 70) ⟨by decide, by decide⟩ (r32 (by omega) (by omega)) (show 0 ≤ (m.1 70) ∧ (m.1 70) ≤ 4000 by omega) (fun _ => trivial)) (fun rr378 k379 => ?_)
                obtain ⟨y380, y382, g381, g383, h384, c385, rfl⟩ := k379
                refine ⟨_, _, rfl, ?_⟩
                refine T_nf (st' := []) (l' := [(10, y380), (11, y382), (28, (m.1 28)), (69, (m.1 69)), (70, (m.1 70)), (71, (m.1 71)), (72, (m.1 72))]) (a' := [(65, (m.2 65)), (66, (m.2 66)), (67, (m.2 67)), (68, (m.2 68)), (80, (m.2 80))]) rfl rfl rfl rfl rfl ?_
                by_cases hf386 : y380 = 0
                · skip
                  subst hf386
                  replace h384 : (0 : Int) = 0 := h384 rfl
                  have c387 := c385 rfl
                  replace c387 : (0 : Int) ≠ 0 := c387
                  clear c385
                  clear g372 g381
                  refine T_ld 198 (.int (i32 ((m.2 81) w))) rfl (fun _ => rfl) ?_
                  refine T_gf 202 (.int (i32 (m.1 69))) rfl rfl rfl rfl rfl rfl ?_
                  refine T_iadd 203 rfl rfl ?_
                  refine T_sto 204 [(2, .int (i32 (((m.2 81) w) + (m.1 69)))), (5, .int (i32 (m.1 69))), (4, .int (i32 ((m.2 80) w))), (3, .int (i32 ((m.2 82) w))), (0, .ref 189), (1, .int (i32 w))] rfl (fun _ => rfl) ?_
                  refine T_goto 261 rfl (fun _ => rfl) ?_
                  refine Tm_lv (a := [(0, .ref 189), (1, .int (i32 w)), (2, .int (i32 (((m.2 81) w) + (m.1 69)))), (3, .int (i32 ((m.2 82) w))), (4, .int (i32 ((m.2 80) w))), (5, .int (i32 (m.1 69)))]) rfl rfl ⟨rfl, rfl, rfl, rfl, rfl, rfl, trivial⟩ ?_
                  exact J261_190 (((m.2 81) w) + (m.1 69)) 0 y382 (r32 (by omega) (by omega)) ⟨by omega, by omega⟩ g383 (by omega) (fun _ => (by omega))
                · skip
                  clear c385
                  clear h384
                  have hf388 : 1 ≤ y380 := by omega
                  clear g372
                  refine Tm_lv (a := [(0, .ref 189), (1, .int (i32 w)), (2, .int (i32 ((m.2 81) w))), (3, .int (i32 ((m.2 82) w))), (4, .int (i32 ((m.2 80) w))), (5, .int (i32 (m.1 69)))]) rfl rfl ⟨rfl, rfl, rfl, rfl, rfl, rfl, trivial⟩ ?_
                  exact J197_63 y380 y382 g381 g383 (by omega) (by omega) (by omega)
              · skip
                refine T_ld 186 (.int (i32 1)) rfl (fun _ => rfl) ?_
                refine T_goto 190 rfl (fun _ => rfl) ?_
                refine T_gf 194 (.int (i32 (m.1 70))) rfl rfl rfl rfl rfl rfl ?_
                refine T_call 197 256 [.ref 189, .int (i32 1), .int (i32 (m.1 70))] [] rfl (fun _ => rfl) rfl (c_want w (mO m [(10, 0), (11, y371), (28, (m.1 28)), (69, (m.1 69)), (70, (m.1 70)), (71, (m.1 71)), (72, (m.1 72))] [(65, (m.2 65)), (66, (m.2 66)), (67, (m.2 67)), (68, (m.2 68)), (80, (m.2 80))]) c N D (by omega) (Ty_mO hT rfl rfl ⟨⟨(by omega : (0 : Int) ≤ 0), (by omega : (0 : Int) ≤ 8)⟩, g372, f28, f69, f70, f71, f72, trivial⟩ ⟨(hT.2.1 65), (hT.2.1 66), (hT.2.1 67), (hT.2.1 68), (hT.2.1 80), trivial⟩) 1 (m.1 70) ⟨by decide, by decide⟩ (r32 (by omega) (by omega)) (show 0 ≤ (m.1 70) ∧ (m.1 70) ≤ 4000 by omega) (fun _ => trivial)) (fun rr389 k390 => ?_)
                obtain ⟨y391, y393, g392, g394, h395, c396, rfl⟩ := k390
                refine ⟨_, _, rfl, ?_⟩
                refine T_nf (st' := []) (l' := [(10, y391), (11, y393), (28, (m.1 28)), (69, (m.1 69)), (70, (m.1 70)), (71, (m.1 71)), (72, (m.1 72))]) (a' := [(65, (m.2 65)), (66, (m.2 66)), (67, (m.2 67)), (68, (m.2 68)), (80, (m.2 80))]) rfl rfl rfl rfl rfl ?_
                by_cases hf397 : y391 = 0
                · skip
                  subst hf397
                  replace h395 : (0 : Int) = 0 := h395 rfl
                  have c398 := c396 rfl
                  replace c398 : (1 : Int) ≠ 0 := c398
                  clear c396
                  clear g372 g392
                  refine T_ld 198 (.int (i32 ((m.2 81) w))) rfl (fun _ => rfl) ?_
                  refine T_gf 202 (.int (i32 (m.1 69))) rfl rfl rfl rfl rfl rfl ?_
                  refine T_iadd 203 rfl rfl ?_
                  refine T_sto 204 [(2, .int (i32 (((m.2 81) w) + (m.1 69)))), (5, .int (i32 (m.1 69))), (4, .int (i32 ((m.2 80) w))), (3, .int (i32 ((m.2 82) w))), (0, .ref 189), (1, .int (i32 w))] rfl (fun _ => rfl) ?_
                  refine T_goto 261 rfl (fun _ => rfl) ?_
                  refine Tm_lv (a := [(0, .ref 189), (1, .int (i32 w)), (2, .int (i32 (((m.2 81) w) + (m.1 69)))), (3, .int (i32 ((m.2 82) w))), (4, .int (i32 ((m.2 80) w))), (5, .int (i32 (m.1 69)))]) rfl rfl ⟨rfl, rfl, rfl, rfl, rfl, rfl, trivial⟩ ?_
                  exact J261_190 (((m.2 81) w) + (m.1 69)) 0 y393 (r32 (by omega) (by omega)) ⟨by omega, by omega⟩ g394 (by omega) (fun _ => (by omega))
                · skip
                  clear c396
                  clear h395
                  have hf399 : 1 ≤ y391 := by omega
                  clear g372
                  refine Tm_lv (a := [(0, .ref 189), (1, .int (i32 w)), (2, .int (i32 ((m.2 81) w))), (3, .int (i32 ((m.2 82) w))), (4, .int (i32 ((m.2 80) w))), (5, .int (i32 (m.1 69)))]) rfl rfl ⟨rfl, rfl, rfl, rfl, rfl, rfl, trivial⟩ ?_
                  exact J197_63 y391 y393 g392 g394 (by omega) (by omega) (by omega)
            · skip
              clear c374
              clear h373
              have hf400 : 1 ≤ y369 := by omega
              clear g327
              refine Tm_lv (a := [(0, .ref 189), (1, .int (i32 w)), (2, .int (i32 ((m.2 81) w))), (3, .int (i32 ((m.2 82) w))), (4, .int (i32 ((m.2 80) w))), (5, .int (i32 (m.1 69)))]) rfl rfl ⟨rfl, rfl, rfl, rfl, rfl, rfl, trivial⟩ ?_
              exact J173_92 y369 y371 g370 g372 (by omega) (by omega) (by omega)
        · skip
          clear c329
          clear h328
          have hf401 : 1 ≤ y324 := by omega
          clear g185a g185b h186
          refine Tm_lv (a := [(0, .ref 189), (1, .int (i32 w)), (2, .int (i32 ((m.2 81) w))), (3, .int (i32 ((m.2 82) w))), (4, .int (i32 ((m.2 80) w))), (5, .int (i32 (m.1 69)))]) rfl rfl ⟨rfl, rfl, rfl, rfl, rfl, rfl, trivial⟩ ?_
          exact J153_120 y324 y326 g325 g327 (by omega) (by omega) (by omega) (by omega) (by omega) (by omega)
      · skip
        refine T_ld 145 (.int (i32 1)) rfl (fun _ => rfl) ?_
        refine T_goto 149 rfl (fun _ => rfl) ?_
        refine T_ld 150 (.int (i32 ((m.2 82) w))) rfl (fun _ => rfl) ?_
        refine T_call 153 256 [.ref 189, .int (i32 1), .int (i32 ((m.2 82) w))] [] rfl (fun _ => rfl) rfl (c_want w (mO m [(10, (m.1 10)), (11, (m.1 11)), (28, (m.1 28)), (69, (m.1 69)), (70, (m.1 70)), (71, (m.1 71)), (72, (m.1 72))] [(65, (m.2 65)), (66, (m.2 66)), (67, (m.2 67)), (68, (m.2 68)), (80, (m.2 80))]) c N D (by omega) (Ty_mO hT rfl rfl ⟨f10, f11, f28, f69, f70, f71, f72, trivial⟩ ⟨(hT.2.1 65), (hT.2.1 66), (hT.2.1 67), (hT.2.1 68), (hT.2.1 80), trivial⟩) 1 ((m.2 82) w) ⟨by decide, by decide⟩ (r32 (by omega) (by omega)) (show 0 ≤ ((m.2 82) w) ∧ ((m.2 82) w) ≤ 4000 by omega) (fun _ => trivial)) (fun rr402 k403 => ?_)
        obtain ⟨y404, y406, g405, g407, h408, c409, rfl⟩ := k403
        refine ⟨_, _, rfl, ?_⟩
        refine T_nf (st' := []) (l' := [(10, y404), (11, y406), (28, (m.1 28)), (69, (m.1 69)), (70, (m.1 70)), (71, (m.1 71)), (72, (m.1 72))]) (a' := [(65, (m.2 65)), (66, (m.2 66)), (67, (m.2 67)), (68, (m.2 68)), (80, (m.2 80))]) rfl rfl rfl rfl rfl ?_
        by_cases hf410 : y404 = 0
        · skip
          subst hf410
          replace h408 : (m.1 10) = 0 := h408 rfl
          have c411 := c409 rfl
          replace c411 : (1 : Int) ≠ 0 := c411
          clear c409
          clear g185a g185b h186 g405
          refine T_ld 154 (.ref 189) rfl (fun _ => rfl) ?_
          refine T_gf 158 (.int (i32 (m.1 71))) rfl rfl rfl rfl rfl rfl ?_
          refine T_if 165 161 rfl rfl rfl (r32 (by omega) (by omega)) (fun (h412 : (m.1 71) ≠ 0) => ?_) (fun (h412 : ¬ ((m.1 71) ≠ 0)) => ?_)
          · skip
            refine T_ld 166 (.int (i32 0)) rfl (fun _ => rfl) ?_
            refine T_gf 170 (.int (i32 (m.1 70))) rfl rfl rfl rfl rfl rfl ?_
            refine T_call 173 256 [.ref 189, .int (i32 0), .int (i32 (m.1 70))] [] rfl (fun _ => rfl) rfl (c_want w (mO m [(10, 0), (11, y406), (28, (m.1 28)), (69, (m.1 69)), (70, (m.1 70)), (71, (m.1 71)), (72, (m.1 72))] [(65, (m.2 65)), (66, (m.2 66)), (67, (m.2 67)), (68, (m.2 68)), (80, (m.2 80))]) c N D (by omega) (Ty_mO hT rfl rfl ⟨⟨(by omega : (0 : Int) ≤ 0), (by omega : (0 : Int) ≤ 8)⟩, g407, f28, f69, f70, f71, f72, trivial⟩ ⟨(hT.2.1 65), (hT.2.1 66), (hT.2.1 67), (hT.2.1 68), (hT.2.1 80), trivial⟩) 0 (m.1 70) ⟨by decide, by decide⟩ (r32 (by omega) (by omega)) (show 0 ≤ (m.1 70) ∧ (m.1 70) ≤ 4000 by omega) (fun _ => trivial)) (fun rr413 k414 => ?_)
            obtain ⟨y415, y417, g416, g418, h419, c420, rfl⟩ := k414
            refine ⟨_, _, rfl, ?_⟩
            refine T_nf (st' := []) (l' := [(10, y415), (11, y417), (28, (m.1 28)), (69, (m.1 69)), (70, (m.1 70)), (71, (m.1 71)), (72, (m.1 72))]) (a' := [(65, (m.2 65)), (66, (m.2 66)), (67, (m.2 67)), (68, (m.2 68)), (80, (m.2 80))]) rfl rfl rfl rfl rfl ?_
            by_cases hf421 : y415 = 0
            · skip
              subst hf421
              replace h419 : (0 : Int) = 0 := h419 rfl
              have c422 := c420 rfl
              replace c422 : (0 : Int) ≠ 0 := c422
              clear c420
              clear g407 g416
              refine T_ld 174 (.ref 189) rfl (fun _ => rfl) ?_
              refine T_ld 175 (.int (i32 ((m.2 81) w))) rfl (fun _ => rfl) ?_
              refine T_gf 179 (.int (i32 (m.1 69))) rfl rfl rfl rfl rfl rfl ?_
              refine T_iadd 180 rfl rfl ?_
              refine T_ld 182 (.int (i32 64)) rfl (fun _ => rfl) ?_
              refine T_icmp 189 185 rfl rfl rfl (r32 (by omega) (by omega)) ⟨by decide, by decide⟩ (fun (h423 : (64 : Int) < ((m.2 81) w) + (m.1 69)) => ?_) (fun (h423 : ¬ ((64 : Int) < ((m.2 81) w) + (m.1 69))) => ?_)
              · skip
                refine T_ld 190 (.int (i32 0)) rfl (fun _ => rfl) ?_
                refine T_gf 194 (.int (i32 (m.1 70))) rfl rfl rfl rfl rfl rfl ?_
                refine T_call 197 256 [.ref 189, .int (i32 0), .int (i32 (m.1 70))] [] rfl (fun _ => rfl) rfl (c_want w (mO m [(10, 0), (11, y417), (28, (m.1 28)), (69, (m.1 69)), (70, (m.1 70)), (71, (m.1 71)), (72, (m.1 72))] [(65, (m.2 65)), (66, (m.2 66)), (67, (m.2 67)), (68, (m.2 68)), (80, (m.2 80))]) c N D (by omega) (Ty_mO hT rfl rfl ⟨⟨(by omega : (0 : Int) ≤ 0), (by omega : (0 : Int) ≤ 8)⟩, g418, f28, f69, f70, f71, f72, trivial⟩ ⟨(hT.2.1 65), (hT.2.1 66), (hT.2.1 67), (hT.2.1 68), (hT.2.1 80), trivial⟩) 0 (m.1 70) ⟨by decide, by decide⟩ (r32 (by omega) (by omega)) (show 0 ≤ (m.1 70) ∧ (m.1 70) ≤ 4000 by omega) (fun _ => trivial)) (fun rr424 k425 => ?_)
                obtain ⟨y426, y428, g427, g429, h430, c431, rfl⟩ := k425
                refine ⟨_, _, rfl, ?_⟩
                refine T_nf (st' := []) (l' := [(10, y426), (11, y428), (28, (m.1 28)), (69, (m.1 69)), (70, (m.1 70)), (71, (m.1 71)), (72, (m.1 72))]) (a' := [(65, (m.2 65)), (66, (m.2 66)), (67, (m.2 67)), (68, (m.2 68)), (80, (m.2 80))]) rfl rfl rfl rfl rfl ?_
                by_cases hf432 : y426 = 0
                · skip
                  subst hf432
                  replace h430 : (0 : Int) = 0 := h430 rfl
                  have c433 := c431 rfl
                  replace c433 : (0 : Int) ≠ 0 := c433
                  clear c431
                  clear g418 g427
                  refine T_ld 198 (.int (i32 ((m.2 81) w))) rfl (fun _ => rfl) ?_
                  refine T_gf 202 (.int (i32 (m.1 69))) rfl rfl rfl rfl rfl rfl ?_
                  refine T_iadd 203 rfl rfl ?_
                  refine T_sto 204 [(2, .int (i32 (((m.2 81) w) + (m.1 69)))), (5, .int (i32 (m.1 69))), (4, .int (i32 ((m.2 80) w))), (3, .int (i32 ((m.2 82) w))), (0, .ref 189), (1, .int (i32 w))] rfl (fun _ => rfl) ?_
                  refine T_goto 261 rfl (fun _ => rfl) ?_
                  refine Tm_lv (a := [(0, .ref 189), (1, .int (i32 w)), (2, .int (i32 (((m.2 81) w) + (m.1 69)))), (3, .int (i32 ((m.2 82) w))), (4, .int (i32 ((m.2 80) w))), (5, .int (i32 (m.1 69)))]) rfl rfl ⟨rfl, rfl, rfl, rfl, rfl, rfl, trivial⟩ ?_
                  exact J261_190 (((m.2 81) w) + (m.1 69)) 0 y428 (r32 (by omega) (by omega)) ⟨by omega, by omega⟩ g429 (by omega) (fun _ => (by omega))
                · skip
                  clear c431
                  clear h430
                  have hf434 : 1 ≤ y426 := by omega
                  clear g418
                  refine Tm_lv (a := [(0, .ref 189), (1, .int (i32 w)), (2, .int (i32 ((m.2 81) w))), (3, .int (i32 ((m.2 82) w))), (4, .int (i32 ((m.2 80) w))), (5, .int (i32 (m.1 69)))]) rfl rfl ⟨rfl, rfl, rfl, rfl, rfl, rfl, trivial⟩ ?_
                  exact J197_63 y426 y428 g427 g429 (by omega) (by omega) (by omega)
              · skip
                refine T_ld 186 (.int (i32 1)) rfl (fun _ => rfl) ?_
                refine T_goto 190 rfl (fun _ => rfl) ?_
                refine T_gf 194 (.int (i32 (m.1 70))) rfl rfl rfl rfl rfl rfl ?_
                refine T_call 197 256 [.ref 189, .int (i32 1), .int (i32 (m.1 70))] [] rfl (fun _ => rfl) rfl (c_want w (mO m [(10, 0), (11, y417), (28, (m.1 28)), (69, (m.1 69)), (70, (m.1 70)), (71, (m.1 71)), (72, (m.1 72))] [(65, (m.2 65)), (66, (m.2 66)), (67, (m.2 67)), (68, (m.2 68)), (80, (m.2 80))]) c N D (by omega) (Ty_mO hT rfl rfl ⟨⟨(by omega : (0 : Int) ≤ 0), (by omega : (0 : Int) ≤ 8)⟩, g418, f28, f69, f70, f71, f72, trivial⟩ ⟨(hT.2.1 65), (hT.2.1 66), (hT.2.1 67), (hT.2.1 68), (hT.2.1 80), trivial⟩) 1 (m.1 70) ⟨by decide, by decide⟩ (r32 (by omega) (by omega)) (show 0 ≤ (m.1 70) ∧ (m.1 70) ≤ 4000 by omega) (fun _ => trivial)) (fun rr435 k436 => ?_)
                obtain ⟨y437, y439, g438, g440, h441, c442, rfl⟩ := k436
                refine ⟨_, _, rfl, ?_⟩
                refine T_nf (st' := []) (l' := [(10, y437), (11, y439), (28, (m.1 28)), (69, (m.1 69)), (70, (m.1 70)), (71, (m.1 71)), (72, (m.1 72))]) (a' := [(65, (m.2 65)), (66, (m.2 66)), (67, (m.2 67)), (68, (m.2 68)), (80, (m.2 80))]) rfl rfl rfl rfl rfl ?_
                by_cases hf443 : y437 = 0
                · skip
                  subst hf443
                  replace h441 : (0 : Int) = 0 := h441 rfl
                  have c444 := c442 rfl
                  replace c444 : (1 : Int) ≠ 0 := c444
                  clear c442
                  clear g418 g438
                  refine T_ld 198 (.int (i32 ((m.2 81) w))) rfl (fun _ => rfl) ?_
                  refine T_gf 202 (.int (i32 (m.1 69))) rfl rfl rfl rfl rfl rfl ?_
                  refine T_iadd 203 rfl rfl ?_
                  refine T_sto 204 [(2, .int (i32 (((m.2 81) w) + (m.1 69)))), (5, .int (i32 (m.1 69))), (4, .int (i32 ((m.2 80) w))), (3, .int (i32 ((m.2 82) w))), (0, .ref 189), (1, .int (i32 w))] rfl (fun _ => rfl) ?_
                  refine T_goto 261 rfl (fun _ => rfl) ?_
                  refine Tm_lv (a := [(0, .ref 189), (1, .int (i32 w)), (2, .int (i32 (((m.2 81) w) + (m.1 69)))), (3, .int (i32 ((m.2 82) w))), (4, .int (i32 ((m.2 80) w))), (5, .int (i32 (m.1 69)))]) rfl rfl ⟨rfl, rfl, rfl, rfl, rfl, rfl, trivial⟩ ?_
                  exact J261_190 (((m.2 81) w) + (m.1 69)) 0 y439 (r32 (by omega) (by omega)) ⟨by omega, by omega⟩ g440 (by omega) (fun _ => (by omega))
                · skip
                  clear c442
                  clear h441
                  have hf445 : 1 ≤ y437 := by omega
                  clear g418
                  refine Tm_lv (a := [(0, .ref 189), (1, .int (i32 w)), (2, .int (i32 ((m.2 81) w))), (3, .int (i32 ((m.2 82) w))), (4, .int (i32 ((m.2 80) w))), (5, .int (i32 (m.1 69)))]) rfl rfl ⟨rfl, rfl, rfl, rfl, rfl, rfl, trivial⟩ ?_
                  exact J197_63 y437 y439 g438 g440 (by omega) (by omega) (by omega)
            · skip
              clear c420
              clear h419
              have hf446 : 1 ≤ y415 := by omega
              clear g407
              refine Tm_lv (a := [(0, .ref 189), (1, .int (i32 w)), (2, .int (i32 ((m.2 81) w))), (3, .int (i32 ((m.2 82) w))), (4, .int (i32 ((m.2 80) w))), (5, .int (i32 (m.1 69)))]) rfl rfl ⟨rfl, rfl, rfl, rfl, rfl, rfl, trivial⟩ ?_
              exact J173_92 y415 y417 g416 g418 (by omega) (by omega) (by omega)
          · skip
            refine T_ld 162 (.int (i32 1)) rfl (fun _ => rfl) ?_
            refine T_goto 166 rfl (fun _ => rfl) ?_
            refine T_gf 170 (.int (i32 (m.1 70))) rfl rfl rfl rfl rfl rfl ?_
            refine T_call 173 256 [.ref 189, .int (i32 1), .int (i32 (m.1 70))] [] rfl (fun _ => rfl) rfl (c_want w (mO m [(10, 0), (11, y406), (28, (m.1 28)), (69, (m.1 69)), (70, (m.1 70)), (71, (m.1 71)), (72, (m.1 72))] [(65, (m.2 65)), (66, (m.2 66)), (67, (m.2 67)), (68, (m.2 68)), (80, (m.2 80))]) c N D (by omega) (Ty_mO hT rfl rfl ⟨⟨(by omega : (0 : Int) ≤ 0), (by omega : (0 : Int) ≤ 8)⟩, g407, f28, f69, f70, f71, f72, trivial⟩ ⟨(hT.2.1 65), (hT.2.1 66), (hT.2.1 67), (hT.2.1 68), (hT.2.1 80), trivial⟩) 1 (m.1 70) ⟨by decide, by decide⟩ (r32 (by omega) (by omega)) (show 0 ≤ (m.1 70) ∧ (m.1 70) ≤ 4000 by omega) (fun _ => trivial)) (fun rr447 k448 => ?_)
            obtain ⟨y449, y451, g450, g452, h453, c454, rfl⟩ := k448
            refine ⟨_, _, rfl, ?_⟩
            refine T_nf (st' := []) (l' := [(10, y449), (11, y451), (28, (m.1 28)), (69, (m.1 69)), (70, (m.1 70)), (71, (m.1 71)), (72, (m.1 72))]) (a' := [(65, (m.2 65)), (66, (m.2 66)), (67, (m.2 67)), (68, (m.2 68)), (80, (m.2 80))]) rfl rfl rfl rfl rfl ?_
            by_cases hf455 : y449 = 0
            · skip
              subst hf455
              replace h453 : (0 : Int) = 0 := h453 rfl
              have c456 := c454 rfl
              replace c456 : (1 : Int) ≠ 0 := c456
              clear c454
              clear g407 g450
              refine T_ld 174 (.ref 189) rfl (fun _ => rfl) ?_
              refine T_ld 175 (.int (i32 ((m.2 81) w))) rfl (fun _ => rfl) ?_
              refine T_gf 179 (.int (i32 (m.1 69))) rfl rfl rfl rfl rfl rfl ?_
              refine T_iadd 180 rfl rfl ?_
              refine T_ld 182 (.int (i32 64)) rfl (fun _ => rfl) ?_
              refine T_icmp 189 185 rfl rfl rfl (r32 (by omega) (by omega)) ⟨by decide, by decide⟩ (fun (h457 : (64 : Int) < ((m.2 81) w) + (m.1 69)) => ?_) (fun (h457 : ¬ ((64 : Int) < ((m.2 81) w) + (m.1 69))) => ?_)
              · skip
                refine T_ld 190 (.int (i32 0)) rfl (fun _ => rfl) ?_
                refine T_gf 194 (.int (i32 (m.1 70))) rfl rfl rfl rfl rfl rfl ?_
                refine T_call 197 256 [.ref 189, .int (i32 0), .int (i32 (m.1 70))] [] rfl (fun _ => rfl) rfl (c_want w (mO m [(10, 0), (11, y451), (28, (m.1 28)), (69, (m.1 69)), (70, (m.1 70)), (71, (m.1 71)), (72, (m.1 72))] [(65, (m.2 65)), (66, (m.2 66)), (67, (m.2 67)), (68, (m.2 68)), (80, (m.2 80))]) c N D (by omega) (Ty_mO hT rfl rfl ⟨⟨(by omega : (0 : Int) ≤ 0), (by omega : (0 : Int) ≤ 8)⟩, g452, f28, f69, f70, f71, f72, trivial⟩ ⟨(hT.2.1 65), (hT.2.1 66), (hT.2.1 67), (hT.2.1 68), (hT.2.1 80), trivial⟩) 0 (m.1 70) ⟨by decide, by decide⟩ (r32 (by omega) (by omega)) (show 0 ≤ (m.1 70) ∧ (m.1 70) ≤ 4000 by omega) (fun _ => trivial)) (fun rr458 k459 => ?_)
                obtain ⟨y460, y462, g461, g463, h464, c465, rfl⟩ := k459
                refine ⟨_, _, rfl, ?_⟩
                refine T_nf (st' := []) (l' := [(10, y460), (11, y462), (28, (m.1 28)), (69, (m.1 69)), (70, (m.1 70)), (71, (m.1 71)), (72, (m.1 72))]) (a' := [(65, (m.2 65)), (66, (m.2 66)), (67, (m.2 67)), (68, (m.2 68)), (80, (m.2 80))]) rfl rfl rfl rfl rfl ?_
                by_cases hf466 : y460 = 0
                · skip
                  subst hf466
                  replace h464 : (0 : Int) = 0 := h464 rfl
                  have c467 := c465 rfl
                  replace c467 : (0 : Int) ≠ 0 := c467
                  clear c465
                  clear g452 g461
                  refine T_ld 198 (.int (i32 ((m.2 81) w))) rfl (fun _ => rfl) ?_
                  refine T_gf 202 (.int (i32 (m.1 69))) rfl rfl rfl rfl rfl rfl ?_
                  refine T_iadd 203 rfl rfl ?_
                  refine T_sto 204 [(2, .int (i32 (((m.2 81) w) + (m.1 69)))), (5, .int (i32 (m.1 69))), (4, .int (i32 ((m.2 80) w))), (3, .int (i32 ((m.2 82) w))), (0, .ref 189), (1, .int (i32 w))] rfl (fun _ => rfl) ?_
                  refine T_goto 261 rfl (fun _ => rfl) ?_
                  refine Tm_lv (a := [(0, .ref 189), (1, .int (i32 w)), (2, .int (i32 (((m.2 81) w) + (m.1 69)))), (3, .int (i32 ((m.2 82) w))), (4, .int (i32 ((m.2 80) w))), (5, .int (i32 (m.1 69)))]) rfl rfl ⟨rfl, rfl, rfl, rfl, rfl, rfl, trivial⟩ ?_
                  exact J261_190 (((m.2 81) w) + (m.1 69)) 0 y462 (r32 (by omega) (by omega)) ⟨by omega, by omega⟩ g463 (by omega) (fun _ => (by omega))
                · skip
                  clear c465
                  clear h464
                  have hf468 : 1 ≤ y460 := by omega
                  clear g452
                  refine Tm_lv (a := [(0, .ref 189), (1, .int (i32 w)), (2, .int (i32 ((m.2 81) w))), (3, .int (i32 ((m.2 82) w))), (4, .int (i32 ((m.2 80) w))), (5, .int (i32 (m.1 69)))]) rfl rfl ⟨rfl, rfl, rfl, rfl, rfl, rfl, trivial⟩ ?_
                  exact J197_63 y460 y462 g461 g463 (by omega) (by omega) (by omega)
              · skip
                refine T_ld 186 (.int (i32 1)) rfl (fun _ => rfl) ?_
                refine T_goto 190 rfl (fun _ => rfl) ?_
                refine T_gf 194 (.int (i32 (m.1 70))) rfl rfl rfl rfl rfl rfl ?_
                refine T_call 197 256 [.ref 189, .int (i32 1), .int (i32 (m.1 70))] [] rfl (fun _ => rfl) rfl (c_want w (mO m [(10, 0), (11, y451), (28, (m.1 28)), (69, (m.1 69)), (70, (m.1 70)), (71, (m.1 71)), (72, (m.1 72))] [(65, (m.2 65)), (66, (m.2 66)), (67, (m.2 67)), (68, (m.2 68)), (80, (m.2 80))]) c N D (by omega) (Ty_mO hT rfl rfl ⟨⟨(by omega : (0 : Int) ≤ 0), (by omega : (0 : Int) ≤ 8)⟩, g452, f28, f69, f70, f71, f72, trivial⟩ ⟨(hT.2.1 65), (hT.2.1 66), (hT.2.1 67), (hT.2.1 68), (hT.2.1 80), trivial⟩) 1 (m.1 70) ⟨by decide, by decide⟩ (r32 (by omega) (by omega)) (show 0 ≤ (m.1 70) ∧ (m.1 70) ≤ 4000 by omega) (fun _ => trivial)) (fun rr469 k470 => ?_)
                obtain ⟨y471, y473, g472, g474, h475, c476, rfl⟩ := k470
                refine ⟨_, _, rfl, ?_⟩
                refine T_nf (st' := []) (l' := [(10, y471), (11, y473), (28, (m.1 28)), (69, (m.1 69)), (70, (m.1 70)), (71, (m.1 71)), (72, (m.1 72))]) (a' := [(65, (m.2 65)), (66, (m.2 66)), (67, (m.2 67)), (68, (m.2 68)), (80, (m.2 80))]) rfl rfl rfl rfl rfl ?_
                by_cases hf477 : y471 = 0
                · skip
                  subst hf477
                  replace h475 : (0 : Int) = 0 := h475 rfl
                  have c478 := c476 rfl
                  replace c478 : (1 : Int) ≠ 0 := c478
                  clear c476
                  clear g452 g472
                  refine T_ld 198 (.int (i32 ((m.2 81) w))) rfl (fun _ => rfl) ?_
                  refine T_gf 202 (.int (i32 (m.1 69))) rfl rfl rfl rfl rfl rfl ?_
                  refine T_iadd 203 rfl rfl ?_
                  refine T_sto 204 [(2, .int (i32 (((m.2 81) w) + (m.1 69)))), (5, .int (i32 (m.1 69))), (4, .int (i32 ((m.2 80) w))), (3, .int (i32 ((m.2 82) w))), (0, .ref 189), (1, .int (i32 w))] rfl (fun _ => rfl) ?_
                  refine T_goto 261 rfl (fun _ => rfl) ?_
                  refine Tm_lv (a := [(0, .ref 189), (1, .int (i32 w)), (2, .int (i32 (((m.2 81) w) + (m.1 69)))), (3, .int (i32 ((m.2 82) w))), (4, .int (i32 ((m.2 80) w))), (5, .int (i32 (m.1 69)))]) rfl rfl ⟨rfl, rfl, rfl, rfl, rfl, rfl, trivial⟩ ?_
                  exact J261_190 (((m.2 81) w) + (m.1 69)) 0 y473 (r32 (by omega) (by omega)) ⟨by omega, by omega⟩ g474 (by omega) (fun _ => (by omega))
                · skip
                  clear c476
                  clear h475
                  have hf479 : 1 ≤ y471 := by omega
                  clear g452
                  refine Tm_lv (a := [(0, .ref 189), (1, .int (i32 w)), (2, .int (i32 ((m.2 81) w))), (3, .int (i32 ((m.2 82) w))), (4, .int (i32 ((m.2 80) w))), (5, .int (i32 (m.1 69)))]) rfl rfl ⟨rfl, rfl, rfl, rfl, rfl, rfl, trivial⟩ ?_
                  exact J197_63 y471 y473 g472 g474 (by omega) (by omega) (by omega)
            · skip
              clear c454
              clear h453
              have hf480 : 1 ≤ y449 := by omega
              clear g407
              refine Tm_lv (a := [(0, .ref 189), (1, .int (i32 w)), (2, .int (i32 ((m.2 81) w))), (3, .int (i32 ((m.2 82) w))), (4, .int (i32 ((m.2 80) w))), (5, .int (i32 (m.1 69)))]) rfl rfl ⟨rfl, rfl, rfl, rfl, rfl, rfl, trivial⟩ ?_
              exact J173_92 y449 y451 g450 g452 (by omega) (by omega) (by omega)
        · skip
          clear c409
          clear h408
          have hf481 : 1 ≤ y404 := by omega
          clear g185a g185b h186
          refine Tm_lv (a := [(0, .ref 189), (1, .int (i32 w)), (2, .int (i32 ((m.2 81) w))), (3, .int (i32 ((m.2 82) w))), (4, .int (i32 ((m.2 80) w))), (5, .int (i32 (m.1 69)))]) rfl rfl ⟨rfl, rfl, rfl, rfl, rfl, rfl, trivial⟩ ?_
          exact J153_120 y404 y406 g405 g407 (by omega) (by omega) (by omega) (by omega) (by omega) (by omega)
    by_cases h482 : x184 = 2
    · skip
      refine T_cast 2 h482 ?_
      refine T_pop 207 rfl (fun _ => rfl) ?_
      exact T207_286
    by_cases h483 : x184 = 3
    · skip
      refine T_cast 3 h483 ?_
      refine T_pop 207 rfl (fun _ => rfl) ?_
      exact T207_286
    by_cases h484 : x184 = 4
    · skip
      refine T_cast 4 h484 ?_
      refine T_pop 207 rfl (fun _ => rfl) ?_
      exact T207_286
    by_cases h485 : x184 = 5
    · skip
      refine T_cast 5 h485 ?_
      refine T_pop 207 rfl (fun _ => rfl) ?_
      exact T207_286
    by_cases h486 : x184 = 7
    · skip
      refine T_cast 7 h486 ?_
      refine T_pop 207 rfl (fun _ => rfl) ?_
      exact T207_286
    refine T_tsd 207 rfl rfl (r32 (by omega) (by omega)) (by omega) ?_
    exact T207_286
  · skip
    clear hC
    refine T_gf 4 (.ref 243) rfl rfl rfl rfl rfl rfl ?_
    refine T_ld 5 (.int (i32 w)) rfl (fun _ => rfl) ?_
    refine T_iald 6 81 (m.2 81) rfl rfl rfl (by omega) (show w < (540 : Int) by omega) rfl ?_
    have e487 : 0 ≤ m.2 81 w ∧ m.2 81 w ≤ 64 := hT.2.1 81 w
    refine T_sto 7 [(2, .int (i32 ((m.2 81) w))), (0, .ref 189), (1, .int (i32 w))] rfl (fun _ => rfl) ?_
    refine T_gf 11 (.ref 244) rfl rfl rfl rfl rfl rfl ?_
    refine T_ld 12 (.int (i32 w)) rfl (fun _ => rfl) ?_
    refine T_iald 13 82 (m.2 82) rfl rfl rfl (by omega) (show w < (540 : Int) by omega) rfl ?_
    have e488 : 0 ≤ m.2 82 w ∧ m.2 82 w ≤ 4000 := hT.2.1 82 w
    refine T_sto 14 [(3, .int (i32 ((m.2 82) w))), (2, .int (i32 ((m.2 81) w))), (0, .ref 189), (1, .int (i32 w))] rfl (fun _ => rfl) ?_
    refine T_gf 18 (.ref 242) rfl rfl rfl rfl rfl rfl ?_
    refine T_ld 19 (.int (i32 w)) rfl (fun _ => rfl) ?_
    refine T_iald 20 80 (m.2 80) rfl rfl rfl (by omega) (show w < (540 : Int) by omega) rfl ?_
    have e489 : (-1) ≤ (m.2 80) w ∧ (m.2 80) w ≤ 330 := (hT.2.1 80) w
    refine T_sto 22 [(4, .int (i32 ((m.2 80) w))), (3, .int (i32 ((m.2 82) w))), (2, .int (i32 ((m.2 81) w))), (0, .ref 189), (1, .int (i32 w))] rfl (fun _ => rfl) ?_
    refine T_gf 26 (.int (i32 (m.1 69))) rfl rfl rfl rfl rfl rfl ?_
    refine T_sto 28 [(5, .int (i32 (m.1 69))), (4, .int (i32 ((m.2 80) w))), (3, .int (i32 ((m.2 82) w))), (2, .int (i32 ((m.2 81) w))), (0, .ref 189), (1, .int (i32 w))] rfl (fun _ => rfl) ?_
    refine T_gf 32 (.ref 242) rfl rfl rfl rfl rfl rfl ?_
    refine T_ld 33 (.int (i32 w)) rfl (fun _ => rfl) ?_
    refine T_iald 34 80 (m.2 80) rfl rfl rfl (by omega) (show w < (540 : Int) by omega) rfl ?_
    have e490 : (-1) ≤ (m.2 80) w ∧ (m.2 80) w ≤ 330 := (hT.2.1 80) w
    refine T_call 37 259 [.int (i32 ((m.2 80) w))] [] rfl (fun _ => rfl) rfl (c_level w (mO m [(10, (m.1 10)), (11, (m.1 11)), (28, (m.1 28)), (69, (m.1 69)), (70, (m.1 70)), (71, (m.1 71)), (72, (m.1 72))] [(65, (m.2 65)), (66, (m.2 66)), (67, (m.2 67)), (68, (m.2 68)), (80, (m.2 80))]) c N D (by omega) (Ty_mO hT rfl rfl ⟨f10, f11, f28, f69, f70, f71, f72, trivial⟩ ⟨(hT.2.1 65), (hT.2.1 66), (hT.2.1 67), (hT.2.1 68), (hT.2.1 80), trivial⟩) ((m.2 80) w) (r32 (by omega) (by omega))) (fun rr491 k492 => ?_)
    obtain ⟨x493, g494, h495, rfl⟩ := k492
    refine ⟨_, _, rfl, ?_⟩
    refine T_nf (st' := [.int (i32 x493)]) (l' := [(10, (m.1 10)), (11, (m.1 11)), (28, (m.1 28)), (69, (m.1 69)), (70, (m.1 70)), (71, (m.1 71)), (72, (m.1 72))]) (a' := [(65, (m.2 65)), (66, (m.2 66)), (67, (m.2 67)), (68, (m.2 68)), (80, (m.2 80))]) rfl rfl rfl rfl rfl ?_
    obtain ⟨g494a, g494b⟩ := g494
    replace h495 : 0 ≤ x493 → 4 ≤ ((m.2 80) w) ∧ ((m.2 80) w) ≤ 124 := h495
    have T88_496 : TT w D pm_260 (88, [(5, .int (i32 (m.1 69))), (4, .int (i32 ((m.2 80) w))), (3, .int (i32 ((m.2 82) w))), (2, .int (i32 ((m.2 81) w))), (0, .ref 189), (1, .int (i32 w))], [], (mhp (mO m [(10, (m.1 10)), (11, (m.1 11)), (28, (m.1 28)), (69, (m.1 69)), (70, (m.1 70)), (71, (m.1 71)), (72, (m.1 72))] [(65, (m.2 65)), (66, (m.2 66)), (67, (m.2 67)), (68, (m.2 68)), (80, (m.2 80))]) c, N), 0, 0) (Q_join m c N w B) := by
      refine T_ld 89 (.ref 189) rfl (fun _ => rfl) ?_
      refine T_ld 90 (.int (i32 ((m.2 81) w))) rfl (fun _ => rfl) ?_
      refine T_gf 94 (.ref 245) rfl rfl rfl rfl rfl rfl ?_
      refine T_ld 95 (.int (i32 w)) rfl (fun _ => rfl) ?_
      refine T_bald 96 83 (m.2 83) rfl rfl rfl (by omega) (show w < (540 : Int) by omega) rfl ?_
      have e497 : 0 ≤ m.2 83 w ∧ m.2 83 w ≤ 1 := hT.2.1 83 w
      refine T_gf 100 (.ref 246) rfl rfl rfl rfl rfl rfl ?_
      refine T_ld 101 (.int (i32 w)) rfl (fun _ => rfl) ?_
      refine T_lald 102 84 (m.2 84) rfl rfl rfl (by omega) (show w < (540 : Int) by omega) rfl ?_
      have e498 : (-9223372036854775808) ≤ m.2 84 w ∧ m.2 84 w ≤ 9223372036854775807 := hT.2.1 84 w
      refine T_ld 103 (.int (i32 ((m.2 82) w))) rfl (fun _ => rfl) ?_
      refine T_call 106 258 [.ref 189, .int (i32 ((m.2 81) w)), .int (i32 ((m.2 83) w)), .long (i64 ((m.2 84) w)), .int (i32 ((m.2 82) w))] [] rfl (fun _ => rfl) rfl (c_wantBit w (mO m [(10, (m.1 10)), (11, (m.1 11)), (28, (m.1 28)), (69, (m.1 69)), (70, (m.1 70)), (71, (m.1 71)), (72, (m.1 72))] [(65, (m.2 65)), (66, (m.2 66)), (67, (m.2 67)), (68, (m.2 68)), (80, (m.2 80))]) c N D (by omega) (Ty_mO hT rfl rfl ⟨f10, f11, f28, f69, f70, f71, f72, trivial⟩ ⟨(hT.2.1 65), (hT.2.1 66), (hT.2.1 67), (hT.2.1 68), (hT.2.1 80), trivial⟩) ((m.2 81) w) ((m.2 83) w) ((m.2 84) w) ((m.2 82) w) (r32 (by omega) (by omega)) (r32 (by omega) (by omega)) (r64 (by omega) (by omega)) (r32 (by omega) (by omega)) (show 0 ≤ ((m.2 82) w) ∧ ((m.2 82) w) ≤ 4000 by omega) (fun (h : (m.1 10) = 0) => absurd h (by omega))) (fun rr499 k500 => ?_)
      obtain ⟨y501, y503, g502, g504, h505, c506, rfl⟩ := k500
      refine ⟨_, _, rfl, ?_⟩
      refine T_nf (st' := []) (l' := [(10, y501), (11, y503), (28, (m.1 28)), (69, (m.1 69)), (70, (m.1 70)), (71, (m.1 71)), (72, (m.1 72))]) (a' := [(65, (m.2 65)), (66, (m.2 66)), (67, (m.2 67)), (68, (m.2 68)), (80, (m.2 80))]) rfl rfl rfl rfl rfl ?_
      replace h505 : y501 = 0 → (m.1 10) = 0 := h505
      have hf507 : 1 ≤ y501 := by omega
      clear c506
      clear h505
      clear g494a g494b h495
      refine T_ld 107 (.ref 189) rfl (fun _ => rfl) ?_
      refine T_gf 111 (.int (i32 (m.1 69))) rfl rfl rfl rfl rfl rfl ?_
      refine T_gf 115 (.int (i32 (m.1 71))) rfl rfl rfl rfl rfl rfl ?_
      refine T_gf 119 (.long (i64 (m.1 72))) rfl rfl rfl rfl rfl rfl ?_
      refine T_gf 123 (.int (i32 (m.1 70))) rfl rfl rfl rfl rfl rfl ?_
      refine T_call 126 258 [.ref 189, .int (i32 (m.1 69)), .int (i32 (m.1 71)), .long (i64 (m.1 72)), .int (i32 (m.1 70))] [] rfl (fun _ => rfl) rfl (c_wantBit w (mO m [(10, y501), (11, y503), (28, (m.1 28)), (69, (m.1 69)), (70, (m.1 70)), (71, (m.1 71)), (72, (m.1 72))] [(65, (m.2 65)), (66, (m.2 66)), (67, (m.2 67)), (68, (m.2 68)), (80, (m.2 80))]) c N D (by omega) (Ty_mO hT rfl rfl ⟨g502, g504, f28, f69, f70, f71, f72, trivial⟩ ⟨(hT.2.1 65), (hT.2.1 66), (hT.2.1 67), (hT.2.1 68), (hT.2.1 80), trivial⟩) (m.1 69) (m.1 71) (m.1 72) (m.1 70) (r32 (by omega) (by omega)) (r32 (by omega) (by omega)) (r64 (by omega) (by omega)) (r32 (by omega) (by omega)) (show 0 ≤ (m.1 70) ∧ (m.1 70) ≤ 4000 by omega) (fun (h : y501 = 0) => absurd h (by omega))) (fun rr508 k509 => ?_)
      obtain ⟨y510, y512, g511, g513, h514, c515, rfl⟩ := k509
      refine ⟨_, _, rfl, ?_⟩
      refine T_nf (st' := []) (l' := [(10, y510), (11, y512), (28, (m.1 28)), (69, (m.1 69)), (70, (m.1 70)), (71, (m.1 71)), (72, (m.1 72))]) (a' := [(65, (m.2 65)), (66, (m.2 66)), (67, (m.2 67)), (68, (m.2 68)), (80, (m.2 80))]) rfl rfl rfl rfl rfl ?_
      replace h514 : y510 = 0 → y501 = 0 := h514
      have hf516 : 1 ≤ y510 := by omega
      clear c515
      clear h514
      clear g502 g504 hf507
      refine T_ld 127 (.int (i32 1)) rfl (fun _ => rfl) ?_
      refine T_sto 128 [(2, .int (i32 1)), (5, .int (i32 (m.1 69))), (4, .int (i32 ((m.2 80) w))), (3, .int (i32 ((m.2 82) w))), (0, .ref 189), (1, .int (i32 w))] rfl (fun _ => rfl) ?_
      refine T_goto 261 rfl (fun _ => rfl) ?_
      refine T_gf 265 (.ref 242) rfl rfl rfl rfl rfl rfl ?_
      refine T_ld 266 (.int (i32 w)) rfl (fun _ => rfl) ?_
      refine T_ld 267 (.int (i32 (-1))) rfl (fun _ => rfl) ?_
      have G517 : ∀ j, (-1) ≤ (upI (m.2 80) w (-1)) j ∧ (upI (m.2 80) w (-1)) j ≤ 330 := upI_rg (hT.2.1 80) ⟨by omega, by omega⟩
      refine T_iast (a' := [(65, (m.2 65)), (66, (m.2 66)), (67, (m.2 67)), (68, (m.2 68)), (80, upI (m.2 80) w (-1))]) 268 80 (m.2 80) rfl rfl rfl (by omega) (show w < (540 : Int) by omega) rfl rfl ?_
      refine T_ld 269 (.ref 189) rfl (fun _ => rfl) ?_
      refine T_ld 271 (.int (i32 ((m.2 80) w))) rfl (fun _ => rfl) ?_
      refine T_ld 272 (.int (i32 1)) rfl (fun _ => rfl) ?_
      refine T_ld 274 (.int (i32 (m.1 69))) rfl (fun _ => rfl) ?_
      refine T_ld 275 (.long (i64 0)) rfl (fun _ => rfl) ?_
      refine T_call 278 248 [.ref 189, .int (i32 ((m.2 80) w)), .int (i32 1), .int (i32 (m.1 69)), .long (i64 0)] [] rfl (fun _ => rfl) rfl (c_node w (mO m [(10, y510), (11, y512), (28, (m.1 28)), (69, (m.1 69)), (70, (m.1 70)), (71, (m.1 71)), (72, (m.1 72))] [(65, (m.2 65)), (66, (m.2 66)), (67, (m.2 67)), (68, (m.2 68)), (80, upI (m.2 80) w (-1))]) c N D (by omega) (Ty_mO hT rfl rfl ⟨g511, g513, f28, f69, f70, f71, f72, trivial⟩ ⟨(hT.2.1 65), (hT.2.1 66), (hT.2.1 67), (hT.2.1 68), G517, trivial⟩) ((m.2 80) w) 1 (m.1 69) 0 B (1 + lh (m.2 79) (m.2 80) (m.1 73)) (r32 (by omega) (by omega)) ⟨by decide, by decide⟩ (r32 (by omega) (by omega)) ⟨by decide, by decide⟩ (fun (h : y510 = 0) => absurd h (by omega))) (fun rr518 k519 => ?_)
      obtain ⟨y520, y522, y524, F526, F528, F530, F532, g521, g523, g525, G527, G529, G531, G533, h534, c535, rfl⟩ := k519
      refine ⟨_, _, rfl, ?_⟩
      refine T_nf (st' := []) (l' := [(10, y520), (11, y522), (28, y524), (69, (m.1 69)), (70, (m.1 70)), (71, (m.1 71)), (72, (m.1 72))]) (a' := [(65, F526), (66, F528), (67, F530), (68, F532), (80, upI (m.2 80) w (-1))]) rfl rfl rfl rfl rfl ?_
      replace h534 : y520 = 0 → y510 = 0 := h534
      have hf536 : 1 ≤ y520 := by omega
      clear c535
      clear h534
      clear g511 g513 hf516
      refine T_ld 279 (.ref 189) rfl (fun _ => rfl) ?_
      refine T_ld 280 (.int (i32 1)) rfl (fun _ => rfl) ?_
      refine T_ld 281 (.int (i32 ((m.2 82) w))) rfl (fun _ => rfl) ?_
      refine T_call 284 250 [.ref 189, .int (i32 1), .int (i32 ((m.2 82) w))] [] rfl (fun _ => rfl) rfl (c_unit w (mO m [(10, y520), (11, y522), (28, y524), (69, (m.1 69)), (70, (m.1 70)), (71, (m.1 71)), (72, (m.1 72))] [(65, F526), (66, F528), (67, F530), (68, F532), (80, upI (m.2 80) w (-1))]) c N D (by omega) (Ty_mO hT rfl rfl ⟨g521, g523, g525, f69, f70, f71, f72, trivial⟩ ⟨G527, G529, G531, G533, G517, trivial⟩) 1 ((m.2 82) w) ⟨by decide, by decide⟩ (r32 (by omega) (by omega)) (show 0 ≤ (1 : Int) ∧ (1 : Int) ≤ 1024 by omega) (show 0 ≤ ((m.2 82) w) ∧ ((m.2 82) w) ≤ 4000 by omega)) (fun rr537 k538 => ?_)
      obtain ⟨y539, y541, y543, y545, g540, g542, g544, g546, h547, rfl⟩ := k538
      refine ⟨_, _, rfl, ?_⟩
      refine T_nf (st' := []) (l' := [(10, y520), (11, y522), (28, y524), (69, y539), (70, y541), (71, y543), (72, y545)]) (a' := [(65, F526), (66, F528), (67, F530), (68, F532), (80, upI (m.2 80) w (-1))]) rfl rfl rfl rfl rfl ?_
      replace h547 : y539 = (1 : Int) := h547
      refine T_ret rfl (fun _ => rfl) ?_
      exact ⟨y520, y522, y524, y539, y541, y543, y545, F526, F528, F530, F532, upI (m.2 80) w (-1), g521, g523, g525, g540, g542, g544, g546, G527, G529, G531, G533, G517, (by omega), (by omega), (fun h => absurd h (by omega)), rfl⟩
    have T207_548 : TT w D pm_260 (207, [(5, .int (i32 (m.1 69))), (4, .int (i32 ((m.2 80) w))), (3, .int (i32 ((m.2 82) w))), (2, .int (i32 ((m.2 81) w))), (0, .ref 189), (1, .int (i32 w))], [], (mhp (mO m [(10, (m.1 10)), (11, (m.1 11)), (28, (m.1 28)), (69, (m.1 69)), (70, (m.1 70)), (71, (m.1 71)), (72, (m.1 72))] [(65, (m.2 65)), (66, (m.2 66)), (67, (m.2 67)), (68, (m.2 68)), (80, (m.2 80))]) c, N), 0, 0) (Q_join m c N w B) := by
      refine T_ld 208 (.ref 189) rfl (fun _ => rfl) ?_
      refine T_ld 209 (.int (i32 ((m.2 81) w))) rfl (fun _ => rfl) ?_
      refine T_gf 213 (.ref 245) rfl rfl rfl rfl rfl rfl ?_
      refine T_ld 214 (.int (i32 w)) rfl (fun _ => rfl) ?_
      refine T_bald 215 83 (m.2 83) rfl rfl rfl (by omega) (show w < (540 : Int) by omega) rfl ?_
      have e549 : 0 ≤ m.2 83 w ∧ m.2 83 w ≤ 1 := hT.2.1 83 w
      refine T_gf 219 (.ref 246) rfl rfl rfl rfl rfl rfl ?_
      refine T_ld 220 (.int (i32 w)) rfl (fun _ => rfl) ?_
      refine T_lald 221 84 (m.2 84) rfl rfl rfl (by omega) (show w < (540 : Int) by omega) rfl ?_
      have e550 : (-9223372036854775808) ≤ m.2 84 w ∧ m.2 84 w ≤ 9223372036854775807 := hT.2.1 84 w
      refine T_ld 222 (.int (i32 ((m.2 82) w))) rfl (fun _ => rfl) ?_
      refine T_gf 226 (.int (i32 (m.1 69))) rfl rfl rfl rfl rfl rfl ?_
      refine T_gf 230 (.int (i32 (m.1 71))) rfl rfl rfl rfl rfl rfl ?_
      refine T_gf 234 (.long (i64 (m.1 72))) rfl rfl rfl rfl rfl rfl ?_
      refine T_gf 238 (.int (i32 (m.1 70))) rfl rfl rfl rfl rfl rfl ?_
      refine T_call 241 261 [.ref 189, .int (i32 ((m.2 81) w)), .int (i32 ((m.2 83) w)), .long (i64 ((m.2 84) w)), .int (i32 ((m.2 82) w)), .int (i32 (m.1 69)), .int (i32 (m.1 71)), .long (i64 (m.1 72)), .int (i32 (m.1 70))] [] rfl (fun _ => rfl) rfl (c_common w (mO m [(10, (m.1 10)), (11, (m.1 11)), (28, (m.1 28)), (69, (m.1 69)), (70, (m.1 70)), (71, (m.1 71)), (72, (m.1 72))] [(65, (m.2 65)), (66, (m.2 66)), (67, (m.2 67)), (68, (m.2 68)), (80, (m.2 80))]) c N D (by omega) (Ty_mO hT rfl rfl ⟨f10, f11, f28, f69, f70, f71, f72, trivial⟩ ⟨(hT.2.1 65), (hT.2.1 66), (hT.2.1 67), (hT.2.1 68), (hT.2.1 80), trivial⟩) ((m.2 81) w) ((m.2 83) w) ((m.2 84) w) ((m.2 82) w) (m.1 69) (m.1 71) (m.1 72) (m.1 70) (r32 (by omega) (by omega)) (r32 (by omega) (by omega)) (r64 (by omega) (by omega)) (r32 (by omega) (by omega)) (r32 (by omega) (by omega)) (r32 (by omega) (by omega)) (r64 (by omega) (by omega)) (r32 (by omega) (by omega)) (show 0 ≤ ((m.2 82) w) ∧ ((m.2 82) w) ≤ 4000 by omega) (show 0 ≤ (m.1 70) ∧ (m.1 70) ≤ 4000 by omega) (show 0 ≤ ((m.2 81) w) ∧ ((m.2 81) w) ≤ 1024 by omega) (show 0 ≤ (m.1 69) ∧ (m.1 69) ≤ 1024 by omega) (fun (h : (m.1 10) = 0) => absurd h (by omega))) (fun rr551 k552 => ?_)
      obtain ⟨y553, y555, x557, g554, g556, g558, h559, h560, c561, rfl⟩ := k552
      refine ⟨_, _, rfl, ?_⟩
      refine T_nf (st' := [.int (i32 x557)]) (l' := [(10, y553), (11, y555), (28, (m.1 28)), (69, (m.1 69)), (70, (m.1 70)), (71, (m.1 71)), (72, (m.1 72))]) (a' := [(65, (m.2 65)), (66, (m.2 66)), (67, (m.2 67)), (68, (m.2 68)), (80, (m.2 80))]) rfl rfl rfl rfl rfl ?_
      obtain ⟨g558a, g558b⟩ := g558
      replace h559 : y553 = 0 → (m.1 10) = 0 := h559
      replace h560 : x557 = 64 ∨ x557 = ((m.2 81) w) ∨ x557 = (m.1 69) := h560
      have hf562 : 1 ≤ y553 := by omega
      clear c561
      clear h559
      clear g494a g494b h495
      refine T_sto 242 [(2, .int (i32 x557)), (5, .int (i32 (m.1 69))), (4, .int (i32 ((m.2 80) w))), (3, .int (i32 ((m.2 82) w))), (0, .ref 189), (1, .int (i32 w))] rfl (fun _ => rfl) ?_
      refine T_gf 246 (.ref 242) rfl rfl rfl rfl rfl rfl ?_
      refine T_ld 247 (.int (i32 w)) rfl (fun _ => rfl) ?_
      refine T_iald 248 80 (m.2 80) rfl rfl rfl (by omega) (show w < (540 : Int) by omega) rfl ?_
      have e563 : (-1) ≤ (m.2 80) w ∧ (m.2 80) w ≤ 330 := (hT.2.1 80) w
      refine T_call 251 259 [.int (i32 ((m.2 80) w))] [] rfl (fun _ => rfl) rfl (c_level w (mO m [(10, y553), (11, y555), (28, (m.1 28)), (69, (m.1 69)), (70, (m.1 70)), (71, (m.1 71)), (72, (m.1 72))] [(65, (m.2 65)), (66, (m.2 66)), (67, (m.2 67)), (68, (m.2 68)), (80, (m.2 80))]) c N D (by omega) (Ty_mO hT rfl rfl ⟨g554, g556, f28, f69, f70, f71, f72, trivial⟩ ⟨(hT.2.1 65), (hT.2.1 66), (hT.2.1 67), (hT.2.1 68), (hT.2.1 80), trivial⟩) ((m.2 80) w) (r32 (by omega) (by omega))) (fun rr564 k565 => ?_)
      obtain ⟨x566, g567, h568, rfl⟩ := k565
      refine ⟨_, _, rfl, ?_⟩
      refine T_nf (st' := [.int (i32 x566)]) (l' := [(10, y553), (11, y555), (28, (m.1 28)), (69, (m.1 69)), (70, (m.1 70)), (71, (m.1 71)), (72, (m.1 72))]) (a' := [(65, (m.2 65)), (66, (m.2 66)), (67, (m.2 67)), (68, (m.2 68)), (80, (m.2 80))]) rfl rfl rfl rfl rfl ?_
      obtain ⟨g567a, g567b⟩ := g567
      replace h568 : 0 ≤ x566 → 4 ≤ ((m.2 80) w) ∧ ((m.2 80) w) ≤ 124 := h568
      refine T_ld 252 (.int (i32 2)) rfl (fun _ => rfl) ?_
      refine T_icmp 259 255 rfl rfl rfl (r32 (by omega) (by omega)) ⟨by decide, by decide⟩ (fun (h569 : x566 ≠ 2) => ?_) (fun (h569 : ¬ (x566 ≠ 2)) => ?_)
      · skip
        refine T_ld 260 (.int (i32 x557)) rfl (fun _ => rfl) ?_
        refine T_sto 261 [(2, .int (i32 x557)), (5, .int (i32 (m.1 69))), (4, .int (i32 ((m.2 80) w))), (3, .int (i32 ((m.2 82) w))), (0, .ref 189), (1, .int (i32 w))] rfl (fun _ => rfl) ?_
        refine T_gf 265 (.ref 242) rfl rfl rfl rfl rfl rfl ?_
        refine T_ld 266 (.int (i32 w)) rfl (fun _ => rfl) ?_
        refine T_ld 267 (.int (i32 (-1))) rfl (fun _ => rfl) ?_
        have G570 : ∀ j, (-1) ≤ (upI (m.2 80) w (-1)) j ∧ (upI (m.2 80) w (-1)) j ≤ 330 := upI_rg (hT.2.1 80) ⟨by omega, by omega⟩
        refine T_iast (a' := [(65, (m.2 65)), (66, (m.2 66)), (67, (m.2 67)), (68, (m.2 68)), (80, upI (m.2 80) w (-1))]) 268 80 (m.2 80) rfl rfl rfl (by omega) (show w < (540 : Int) by omega) rfl rfl ?_
        refine T_ld 269 (.ref 189) rfl (fun _ => rfl) ?_
        refine T_ld 271 (.int (i32 ((m.2 80) w))) rfl (fun _ => rfl) ?_
        refine T_ld 272 (.int (i32 x557)) rfl (fun _ => rfl) ?_
        refine T_ld 274 (.int (i32 (m.1 69))) rfl (fun _ => rfl) ?_
        refine T_ld 275 (.long (i64 0)) rfl (fun _ => rfl) ?_
        refine T_call 278 248 [.ref 189, .int (i32 ((m.2 80) w)), .int (i32 x557), .int (i32 (m.1 69)), .long (i64 0)] [] rfl (fun _ => rfl) rfl (c_node w (mO m [(10, y553), (11, y555), (28, (m.1 28)), (69, (m.1 69)), (70, (m.1 70)), (71, (m.1 71)), (72, (m.1 72))] [(65, (m.2 65)), (66, (m.2 66)), (67, (m.2 67)), (68, (m.2 68)), (80, upI (m.2 80) w (-1))]) c N D (by omega) (Ty_mO hT rfl rfl ⟨g554, g556, f28, f69, f70, f71, f72, trivial⟩ ⟨(hT.2.1 65), (hT.2.1 66), (hT.2.1 67), (hT.2.1 68), G570, trivial⟩) ((m.2 80) w) x557 (m.1 69) 0 B (1 + lh (m.2 79) (m.2 80) (m.1 73)) (r32 (by omega) (by omega)) (r32 (by omega) (by omega)) (r32 (by omega) (by omega)) ⟨by decide, by decide⟩ (fun (h : y553 = 0) => absurd h (by omega))) (fun rr571 k572 => ?_)
        obtain ⟨y573, y575, y577, F579, F581, F583, F585, g574, g576, g578, G580, G582, G584, G586, h587, c588, rfl⟩ := k572
        refine ⟨_, _, rfl, ?_⟩
        refine T_nf (st' := []) (l' := [(10, y573), (11, y575), (28, y577), (69, (m.1 69)), (70, (m.1 70)), (71, (m.1 71)), (72, (m.1 72))]) (a' := [(65, F579), (66, F581), (67, F583), (68, F585), (80, upI (m.2 80) w (-1))]) rfl rfl rfl rfl rfl ?_
        replace h587 : y573 = 0 → y553 = 0 := h587
        have hf589 : 1 ≤ y573 := by omega
        clear c588
        clear h587
        clear g554 g556 hf562 g567a g567b h568 h569
        refine T_ld 279 (.ref 189) rfl (fun _ => rfl) ?_
        refine T_ld 280 (.int (i32 x557)) rfl (fun _ => rfl) ?_
        refine T_ld 281 (.int (i32 ((m.2 82) w))) rfl (fun _ => rfl) ?_
        refine T_call 284 250 [.ref 189, .int (i32 x557), .int (i32 ((m.2 82) w))] [] rfl (fun _ => rfl) rfl (c_unit w (mO m [(10, y573), (11, y575), (28, y577), (69, (m.1 69)), (70, (m.1 70)), (71, (m.1 71)), (72, (m.1 72))] [(65, F579), (66, F581), (67, F583), (68, F585), (80, upI (m.2 80) w (-1))]) c N D (by omega) (Ty_mO hT rfl rfl ⟨g574, g576, g578, f69, f70, f71, f72, trivial⟩ ⟨G580, G582, G584, G586, G570, trivial⟩) x557 ((m.2 82) w) (r32 (by omega) (by omega)) (r32 (by omega) (by omega)) (show 0 ≤ x557 ∧ x557 ≤ 1024 by omega) (show 0 ≤ ((m.2 82) w) ∧ ((m.2 82) w) ≤ 4000 by omega)) (fun rr590 k591 => ?_)
        obtain ⟨y592, y594, y596, y598, g593, g595, g597, g599, h600, rfl⟩ := k591
        refine ⟨_, _, rfl, ?_⟩
        refine T_nf (st' := []) (l' := [(10, y573), (11, y575), (28, y577), (69, y592), (70, y594), (71, y596), (72, y598)]) (a' := [(65, F579), (66, F581), (67, F583), (68, F585), (80, upI (m.2 80) w (-1))]) rfl rfl rfl rfl rfl ?_
        replace h600 : y592 = x557 := h600
        refine T_ret rfl (fun _ => rfl) ?_
        exact ⟨y573, y575, y577, y592, y594, y596, y598, F579, F581, F583, F585, upI (m.2 80) w (-1), g574, g576, g578, g593, g595, g597, g599, G580, G582, G584, G586, G570, (by omega), (by omega), (fun h => absurd h (by omega)), rfl⟩
      · skip
        refine T_ld 256 (.int (i32 1)) rfl (fun _ => rfl) ?_
        refine T_goto 260 rfl (fun _ => rfl) ?_
        refine T_sto 261 [(2, .int (i32 1)), (5, .int (i32 (m.1 69))), (4, .int (i32 ((m.2 80) w))), (3, .int (i32 ((m.2 82) w))), (0, .ref 189), (1, .int (i32 w))] rfl (fun _ => rfl) ?_
        refine T_gf 265 (.ref 242) rfl rfl rfl rfl rfl rfl ?_
        refine T_ld 266 (.int (i32 w)) rfl (fun _ => rfl) ?_
        refine T_ld 267 (.int (i32 (-1))) rfl (fun _ => rfl) ?_
        have G601 : ∀ j, (-1) ≤ (upI (m.2 80) w (-1)) j ∧ (upI (m.2 80) w (-1)) j ≤ 330 := upI_rg (hT.2.1 80) ⟨by omega, by omega⟩
        refine T_iast (a' := [(65, (m.2 65)), (66, (m.2 66)), (67, (m.2 67)), (68, (m.2 68)), (80, upI (m.2 80) w (-1))]) 268 80 (m.2 80) rfl rfl rfl (by omega) (show w < (540 : Int) by omega) rfl rfl ?_
        refine T_ld 269 (.ref 189) rfl (fun _ => rfl) ?_
        refine T_ld 271 (.int (i32 ((m.2 80) w))) rfl (fun _ => rfl) ?_
        refine T_ld 272 (.int (i32 1)) rfl (fun _ => rfl) ?_
        refine T_ld 274 (.int (i32 (m.1 69))) rfl (fun _ => rfl) ?_
        refine T_ld 275 (.long (i64 0)) rfl (fun _ => rfl) ?_
        refine T_call 278 248 [.ref 189, .int (i32 ((m.2 80) w)), .int (i32 1), .int (i32 (m.1 69)), .long (i64 0)] [] rfl (fun _ => rfl) rfl (c_node w (mO m [(10, y553), (11, y555), (28, (m.1 28)), (69, (m.1 69)), (70, (m.1 70)), (71, (m.1 71)), (72, (m.1 72))] [(65, (m.2 65)), (66, (m.2 66)), (67, (m.2 67)), (68, (m.2 68)), (80, upI (m.2 80) w (-1))]) c N D (by omega) (Ty_mO hT rfl rfl ⟨g554, g556, f28, f69, f70, f71, f72, trivial⟩ ⟨(hT.2.1 65), (hT.2.1 66), (hT.2.1 67), (hT.2.1 68), G601, trivial⟩) ((m.2 80) w) 1 (m.1 69) 0 B (1 + lh (m.2 79) (m.2 80) (m.1 73)) (r32 (by omega) (by omega)) ⟨by decide, by decide⟩ (r32 (by omega) (by omega)) ⟨by decide, by decide⟩ (fun (h : y553 = 0) => absurd h (by omega))) (fun rr602 k603 => ?_)
        obtain ⟨y604, y606, y608, F610, F612, F614, F616, g605, g607, g609, G611, G613, G615, G617, h618, c619, rfl⟩ := k603
        refine ⟨_, _, rfl, ?_⟩
        refine T_nf (st' := []) (l' := [(10, y604), (11, y606), (28, y608), (69, (m.1 69)), (70, (m.1 70)), (71, (m.1 71)), (72, (m.1 72))]) (a' := [(65, F610), (66, F612), (67, F614), (68, F616), (80, upI (m.2 80) w (-1))]) rfl rfl rfl rfl rfl ?_
        replace h618 : y604 = 0 → y553 = 0 := h618
        have hf620 : 1 ≤ y604 := by omega
        clear c619
        clear h618
        clear g554 g556 g558a g558b hf562 h560 g567a g567b h568 h569
        refine T_ld 279 (.ref 189) rfl (fun _ => rfl) ?_
        refine T_ld 280 (.int (i32 1)) rfl (fun _ => rfl) ?_
        refine T_ld 281 (.int (i32 ((m.2 82) w))) rfl (fun _ => rfl) ?_
        refine T_call 284 250 [.ref 189, .int (i32 1), .int (i32 ((m.2 82) w))] [] rfl (fun _ => rfl) rfl (c_unit w (mO m [(10, y604), (11, y606), (28, y608), (69, (m.1 69)), (70, (m.1 70)), (71, (m.1 71)), (72, (m.1 72))] [(65, F610), (66, F612), (67, F614), (68, F616), (80, upI (m.2 80) w (-1))]) c N D (by omega) (Ty_mO hT rfl rfl ⟨g605, g607, g609, f69, f70, f71, f72, trivial⟩ ⟨G611, G613, G615, G617, G601, trivial⟩) 1 ((m.2 82) w) ⟨by decide, by decide⟩ (r32 (by omega) (by omega)) (show 0 ≤ (1 : Int) ∧ (1 : Int) ≤ 1024 by omega) (show 0 ≤ ((m.2 82) w) ∧ ((m.2 82) w) ≤ 4000 by omega)) (fun rr621 k622 => ?_)
        obtain ⟨y623, y625, y627, y629, g624, g626, g628, g630, h631, rfl⟩ := k622
        refine ⟨_, _, rfl, ?_⟩
        refine T_nf (st' := []) (l' := [(10, y604), (11, y606), (28, y608), (69, y623), (70, y625), (71, y627), (72, y629)]) (a' := [(65, F610), (66, F612), (67, F614), (68, F616), (80, upI (m.2 80) w (-1))]) rfl rfl rfl rfl rfl ?_
        replace h631 : y623 = (1 : Int) := h631
        refine T_ret rfl (fun _ => rfl) ?_
        exact ⟨y604, y606, y608, y623, y625, y627, y629, F610, F612, F614, F616, upI (m.2 80) w (-1), g605, g607, g609, g624, g626, g628, g630, G611, G613, G615, G617, G601, (by omega), (by omega), (fun h => absurd h (by omega)), rfl⟩
    by_cases h632 : x493 = 0
    · skip
      refine T_cast 0 h632 ?_
      refine T_pop 88 rfl (fun _ => rfl) ?_
      exact T88_496
    by_cases h633 : x493 = 1
    · skip
      refine T_cast 1 h633 ?_
      refine T_pop 88 rfl (fun _ => rfl) ?_
      exact T88_496
    by_cases h634 : x493 = 6
    · skip
      refine T_cast 6 h634 ?_
      refine T_pop 131 rfl (fun _ => rfl) ?_
      refine T_goto 261 rfl (fun _ => rfl) ?_
      refine T_gf 265 (.ref 242) rfl rfl rfl rfl rfl rfl ?_
      refine T_ld 266 (.int (i32 w)) rfl (fun _ => rfl) ?_
      refine T_ld 267 (.int (i32 (-1))) rfl (fun _ => rfl) ?_
      have G635 : ∀ j, (-1) ≤ (upI (m.2 80) w (-1)) j ∧ (upI (m.2 80) w (-1)) j ≤ 330 := upI_rg (hT.2.1 80) ⟨by omega, by omega⟩
      refine T_iast (a' := [(65, (m.2 65)), (66, (m.2 66)), (67, (m.2 67)), (68, (m.2 68)), (80, upI (m.2 80) w (-1))]) 268 80 (m.2 80) rfl rfl rfl (by omega) (show w < (540 : Int) by omega) rfl rfl ?_
      refine T_ld 269 (.ref 189) rfl (fun _ => rfl) ?_
      refine T_ld 271 (.int (i32 ((m.2 80) w))) rfl (fun _ => rfl) ?_
      refine T_ld 272 (.int (i32 ((m.2 81) w))) rfl (fun _ => rfl) ?_
      refine T_ld 274 (.int (i32 (m.1 69))) rfl (fun _ => rfl) ?_
      refine T_ld 275 (.long (i64 0)) rfl (fun _ => rfl) ?_
      refine T_call 278 248 [.ref 189, .int (i32 ((m.2 80) w)), .int (i32 ((m.2 81) w)), .int (i32 (m.1 69)), .long (i64 0)] [] rfl (fun _ => rfl) rfl (c_node w (mO m [(10, (m.1 10)), (11, (m.1 11)), (28, (m.1 28)), (69, (m.1 69)), (70, (m.1 70)), (71, (m.1 71)), (72, (m.1 72))] [(65, (m.2 65)), (66, (m.2 66)), (67, (m.2 67)), (68, (m.2 68)), (80, upI (m.2 80) w (-1))]) c N D (by omega) (Ty_mO hT rfl rfl ⟨f10, f11, f28, f69, f70, f71, f72, trivial⟩ ⟨(hT.2.1 65), (hT.2.1 66), (hT.2.1 67), (hT.2.1 68), G635, trivial⟩) ((m.2 80) w) ((m.2 81) w) (m.1 69) 0 B (1 + lh (m.2 79) (m.2 80) (m.1 73)) (r32 (by omega) (by omega)) (r32 (by omega) (by omega)) (r32 (by omega) (by omega)) ⟨by decide, by decide⟩ (fun (h : (m.1 10) = 0) => absurd h (by omega))) (fun rr636 k637 => ?_)
      obtain ⟨y638, y640, y642, F644, F646, F648, F650, g639, g641, g643, G645, G647, G649, G651, h652, c653, rfl⟩ := k637
      refine ⟨_, _, rfl, ?_⟩
      refine T_nf (st' := []) (l' := [(10, y638), (11, y640), (28, y642), (69, (m.1 69)), (70, (m.1 70)), (71, (m.1 71)), (72, (m.1 72))]) (a' := [(65, F644), (66, F646), (67, F648), (68, F650), (80, upI (m.2 80) w (-1))]) rfl rfl rfl rfl rfl ?_
      replace h652 : y638 = 0 → (m.1 10) = 0 := h652
      have hf654 : 1 ≤ y638 := by omega
      clear c653
      clear h652
      clear g494a g494b h495
      refine T_ld 279 (.ref 189) rfl (fun _ => rfl) ?_
      refine T_ld 280 (.int (i32 ((m.2 81) w))) rfl (fun _ => rfl) ?_
      refine T_ld 281 (.int (i32 ((m.2 82) w))) rfl (fun _ => rfl) ?_
      refine T_call 284 250 [.ref 189, .int (i32 ((m.2 81) w)), .int (i32 ((m.2 82) w))] [] rfl (fun _ => rfl) rfl (c_unit w (mO m [(10, y638), (11, y640), (28, y642), (69, (m.1 69)), (70, (m.1 70)), (71, (m.1 71)), (72, (m.1 72))] [(65, F644), (66, F646), (67, F648), (68, F650), (80, upI (m.2 80) w (-1))]) c N D (by omega) (Ty_mO hT rfl rfl ⟨g639, g641, g643, f69, f70, f71, f72, trivial⟩ ⟨G645, G647, G649, G651, G635, trivial⟩) ((m.2 81) w) ((m.2 82) w) (r32 (by omega) (by omega)) (r32 (by omega) (by omega)) (show 0 ≤ ((m.2 81) w) ∧ ((m.2 81) w) ≤ 1024 by omega) (show 0 ≤ ((m.2 82) w) ∧ ((m.2 82) w) ≤ 4000 by omega)) (fun rr655 k656 => ?_)
      obtain ⟨y657, y659, y661, y663, g658, g660, g662, g664, h665, rfl⟩ := k656
      refine ⟨_, _, rfl, ?_⟩
      refine T_nf (st' := []) (l' := [(10, y638), (11, y640), (28, y642), (69, y657), (70, y659), (71, y661), (72, y663)]) (a' := [(65, F644), (66, F646), (67, F648), (68, F650), (80, upI (m.2 80) w (-1))]) rfl rfl rfl rfl rfl ?_
      replace h665 : y657 = ((m.2 81) w) := h665
      refine T_ret rfl (fun _ => rfl) ?_
      exact ⟨y638, y640, y642, y657, y659, y661, y663, F644, F646, F648, F650, upI (m.2 80) w (-1), g639, g641, g643, g658, g660, g662, g664, G645, G647, G649, G651, G635, (by omega), (by omega), (fun h => absurd h (by omega)), rfl⟩
    by_cases h666 : x493 = 8
    · skip
      refine T_cast 8 h666 ?_
      refine T_pop 134 rfl (fun _ => rfl) ?_
      refine T_ld 135 (.ref 189) rfl (fun _ => rfl) ?_
      refine T_gf 139 (.ref 245) rfl rfl rfl rfl rfl rfl ?_
      refine T_ld 140 (.int (i32 w)) rfl (fun _ => rfl) ?_
      refine T_bald 141 83 (m.2 83) rfl rfl rfl (by omega) (show w < (540 : Int) by omega) rfl ?_
      have e667 : 0 ≤ m.2 83 w ∧ m.2 83 w ≤ 1 := hT.2.1 83 w
      refine T_if 148 144 rfl rfl rfl (r32 (by omega) (by omega)) (fun (h668 : (m.2 83) w ≠ 0) => ?_) (fun (h668 : ¬ ((m.2 83) w ≠ 0)) => ?_)
      · skip
        refine T_ld 149 (.int (i32 0)) rfl (fun _ => rfl) ?_
        refine T_ld 150 (.int (i32 ((m.2 82) w))) rfl (fun _ => rfl) ?_
        refine T_call 153 256 [.ref 189, .int (i32 0), .int (i32 ((m.2 82) w))] [] rfl (fun _ => rfl) rfl (c_want w (mO m [(10, (m.1 10)), (11, (m.1 11)), (28, (m.1 28)), (69, (m.1 69)), (70, (m.1 70)), (71, (m.1 71)), (72, (m.1 72))] [(65, (m.2 65)), (66, (m.2 66)), (67, (m.2 67)), (68, (m.2 68)), (80, (m.2 80))]) c N D (by omega) (Ty_mO hT rfl rfl ⟨f10, f11, f28, f69, f70, f71, f72, trivial⟩ ⟨(hT.2.1 65), (hT.2.1 66), (hT.2.1 67), (hT.2.1 68), (hT.2.1 80), trivial⟩) 0 ((m.2 82) w) ⟨by decide, by decide⟩ (r32 (by omega) (by omega)) (show 0 ≤ ((m.2 82) w) ∧ ((m.2 82) w) ≤ 4000 by omega) (fun (h : (m.1 10) = 0) => absurd h (by omega))) (fun rr669 k670 => ?_)
        obtain ⟨y671, y673, g672, g674, h675, c676, rfl⟩ := k670
        refine ⟨_, _, rfl, ?_⟩
        refine T_nf (st' := []) (l' := [(10, y671), (11, y673), (28, (m.1 28)), (69, (m.1 69)), (70, (m.1 70)), (71, (m.1 71)), (72, (m.1 72))]) (a' := [(65, (m.2 65)), (66, (m.2 66)), (67, (m.2 67)), (68, (m.2 68)), (80, (m.2 80))]) rfl rfl rfl rfl rfl ?_
        replace h675 : y671 = 0 → (m.1 10) = 0 := h675
        have hf677 : 1 ≤ y671 := by omega
        clear c676
        clear h675
        clear g494a g494b h495
        refine T_ld 154 (.ref 189) rfl (fun _ => rfl) ?_
        refine T_gf 158 (.int (i32 (m.1 71))) rfl rfl rfl rfl rfl rfl ?_
        refine T_if 165 161 rfl rfl rfl (r32 (by omega) (by omega)) (fun (h678 : (m.1 71) ≠ 0) => ?_) (fun (h678 : ¬ ((m.1 71) ≠ 0)) => ?_)
        · skip
          refine T_ld 166 (.int (i32 0)) rfl (fun _ => rfl) ?_
          refine T_gf 170 (.int (i32 (m.1 70))) rfl rfl rfl rfl rfl rfl ?_
          refine T_call 173 256 [.ref 189, .int (i32 0), .int (i32 (m.1 70))] [] rfl (fun _ => rfl) rfl (c_want w (mO m [(10, y671), (11, y673), (28, (m.1 28)), (69, (m.1 69)), (70, (m.1 70)), (71, (m.1 71)), (72, (m.1 72))] [(65, (m.2 65)), (66, (m.2 66)), (67, (m.2 67)), (68, (m.2 68)), (80, (m.2 80))]) c N D (by omega) (Ty_mO hT rfl rfl ⟨g672, g674, f28, f69, f70, f71, f72, trivial⟩ ⟨(hT.2.1 65), (hT.2.1 66), (hT.2.1 67), (hT.2.1 68), (hT.2.1 80), trivial⟩) 0 (m.1 70) ⟨by decide, by decide⟩ (r32 (by omega) (by omega)) (show 0 ≤ (m.1 70) ∧ (m.1 70) ≤ 4000 by omega) (fun (h : y671 = 0) => absurd h (by omega))) (fun rr679 k680 => ?_)
          obtain ⟨y681, y683, g682, g684, h685, c686, rfl⟩ := k680
          refine ⟨_, _, rfl, ?_⟩
          refine T_nf (st' := []) (l' := [(10, y681), (11, y683), (28, (m.1 28)), (69, (m.1 69)), (70, (m.1 70)), (71, (m.1 71)), (72, (m.1 72))]) (a' := [(65, (m.2 65)), (66, (m.2 66)), (67, (m.2 67)), (68, (m.2 68)), (80, (m.2 80))]) rfl rfl rfl rfl rfl ?_
          replace h685 : y681 = 0 → y671 = 0 := h685
          have hf687 : 1 ≤ y681 := by omega
          clear c686
          clear h685
          clear g672 g674 hf677
          refine T_ld 174 (.ref 189) rfl (fun _ => rfl) ?_
          refine T_ld 175 (.int (i32 ((m.2 81) w))) rfl (fun _ => rfl) ?_
          refine T_gf 179 (.int (i32 (m.1 69))) rfl rfl rfl rfl rfl rfl ?_
          refine T_iadd 180 rfl rfl ?_
          refine T_ld 182 (.int (i32 64)) rfl (fun _ => rfl) ?_
          refine T_icmp 189 185 rfl rfl rfl (r32 (by omega) (by omega)) ⟨by decide, by decide⟩ (fun (h688 : (64 : Int) < ((m.2 81) w) + (m.1 69)) => ?_) (fun (h688 : ¬ ((64 : Int) < ((m.2 81) w) + (m.1 69))) => ?_)
          · skip
            refine T_ld 190 (.int (i32 0)) rfl (fun _ => rfl) ?_
            refine T_gf 194 (.int (i32 (m.1 70))) rfl rfl rfl rfl rfl rfl ?_
            refine T_call 197 256 [.ref 189, .int (i32 0), .int (i32 (m.1 70))] [] rfl (fun _ => rfl) rfl (c_want w (mO m [(10, y681), (11, y683), (28, (m.1 28)), (69, (m.1 69)), (70, (m.1 70)), (71, (m.1 71)), (72, (m.1 72))] [(65, (m.2 65)), (66, (m.2 66)), (67, (m.2 67)), (68, (m.2 68)), (80, (m.2 80))]) c N D (by omega) (Ty_mO hT rfl rfl ⟨g682, g684, f28, f69, f70, f71, f72, trivial⟩ ⟨(hT.2.1 65), (hT.2.1 66), (hT.2.1 67), (hT.2.1 68), (hT.2.1 80), trivial⟩) 0 (m.1 70) ⟨by decide, by decide⟩ (r32 (by omega) (by omega)) (show 0 ≤ (m.1 70) ∧ (m.1 70) ≤ 4000 by omega) (fun (h : y681 = 0) => absurd h (by omega))) (fun rr689 k690 => ?_)
            obtain ⟨y691, y693, g692, g694, h695, c696, rfl⟩ := k690
            refine ⟨_, _, rfl, ?_⟩
            refine T_nf (st' := []) (l' := [(10, y691), (11, y693), (28, (m.1 28)), (69, (m.1 69)), (70, (m.1 70)), (71, (m.1 71)), (72, (m.1 72))]) (a' := [(65, (m.2 65)), (66, (m.2 66)), (67, (m.2 67)), (68, (m.2 68)), (80, (m.2 80))]) rfl rfl rfl rfl rfl ?_
            replace h695 : y691 = 0 → y681 = 0 := h695
            have hf697 : 1 ≤ y691 := by omega
            clear c696
            clear h695
            clear g682 g684 hf687
            refine T_ld 198 (.int (i32 ((m.2 81) w))) rfl (fun _ => rfl) ?_
            refine T_gf 202 (.int (i32 (m.1 69))) rfl rfl rfl rfl rfl rfl ?_
            refine T_iadd 203 rfl rfl ?_
            refine T_sto 204 [(2, .int (i32 (((m.2 81) w) + (m.1 69)))), (5, .int (i32 (m.1 69))), (4, .int (i32 ((m.2 80) w))), (3, .int (i32 ((m.2 82) w))), (0, .ref 189), (1, .int (i32 w))] rfl (fun _ => rfl) ?_
            refine T_goto 261 rfl (fun _ => rfl) ?_
            refine T_gf 265 (.ref 242) rfl rfl rfl rfl rfl rfl ?_
            refine T_ld 266 (.int (i32 w)) rfl (fun _ => rfl) ?_
            refine T_ld 267 (.int (i32 (-1))) rfl (fun _ => rfl) ?_
            have G698 : ∀ j, (-1) ≤ (upI (m.2 80) w (-1)) j ∧ (upI (m.2 80) w (-1)) j ≤ 330 := upI_rg (hT.2.1 80) ⟨by omega, by omega⟩
            refine T_iast (a' := [(65, (m.2 65)), (66, (m.2 66)), (67, (m.2 67)), (68, (m.2 68)), (80, upI (m.2 80) w (-1))]) 268 80 (m.2 80) rfl rfl rfl (by omega) (show w < (540 : Int) by omega) rfl rfl ?_
            refine T_ld 269 (.ref 189) rfl (fun _ => rfl) ?_
            refine T_ld 271 (.int (i32 ((m.2 80) w))) rfl (fun _ => rfl) ?_
            refine T_ld 272 (.int (i32 (((m.2 81) w) + (m.1 69)))) rfl (fun _ => rfl) ?_
            refine T_ld 274 (.int (i32 (m.1 69))) rfl (fun _ => rfl) ?_
            refine T_ld 275 (.long (i64 0)) rfl (fun _ => rfl) ?_
            refine T_call 278 248 [.ref 189, .int (i32 ((m.2 80) w)), .int (i32 (((m.2 81) w) + (m.1 69))), .int (i32 (m.1 69)), .long (i64 0)] [] rfl (fun _ => rfl) rfl (c_node w (mO m [(10, y691), (11, y693), (28, (m.1 28)), (69, (m.1 69)), (70, (m.1 70)), (71, (m.1 71)), (72, (m.1 72))] [(65, (m.2 65)), (66, (m.2 66)), (67, (m.2 67)), (68, (m.2 68)), (80, upI (m.2 80) w (-1))]) c N D (by omega) (Ty_mO hT rfl rfl ⟨g692, g694, f28, f69, f70, f71, f72, trivial⟩ ⟨(hT.2.1 65), (hT.2.1 66), (hT.2.1 67), (hT.2.1 68), G698, trivial⟩) ((m.2 80) w) (((m.2 81) w) + (m.1 69)) (m.1 69) 0 B (1 + lh (m.2 79) (m.2 80) (m.1 73)) (r32 (by omega) (by omega)) (r32 (by omega) (by omega)) (r32 (by omega) (by omega)) ⟨by decide, by decide⟩ (fun (h : y691 = 0) => absurd h (by omega))) (fun rr699 k700 => ?_)
            obtain ⟨y701, y703, y705, F707, F709, F711, F713, g702, g704, g706, G708, G710, G712, G714, h715, c716, rfl⟩ := k700
            refine ⟨_, _, rfl, ?_⟩
            refine T_nf (st' := []) (l' := [(10, y701), (11, y703), (28, y705), (69, (m.1 69)), (70, (m.1 70)), (71, (m.1 71)), (72, (m.1 72))]) (a' := [(65, F707), (66, F709), (67, F711), (68, F713), (80, upI (m.2 80) w (-1))]) rfl rfl rfl rfl rfl ?_
            replace h715 : y701 = 0 → y691 = 0 := h715
            have hf717 : 1 ≤ y701 := by omega
            clear c716
            clear h715
            clear g692 g694 hf697
            refine T_ld 279 (.ref 189) rfl (fun _ => rfl) ?_
            refine T_ld 280 (.int (i32 (((m.2 81) w) + (m.1 69)))) rfl (fun _ => rfl) ?_
            refine T_ld 281 (.int (i32 ((m.2 82) w))) rfl (fun _ => rfl) ?_
            refine T_call 284 250 [.ref 189, .int (i32 (((m.2 81) w) + (m.1 69))), .int (i32 ((m.2 82) w))] [] rfl (fun _ => rfl) rfl (c_unit w (mO m [(10, y701), (11, y703), (28, y705), (69, (m.1 69)), (70, (m.1 70)), (71, (m.1 71)), (72, (m.1 72))] [(65, F707), (66, F709), (67, F711), (68, F713), (80, upI (m.2 80) w (-1))]) c N D (by omega) (Ty_mO hT rfl rfl ⟨g702, g704, g706, f69, f70, f71, f72, trivial⟩ ⟨G708, G710, G712, G714, G698, trivial⟩) (((m.2 81) w) + (m.1 69)) ((m.2 82) w) (r32 (by omega) (by omega)) (r32 (by omega) (by omega)) (show 0 ≤ (((m.2 81) w) + (m.1 69)) ∧ (((m.2 81) w) + (m.1 69)) ≤ 1024 by omega) (show 0 ≤ ((m.2 82) w) ∧ ((m.2 82) w) ≤ 4000 by omega)) (fun rr718 k719 => ?_)
            obtain ⟨y720, y722, y724, y726, g721, g723, g725, g727, h728, rfl⟩ := k719
            refine ⟨_, _, rfl, ?_⟩
            refine T_nf (st' := []) (l' := [(10, y701), (11, y703), (28, y705), (69, y720), (70, y722), (71, y724), (72, y726)]) (a' := [(65, F707), (66, F709), (67, F711), (68, F713), (80, upI (m.2 80) w (-1))]) rfl rfl rfl rfl rfl ?_
            replace h728 : y720 = (((m.2 81) w) + (m.1 69)) := h728
            refine T_ret rfl (fun _ => rfl) ?_
            exact ⟨y701, y703, y705, y720, y722, y724, y726, F707, F709, F711, F713, upI (m.2 80) w (-1), g702, g704, g706, g721, g723, g725, g727, G708, G710, G712, G714, G698, (by omega), (by omega), (fun h => absurd h (by omega)), rfl⟩
          · skip
            refine T_ld 186 (.int (i32 1)) rfl (fun _ => rfl) ?_
            refine T_goto 190 rfl (fun _ => rfl) ?_
            refine T_gf 194 (.int (i32 (m.1 70))) rfl rfl rfl rfl rfl rfl ?_
            refine T_call 197 256 [.ref 189, .int (i32 1), .int (i32 (m.1 70))] [] rfl (fun _ => rfl) rfl (c_want w (mO m [(10, y681), (11, y683), (28, (m.1 28)), (69, (m.1 69)), (70, (m.1 70)), (71, (m.1 71)), (72, (m.1 72))] [(65, (m.2 65)), (66, (m.2 66)), (67, (m.2 67)), (68, (m.2 68)), (80, (m.2 80))]) c N D (by omega) (Ty_mO hT rfl rfl ⟨g682, g684, f28, f69, f70, f71, f72, trivial⟩ ⟨(hT.2.1 65), (hT.2.1 66), (hT.2.1 67), (hT.2.1 68), (hT.2.1 80), trivial⟩) 1 (m.1 70) ⟨by decide, by decide⟩ (r32 (by omega) (by omega)) (show 0 ≤ (m.1 70) ∧ (m.1 70) ≤ 4000 by omega) (fun (h : y681 = 0) => absurd h (by omega))) (fun rr729 k730 => ?_)
            obtain ⟨y731, y733, g732, g734, h735, c736, rfl⟩ := k730
            refine ⟨_, _, rfl, ?_⟩
            refine T_nf (st' := []) (l' := [(10, y731), (11, y733), (28, (m.1 28)), (69, (m.1 69)), (70, (m.1 70)), (71, (m.1 71)), (72, (m.1 72))]) (a' := [(65, (m.2 65)), (66, (m.2 66)), (67, (m.2 67)), (68, (m.2 68)), (80, (m.2 80))]) rfl rfl rfl rfl rfl ?_
            replace h735 : y731 = 0 → y681 = 0 := h735
            have hf737 : 1 ≤ y731 := by omega
            clear c736
            clear h735
            clear g682 g684 hf687
            refine T_ld 198 (.int (i32 ((m.2 81) w))) rfl (fun _ => rfl) ?_
            refine T_gf 202 (.int (i32 (m.1 69))) rfl rfl rfl rfl rfl rfl ?_
            refine T_iadd 203 rfl rfl ?_
            refine T_sto 204 [(2, .int (i32 (((m.2 81) w) + (m.1 69)))), (5, .int (i32 (m.1 69))), (4, .int (i32 ((m.2 80) w))), (3, .int (i32 ((m.2 82) w))), (0, .ref 189), (1, .int (i32 w))] rfl (fun _ => rfl) ?_
            refine T_goto 261 rfl (fun _ => rfl) ?_
            refine T_gf 265 (.ref 242) rfl rfl rfl rfl rfl rfl ?_
            refine T_ld 266 (.int (i32 w)) rfl (fun _ => rfl) ?_
            refine T_ld 267 (.int (i32 (-1))) rfl (fun _ => rfl) ?_
            have G738 : ∀ j, (-1) ≤ (upI (m.2 80) w (-1)) j ∧ (upI (m.2 80) w (-1)) j ≤ 330 := upI_rg (hT.2.1 80) ⟨by omega, by omega⟩
            refine T_iast (a' := [(65, (m.2 65)), (66, (m.2 66)), (67, (m.2 67)), (68, (m.2 68)), (80, upI (m.2 80) w (-1))]) 268 80 (m.2 80) rfl rfl rfl (by omega) (show w < (540 : Int) by omega) rfl rfl ?_
            refine T_ld 269 (.ref 189) rfl (fun _ => rfl) ?_
            refine T_ld 271 (.int (i32 ((m.2 80) w))) rfl (fun _ => rfl) ?_
            refine T_ld 272 (.int (i32 (((m.2 81) w) + (m.1 69)))) rfl (fun _ => rfl) ?_
            refine T_ld 274 (.int (i32 (m.1 69))) rfl (fun _ => rfl) ?_
            refine T_ld 275 (.long (i64 0)) rfl (fun _ => rfl) ?_
            refine T_call 278 248 [.ref 189, .int (i32 ((m.2 80) w)), .int (i32 (((m.2 81) w) + (m.1 69))), .int (i32 (m.1 69)), .long (i64 0)] [] rfl (fun _ => rfl) rfl (c_node w (mO m [(10, y731), (11, y733), (28, (m.1 28)), (69, (m.1 69)), (70, (m.1 70)), (71, (m.1 71)), (72, (m.1 72))] [(65, (m.2 65)), (66, (m.2 66)), (67, (m.2 67)), (68, (m.2 68)), (80, upI (m.2 80) w (-1))]) c N D (by omega) (Ty_mO hT rfl rfl ⟨g732, g734, f28, f69, f70, f71, f72, trivial⟩ ⟨(hT.2.1 65), (hT.2.1 66), (hT.2.1 67), (hT.2.1 68), G738, trivial⟩) ((m.2 80) w) (((m.2 81) w) + (m.1 69)) (m.1 69) 0 B (1 + lh (m.2 79) (m.2 80) (m.1 73)) (r32 (by omega) (by omega)) (r32 (by omega) (by omega)) (r32 (by omega) (by omega)) ⟨by decide, by decide⟩ (fun (h : y731 = 0) => absurd h (by omega))) (fun rr739 k740 => ?_)
            obtain ⟨y741, y743, y745, F747, F749, F751, F753, g742, g744, g746, G748, G750, G752, G754, h755, c756, rfl⟩ := k740
            refine ⟨_, _, rfl, ?_⟩
            refine T_nf (st' := []) (l' := [(10, y741), (11, y743), (28, y745), (69, (m.1 69)), (70, (m.1 70)), (71, (m.1 71)), (72, (m.1 72))]) (a' := [(65, F747), (66, F749), (67, F751), (68, F753), (80, upI (m.2 80) w (-1))]) rfl rfl rfl rfl rfl ?_
            replace h755 : y741 = 0 → y731 = 0 := h755
            have hf757 : 1 ≤ y741 := by omega
            clear c756
            clear h755
            clear g732 g734 hf737
            refine T_ld 279 (.ref 189) rfl (fun _ => rfl) ?_
            refine T_ld 280 (.int (i32 (((m.2 81) w) + (m.1 69)))) rfl (fun _ => rfl) ?_
            refine T_ld 281 (.int (i32 ((m.2 82) w))) rfl (fun _ => rfl) ?_
            refine T_call 284 250 [.ref 189, .int (i32 (((m.2 81) w) + (m.1 69))), .int (i32 ((m.2 82) w))] [] rfl (fun _ => rfl) rfl (c_unit w (mO m [(10, y741), (11, y743), (28, y745), (69, (m.1 69)), (70, (m.1 70)), (71, (m.1 71)), (72, (m.1 72))] [(65, F747), (66, F749), (67, F751), (68, F753), (80, upI (m.2 80) w (-1))]) c N D (by omega) (Ty_mO hT rfl rfl ⟨g742, g744, g746, f69, f70, f71, f72, trivial⟩ ⟨G748, G750, G752, G754, G738, trivial⟩) (((m.2 81) w) + (m.1 69)) ((m.2 82) w) (r32 (by omega) (by omega)) (r32 (by omega) (by omega)) (show 0 ≤ (((m.2 81) w) + (m.1 69)) ∧ (((m.2 81) w) + (m.1 69)) ≤ 1024 by omega) (show 0 ≤ ((m.2 82) w) ∧ ((m.2 82) w) ≤ 4000 by omega)) (fun rr758 k759 => ?_)
            obtain ⟨y760, y762, y764, y766, g761, g763, g765, g767, h768, rfl⟩ := k759
            refine ⟨_, _, rfl, ?_⟩
            refine T_nf (st' := []) (l' := [(10, y741), (11, y743), (28, y745), (69, y760), (70, y762), (71, y764), (72, y766)]) (a' := [(65, F747), (66, F749), (67, F751), (68, F753), (80, upI (m.2 80) w (-1))]) rfl rfl rfl rfl rfl ?_
            replace h768 : y760 = (((m.2 81) w) + (m.1 69)) := h768
            refine T_ret rfl (fun _ => rfl) ?_
            exact ⟨y741, y743, y745, y760, y762, y764, y766, F747, F749, F751, F753, upI (m.2 80) w (-1), g742, g744, g746, g761, g763, g765, g767, G748, G750, G752, G754, G738, (by omega), (by omega), (fun h => absurd h (by omega)), rfl⟩
        · skip
          refine T_ld 162 (.int (i32 1)) rfl (fun _ => rfl) ?_
          refine T_goto 166 rfl (fun _ => rfl) ?_
          refine T_gf 170 (.int (i32 (m.1 70))) rfl rfl rfl rfl rfl rfl ?_
          refine T_call 173 256 [.ref 189, .int (i32 1), .int (i32 (m.1 70))] [] rfl (fun _ => rfl) rfl (c_want w (mO m [(10, y671), (11, y673), (28, (m.1 28)), (69, (m.1 69)), (70, (m.1 70)), (71, (m.1 71)), (72, (m.1 72))] [(65, (m.2 65)), (66, (m.2 66)), (67, (m.2 67)), (68, (m.2 68)), (80, (m.2 80))]) c N D (by omega) (Ty_mO hT rfl rfl ⟨g672, g674, f28, f69, f70, f71, f72, trivial⟩ ⟨(hT.2.1 65), (hT.2.1 66), (hT.2.1 67), (hT.2.1 68), (hT.2.1 80), trivial⟩) 1 (m.1 70) ⟨by decide, by decide⟩ (r32 (by omega) (by omega)) (show 0 ≤ (m.1 70) ∧ (m.1 70) ≤ 4000 by omega) (fun (h : y671 = 0) => absurd h (by omega))) (fun rr769 k770 => ?_)
          obtain ⟨y771, y773, g772, g774, h775, c776, rfl⟩ := k770
          refine ⟨_, _, rfl, ?_⟩
          refine T_nf (st' := []) (l' := [(10, y771), (11, y773), (28, (m.1 28)), (69, (m.1 69)), (70, (m.1 70)), (71, (m.1 71)), (72, (m.1 72))]) (a' := [(65, (m.2 65)), (66, (m.2 66)), (67, (m.2 67)), (68, (m.2 68)), (80, (m.2 80))]) rfl rfl rfl rfl rfl ?_
          replace h775 : y771 = 0 → y671 = 0 := h775
          have hf777 : 1 ≤ y771 := by omega
          clear c776
          clear h775
          clear g672 g674 hf677
          refine T_ld 174 (.ref 189) rfl (fun _ => rfl) ?_
          refine T_ld 175 (.int (i32 ((m.2 81) w))) rfl (fun _ => rfl) ?_
          refine T_gf 179 (.int (i32 (m.1 69))) rfl rfl rfl rfl rfl rfl ?_
          refine T_iadd 180 rfl rfl ?_
          refine T_ld 182 (.int (i32 64)) rfl (fun _ => rfl) ?_
          refine T_icmp 189 185 rfl rfl rfl (r32 (by omega) (by omega)) ⟨by decide, by decide⟩ (fun (h778 : (64 : Int) < ((m.2 81) w) + (m.1 69)) => ?_) (fun (h778 : ¬ ((64 : Int) < ((m.2 81) w) + (m.1 69))) => ?_)
          · skip
            refine T_ld 190 (.int (i32 0)) rfl (fun _ => rfl) ?_
            refine T_gf 194 (.int (i32 (m.1 70))) rfl rfl rfl rfl rfl rfl ?_
            refine T_call 197 256 [.ref 189, .int (i32 0), .int (i32 (m.1 70))] [] rfl (fun _ => rfl) rfl (c_want w (mO m [(10, y771), (11, y773), (28, (m.1 28)), (69, (m.1 69)), (70, (m.1 70)), (71, (m.1 71)), (72, (m.1 72))] [(65, (m.2 65)), (66, (m.2 66)), (67, (m.2 67)), (68, (m.2 68)), (80, (m.2 80))]) c N D (by omega) (Ty_mO hT rfl rfl ⟨g772, g774, f28, f69, f70, f71, f72, trivial⟩ ⟨(hT.2.1 65), (hT.2.1 66), (hT.2.1 67), (hT.2.1 68), (hT.2.1 80), trivial⟩) 0 (m.1 70) ⟨by decide, by decide⟩ (r32 (by omega) (by omega)) (show 0 ≤ (m.1 70) ∧ (m.1 70) ≤ 4000 by omega) (fun (h : y771 = 0) => absurd h (by omega))) (fun rr779 k780 => ?_)
            obtain ⟨y781, y783, g782, g784, h785, c786, rfl⟩ := k780
            refine ⟨_, _, rfl, ?_⟩
            refine T_nf (st' := []) (l' := [(10, y781), (11, y783), (28, (m.1 28)), (69, (m.1 69)), (70, (m.1 70)), (71, (m.1 71)), (72, (m.1 72))]) (a' := [(65, (m.2 65)), (66, (m.2 66)), (67, (m.2 67)), (68, (m.2 68)), (80, (m.2 80))]) rfl rfl rfl rfl rfl ?_
            replace h785 : y781 = 0 → y771 = 0 := h785
            have hf787 : 1 ≤ y781 := by omega
            clear c786
            clear h785
            clear g772 g774 hf777
            refine T_ld 198 (.int (i32 ((m.2 81) w))) rfl (fun _ => rfl) ?_
            refine T_gf 202 (.int (i32 (m.1 69))) rfl rfl rfl rfl rfl rfl ?_
            refine T_iadd 203 rfl rfl ?_
            refine T_sto 204 [(2, .int (i32 (((m.2 81) w) + (m.1 69)))), (5, .int (i32 (m.1 69))), (4, .int (i32 ((m.2 80) w))), (3, .int (i32 ((m.2 82) w))), (0, .ref 189), (1, .int (i32 w))] rfl (fun _ => rfl) ?_
            refine T_goto 261 rfl (fun _ => rfl) ?_
            refine T_gf 265 (.ref 242) rfl rfl rfl rfl rfl rfl ?_
            refine T_ld 266 (.int (i32 w)) rfl (fun _ => rfl) ?_
            refine T_ld 267 (.int (i32 (-1))) rfl (fun _ => rfl) ?_
            have G788 : ∀ j, (-1) ≤ (upI (m.2 80) w (-1)) j ∧ (upI (m.2 80) w (-1)) j ≤ 330 := upI_rg (hT.2.1 80) ⟨by omega, by omega⟩
            refine T_iast (a' := [(65, (m.2 65)), (66, (m.2 66)), (67, (m.2 67)), (68, (m.2 68)), (80, upI (m.2 80) w (-1))]) 268 80 (m.2 80) rfl rfl rfl (by omega) (show w < (540 : Int) by omega) rfl rfl ?_
            refine T_ld 269 (.ref 189) rfl (fun _ => rfl) ?_
            refine T_ld 271 (.int (i32 ((m.2 80) w))) rfl (fun _ => rfl) ?_
            refine T_ld 272 (.int (i32 (((m.2 81) w) + (m.1 69)))) rfl (fun _ => rfl) ?_
            refine T_ld 274 (.int (i32 (m.1 69))) rfl (fun _ => rfl) ?_
            refine T_ld 275 (.long (i64 0)) rfl (fun _ => rfl) ?_
            refine T_call 278 248 [.ref 189, .int (i32 ((m.2 80) w)), .int (i32 (((m.2 81) w) + (m.1 69))), .int (i32 (m.1 69)), .long (i64 0)] [] rfl (fun _ => rfl) rfl (c_node w (mO m [(10, y781), (11, y783), (28, (m.1 28)), (69, (m.1 69)), (70, (m.1 70)), (71, (m.1 71)), (72, (m.1 72))] [(65, (m.2 65)), (66, (m.2 66)), (67, (m.2 67)), (68, (m.2 68)), (80, upI (m.2 80) w (-1))]) c N D (by omega) (Ty_mO hT rfl rfl ⟨g782, g784, f28, f69, f70, f71, f72, trivial⟩ ⟨(hT.2.1 65), (hT.2.1 66), (hT.2.1 67), (hT.2.1 68), G788, trivial⟩) ((m.2 80) w) (((m.2 81) w) + (m.1 69)) (m.1 69) 0 B (1 + lh (m.2 79) (m.2 80) (m.1 73)) (r32 (by omega) (by omega)) (r32 (by omega) (by omega)) (r32 (by omega) (by omega)) ⟨by decide, by decide⟩ (fun (h : y781 = 0) => absurd h (by omega))) (fun rr789 k790 => ?_)
            obtain ⟨y791, y793, y795, F797, F799, F801, F803, g792, g794, g796, G798, G800, G802, G804, h805, c806, rfl⟩ := k790
            refine ⟨_, _, rfl, ?_⟩
            refine T_nf (st' := []) (l' := [(10, y791), (11, y793), (28, y795), (69, (m.1 69)), (70, (m.1 70)), (71, (m.1 71)), (72, (m.1 72))]) (a' := [(65, F797), (66, F799), (67, F801), (68, F803), (80, upI (m.2 80) w (-1))]) rfl rfl rfl rfl rfl ?_
            replace h805 : y791 = 0 → y781 = 0 := h805
            have hf807 : 1 ≤ y791 := by omega
            clear c806
            clear h805
            clear g782 g784 hf787
            refine T_ld 279 (.ref 189) rfl (fun _ => rfl) ?_
            refine T_ld 280 (.int (i32 (((m.2 81) w) + (m.1 69)))) rfl (fun _ => rfl) ?_
            refine T_ld 281 (.int (i32 ((m.2 82) w))) rfl (fun _ => rfl) ?_
            refine T_call 284 250 [.ref 189, .int (i32 (((m.2 81) w) + (m.1 69))), .int (i32 ((m.2 82) w))] [] rfl (fun _ => rfl) rfl (c_unit w (mO m [(10, y791), (11, y793), (28, y795), (69, (m.1 69)), (70, (m.1 70)), (71, (m.1 71)), (72, (m.1 72))] [(65, F797), (66, F799), (67, F801), (68, F803), (80, upI (m.2 80) w (-1))]) c N D (by omega) (Ty_mO hT rfl rfl ⟨g792, g794, g796, f69, f70, f71, f72, trivial⟩ ⟨G798, G800, G802, G804, G788, trivial⟩) (((m.2 81) w) + (m.1 69)) ((m.2 82) w) (r32 (by omega) (by omega)) (r32 (by omega) (by omega)) (show 0 ≤ (((m.2 81) w) + (m.1 69)) ∧ (((m.2 81) w) + (m.1 69)) ≤ 1024 by omega) (show 0 ≤ ((m.2 82) w) ∧ ((m.2 82) w) ≤ 4000 by omega)) (fun rr808 k809 => ?_)
            obtain ⟨y810, y812, y814, y816, g811, g813, g815, g817, h818, rfl⟩ := k809
            refine ⟨_, _, rfl, ?_⟩
            refine T_nf (st' := []) (l' := [(10, y791), (11, y793), (28, y795), (69, y810), (70, y812), (71, y814), (72, y816)]) (a' := [(65, F797), (66, F799), (67, F801), (68, F803), (80, upI (m.2 80) w (-1))]) rfl rfl rfl rfl rfl ?_
            replace h818 : y810 = (((m.2 81) w) + (m.1 69)) := h818
            refine T_ret rfl (fun _ => rfl) ?_
            exact ⟨y791, y793, y795, y810, y812, y814, y816, F797, F799, F801, F803, upI (m.2 80) w (-1), g792, g794, g796, g811, g813, g815, g817, G798, G800, G802, G804, G788, (by omega), (by omega), (fun h => absurd h (by omega)), rfl⟩
          · skip
            refine T_ld 186 (.int (i32 1)) rfl (fun _ => rfl) ?_
            refine T_goto 190 rfl (fun _ => rfl) ?_
            refine T_gf 194 (.int (i32 (m.1 70))) rfl rfl rfl rfl rfl rfl ?_
            refine T_call 197 256 [.ref 189, .int (i32 1), .int (i32 (m.1 70))] [] rfl (fun _ => rfl) rfl (c_want w (mO m [(10, y771), (11, y773), (28, (m.1 28)), (69, (m.1 69)), (70, (m.1 70)), (71, (m.1 71)), (72, (m.1 72))] [(65, (m.2 65)), (66, (m.2 66)), (67, (m.2 67)), (68, (m.2 68)), (80, (m.2 80))]) c N D (by omega) (Ty_mO hT rfl rfl ⟨g772, g774, f28, f69, f70, f71, f72, trivial⟩ ⟨(hT.2.1 65), (hT.2.1 66), (hT.2.1 67), (hT.2.1 68), (hT.2.1 80), trivial⟩) 1 (m.1 70) ⟨by decide, by decide⟩ (r32 (by omega) (by omega)) (show 0 ≤ (m.1 70) ∧ (m.1 70) ≤ 4000 by omega) (fun (h : y771 = 0) => absurd h (by omega))) (fun rr819 k820 => ?_)
            obtain ⟨y821, y823, g822, g824, h825, c826, rfl⟩ := k820
            refine ⟨_, _, rfl, ?_⟩
            refine T_nf (st' := []) (l' := [(10, y821), (11, y823), (28, (m.1 28)), (69, (m.1 69)), (70, (m.1 70)), (71, (m.1 71)), (72, (m.1 72))]) (a' := [(65, (m.2 65)), (66, (m.2 66)), (67, (m.2 67)), (68, (m.2 68)), (80, (m.2 80))]) rfl rfl rfl rfl rfl ?_
            replace h825 : y821 = 0 → y771 = 0 := h825
            have hf827 : 1 ≤ y821 := by omega
            clear c826
            clear h825
            clear g772 g774 hf777
            refine T_ld 198 (.int (i32 ((m.2 81) w))) rfl (fun _ => rfl) ?_
            refine T_gf 202 (.int (i32 (m.1 69))) rfl rfl rfl rfl rfl rfl ?_
            refine T_iadd 203 rfl rfl ?_
            refine T_sto 204 [(2, .int (i32 (((m.2 81) w) + (m.1 69)))), (5, .int (i32 (m.1 69))), (4, .int (i32 ((m.2 80) w))), (3, .int (i32 ((m.2 82) w))), (0, .ref 189), (1, .int (i32 w))] rfl (fun _ => rfl) ?_
            refine T_goto 261 rfl (fun _ => rfl) ?_
            refine T_gf 265 (.ref 242) rfl rfl rfl rfl rfl rfl ?_
            refine T_ld 266 (.int (i32 w)) rfl (fun _ => rfl) ?_
            refine T_ld 267 (.int (i32 (-1))) rfl (fun _ => rfl) ?_
            have G828 : ∀ j, (-1) ≤ (upI (m.2 80) w (-1)) j ∧ (upI (m.2 80) w (-1)) j ≤ 330 := upI_rg (hT.2.1 80) ⟨by omega, by omega⟩
            refine T_iast (a' := [(65, (m.2 65)), (66, (m.2 66)), (67, (m.2 67)), (68, (m.2 68)), (80, upI (m.2 80) w (-1))]) 268 80 (m.2 80) rfl rfl rfl (by omega) (show w < (540 : Int) by omega) rfl rfl ?_
            refine T_ld 269 (.ref 189) rfl (fun _ => rfl) ?_
            refine T_ld 271 (.int (i32 ((m.2 80) w))) rfl (fun _ => rfl) ?_
            refine T_ld 272 (.int (i32 (((m.2 81) w) + (m.1 69)))) rfl (fun _ => rfl) ?_
            refine T_ld 274 (.int (i32 (m.1 69))) rfl (fun _ => rfl) ?_
            refine T_ld 275 (.long (i64 0)) rfl (fun _ => rfl) ?_
            refine T_call 278 248 [.ref 189, .int (i32 ((m.2 80) w)), .int (i32 (((m.2 81) w) + (m.1 69))), .int (i32 (m.1 69)), .long (i64 0)] [] rfl (fun _ => rfl) rfl (c_node w (mO m [(10, y821), (11, y823), (28, (m.1 28)), (69, (m.1 69)), (70, (m.1 70)), (71, (m.1 71)), (72, (m.1 72))] [(65, (m.2 65)), (66, (m.2 66)), (67, (m.2 67)), (68, (m.2 68)), (80, upI (m.2 80) w (-1))]) c N D (by omega) (Ty_mO hT rfl rfl ⟨g822, g824, f28, f69, f70, f71, f72, trivial⟩ ⟨(hT.2.1 65), (hT.2.1 66), (hT.2.1 67), (hT.2.1 68), G828, trivial⟩) ((m.2 80) w) (((m.2 81) w) + (m.1 69)) (m.1 69) 0 B (1 + lh (m.2 79) (m.2 80) (m.1 73)) (r32 (by omega) (by omega)) (r32 (by omega) (by omega)) (r32 (by omega) (by omega)) ⟨by decide, by decide⟩ (fun (h : y821 = 0) => absurd h (by omega))) (fun rr829 k830 => ?_)
            obtain ⟨y831, y833, y835, F837, F839, F841, F843, g832, g834, g836, G838, G840, G842, G844, h845, c846, rfl⟩ := k830
            refine ⟨_, _, rfl, ?_⟩
            refine T_nf (st' := []) (l' := [(10, y831), (11, y833), (28, y835), (69, (m.1 69)), (70, (m.1 70)), (71, (m.1 71)), (72, (m.1 72))]) (a' := [(65, F837), (66, F839), (67, F841), (68, F843), (80, upI (m.2 80) w (-1))]) rfl rfl rfl rfl rfl ?_
            replace h845 : y831 = 0 → y821 = 0 := h845
            have hf847 : 1 ≤ y831 := by omega
            clear c846
            clear h845
            clear g822 g824 hf827
            refine T_ld 279 (.ref 189) rfl (fun _ => rfl) ?_
            refine T_ld 280 (.int (i32 (((m.2 81) w) + (m.1 69)))) rfl (fun _ => rfl) ?_
            refine T_ld 281 (.int (i32 ((m.2 82) w))) rfl (fun _ => rfl) ?_
            refine T_call 284 250 [.ref 189, .int (i32 (((m.2 81) w) + (m.1 69))), .int (i32 ((m.2 82) w))] [] rfl (fun _ => rfl) rfl (c_unit w (mO m [(10, y831), (11, y833), (28, y835), (69, (m.1 69)), (70, (m.1 70)), (71, (m.1 71)), (72, (m.1 72))] [(65, F837), (66, F839), (67, F841), (68, F843), (80, upI (m.2 80) w (-1))]) c N D (by omega) (Ty_mO hT rfl rfl ⟨g832, g834, g836, f69, f70, f71, f72, trivial⟩ ⟨G838, G840, G842, G844, G828, trivial⟩) (((m.2 81) w) + (m.1 69)) ((m.2 82) w) (r32 (by omega) (by omega)) (r32 (by omega) (by omega)) (show 0 ≤ (((m.2 81) w) + (m.1 69)) ∧ (((m.2 81) w) + (m.1 69)) ≤ 1024 by omega) (show 0 ≤ ((m.2 82) w) ∧ ((m.2 82) w) ≤ 4000 by omega)) (fun rr848 k849 => ?_)
            obtain ⟨y850, y852, y854, y856, g851, g853, g855, g857, h858, rfl⟩ := k849
            refine ⟨_, _, rfl, ?_⟩
            refine T_nf (st' := []) (l' := [(10, y831), (11, y833), (28, y835), (69, y850), (70, y852), (71, y854), (72, y856)]) (a' := [(65, F837), (66, F839), (67, F841), (68, F843), (80, upI (m.2 80) w (-1))]) rfl rfl rfl rfl rfl ?_
            replace h858 : y850 = (((m.2 81) w) + (m.1 69)) := h858
            refine T_ret rfl (fun _ => rfl) ?_
            exact ⟨y831, y833, y835, y850, y852, y854, y856, F837, F839, F841, F843, upI (m.2 80) w (-1), g832, g834, g836, g851, g853, g855, g857, G838, G840, G842, G844, G828, (by omega), (by omega), (fun h => absurd h (by omega)), rfl⟩
      · skip
        refine T_ld 145 (.int (i32 1)) rfl (fun _ => rfl) ?_
        refine T_goto 149 rfl (fun _ => rfl) ?_
        refine T_ld 150 (.int (i32 ((m.2 82) w))) rfl (fun _ => rfl) ?_
        refine T_call 153 256 [.ref 189, .int (i32 1), .int (i32 ((m.2 82) w))] [] rfl (fun _ => rfl) rfl (c_want w (mO m [(10, (m.1 10)), (11, (m.1 11)), (28, (m.1 28)), (69, (m.1 69)), (70, (m.1 70)), (71, (m.1 71)), (72, (m.1 72))] [(65, (m.2 65)), (66, (m.2 66)), (67, (m.2 67)), (68, (m.2 68)), (80, (m.2 80))]) c N D (by omega) (Ty_mO hT rfl rfl ⟨f10, f11, f28, f69, f70, f71, f72, trivial⟩ ⟨(hT.2.1 65), (hT.2.1 66), (hT.2.1 67), (hT.2.1 68), (hT.2.1 80), trivial⟩) 1 ((m.2 82) w) ⟨by decide, by decide⟩ (r32 (by omega) (by omega)) (show 0 ≤ ((m.2 82) w) ∧ ((m.2 82) w) ≤ 4000 by omega) (fun (h : (m.1 10) = 0) => absurd h (by omega))) (fun rr859 k860 => ?_)
        obtain ⟨y861, y863, g862, g864, h865, c866, rfl⟩ := k860
        refine ⟨_, _, rfl, ?_⟩
        refine T_nf (st' := []) (l' := [(10, y861), (11, y863), (28, (m.1 28)), (69, (m.1 69)), (70, (m.1 70)), (71, (m.1 71)), (72, (m.1 72))]) (a' := [(65, (m.2 65)), (66, (m.2 66)), (67, (m.2 67)), (68, (m.2 68)), (80, (m.2 80))]) rfl rfl rfl rfl rfl ?_
        replace h865 : y861 = 0 → (m.1 10) = 0 := h865
        have hf867 : 1 ≤ y861 := by omega
        clear c866
        clear h865
        clear g494a g494b h495
        refine T_ld 154 (.ref 189) rfl (fun _ => rfl) ?_
        refine T_gf 158 (.int (i32 (m.1 71))) rfl rfl rfl rfl rfl rfl ?_
        refine T_if 165 161 rfl rfl rfl (r32 (by omega) (by omega)) (fun (h868 : (m.1 71) ≠ 0) => ?_) (fun (h868 : ¬ ((m.1 71) ≠ 0)) => ?_)
        · skip
          refine T_ld 166 (.int (i32 0)) rfl (fun _ => rfl) ?_
          refine T_gf 170 (.int (i32 (m.1 70))) rfl rfl rfl rfl rfl rfl ?_
          refine T_call 173 256 [.ref 189, .int (i32 0), .int (i32 (m.1 70))] [] rfl (fun _ => rfl) rfl (c_want w (mO m [(10, y861), (11, y863), (28, (m.1 28)), (69, (m.1 69)), (70, (m.1 70)), (71, (m.1 71)), (72, (m.1 72))] [(65, (m.2 65)), (66, (m.2 66)), (67, (m.2 67)), (68, (m.2 68)), (80, (m.2 80))]) c N D (by omega) (Ty_mO hT rfl rfl ⟨g862, g864, f28, f69, f70, f71, f72, trivial⟩ ⟨(hT.2.1 65), (hT.2.1 66), (hT.2.1 67), (hT.2.1 68), (hT.2.1 80), trivial⟩) 0 (m.1 70) ⟨by decide, by decide⟩ (r32 (by omega) (by omega)) (show 0 ≤ (m.1 70) ∧ (m.1 70) ≤ 4000 by omega) (fun (h : y861 = 0) => absurd h (by omega))) (fun rr869 k870 => ?_)
          obtain ⟨y871, y873, g872, g874, h875, c876, rfl⟩ := k870
          refine ⟨_, _, rfl, ?_⟩
          refine T_nf (st' := []) (l' := [(10, y871), (11, y873), (28, (m.1 28)), (69, (m.1 69)), (70, (m.1 70)), (71, (m.1 71)), (72, (m.1 72))]) (a' := [(65, (m.2 65)), (66, (m.2 66)), (67, (m.2 67)), (68, (m.2 68)), (80, (m.2 80))]) rfl rfl rfl rfl rfl ?_
          replace h875 : y871 = 0 → y861 = 0 := h875
          have hf877 : 1 ≤ y871 := by omega
          clear c876
          clear h875
          clear g862 g864 hf867
          refine T_ld 174 (.ref 189) rfl (fun _ => rfl) ?_
          refine T_ld 175 (.int (i32 ((m.2 81) w))) rfl (fun _ => rfl) ?_
          refine T_gf 179 (.int (i32 (m.1 69))) rfl rfl rfl rfl rfl rfl ?_
          refine T_iadd 180 rfl rfl ?_
          refine T_ld 182 (.int (i32 64)) rfl (fun _ => rfl) ?_
          refine T_icmp 189 185 rfl rfl rfl (r32 (by omega) (by omega)) ⟨by decide, by decide⟩ (fun (h878 : (64 : Int) < ((m.2 81) w) + (m.1 69)) => ?_) (fun (h878 : ¬ ((64 : Int) < ((m.2 81) w) + (m.1 69))) => ?_)
          · skip
            refine T_ld 190 (.int (i32 0)) rfl (fun _ => rfl) ?_
            refine T_gf 194 (.int (i32 (m.1 70))) rfl rfl rfl rfl rfl rfl ?_
            refine T_call 197 256 [.ref 189, .int (i32 0), .int (i32 (m.1 70))] [] rfl (fun _ => rfl) rfl (c_want w (mO m [(10, y871), (11, y873), (28, (m.1 28)), (69, (m.1 69)), (70, (m.1 70)), (71, (m.1 71)), (72, (m.1 72))] [(65, (m.2 65)), (66, (m.2 66)), (67, (m.2 67)), (68, (m.2 68)), (80, (m.2 80))]) c N D (by omega) (Ty_mO hT rfl rfl ⟨g872, g874, f28, f69, f70, f71, f72, trivial⟩ ⟨(hT.2.1 65), (hT.2.1 66), (hT.2.1 67), (hT.2.1 68), (hT.2.1 80), trivial⟩) 0 (m.1 70) ⟨by decide, by decide⟩ (r32 (by omega) (by omega)) (show 0 ≤ (m.1 70) ∧ (m.1 70) ≤ 4000 by omega) (fun (h : y871 = 0) => absurd h (by omega))) (fun rr879 k880 => ?_)
            obtain ⟨y881, y883, g882, g884, h885, c886, rfl⟩ := k880
            refine ⟨_, _, rfl, ?_⟩
            refine T_nf (st' := []) (l' := [(10, y881), (11, y883), (28, (m.1 28)), (69, (m.1 69)), (70, (m.1 70)), (71, (m.1 71)), (72, (m.1 72))]) (a' := [(65, (m.2 65)), (66, (m.2 66)), (67, (m.2 67)), (68, (m.2 68)), (80, (m.2 80))]) rfl rfl rfl rfl rfl ?_
            replace h885 : y881 = 0 → y871 = 0 := h885
            have hf887 : 1 ≤ y881 := by omega
            clear c886
            clear h885
            clear g872 g874 hf877
            refine T_ld 198 (.int (i32 ((m.2 81) w))) rfl (fun _ => rfl) ?_
            refine T_gf 202 (.int (i32 (m.1 69))) rfl rfl rfl rfl rfl rfl ?_
            refine T_iadd 203 rfl rfl ?_
            refine T_sto 204 [(2, .int (i32 (((m.2 81) w) + (m.1 69)))), (5, .int (i32 (m.1 69))), (4, .int (i32 ((m.2 80) w))), (3, .int (i32 ((m.2 82) w))), (0, .ref 189), (1, .int (i32 w))] rfl (fun _ => rfl) ?_
            refine T_goto 261 rfl (fun _ => rfl) ?_
            refine T_gf 265 (.ref 242) rfl rfl rfl rfl rfl rfl ?_
            refine T_ld 266 (.int (i32 w)) rfl (fun _ => rfl) ?_
            refine T_ld 267 (.int (i32 (-1))) rfl (fun _ => rfl) ?_
            have G888 : ∀ j, (-1) ≤ (upI (m.2 80) w (-1)) j ∧ (upI (m.2 80) w (-1)) j ≤ 330 := upI_rg (hT.2.1 80) ⟨by omega, by omega⟩
            refine T_iast (a' := [(65, (m.2 65)), (66, (m.2 66)), (67, (m.2 67)), (68, (m.2 68)), (80, upI (m.2 80) w (-1))]) 268 80 (m.2 80) rfl rfl rfl (by omega) (show w < (540 : Int) by omega) rfl rfl ?_
            refine T_ld 269 (.ref 189) rfl (fun _ => rfl) ?_
            refine T_ld 271 (.int (i32 ((m.2 80) w))) rfl (fun _ => rfl) ?_
            refine T_ld 272 (.int (i32 (((m.2 81) w) + (m.1 69)))) rfl (fun _ => rfl) ?_
            refine T_ld 274 (.int (i32 (m.1 69))) rfl (fun _ => rfl) ?_
            refine T_ld 275 (.long (i64 0)) rfl (fun _ => rfl) ?_
            refine T_call 278 248 [.ref 189, .int (i32 ((m.2 80) w)), .int (i32 (((m.2 81) w) + (m.1 69))), .int (i32 (m.1 69)), .long (i64 0)] [] rfl (fun _ => rfl) rfl (c_node w (mO m [(10, y881), (11, y883), (28, (m.1 28)), (69, (m.1 69)), (70, (m.1 70)), (71, (m.1 71)), (72, (m.1 72))] [(65, (m.2 65)), (66, (m.2 66)), (67, (m.2 67)), (68, (m.2 68)), (80, upI (m.2 80) w (-1))]) c N D (by omega) (Ty_mO hT rfl rfl ⟨g882, g884, f28, f69, f70, f71, f72, trivial⟩ ⟨(hT.2.1 65), (hT.2.1 66), (hT.2.1 67), (hT.2.1 68), G888, trivial⟩) ((m.2 80) w) (((m.2 81) w) + (m.1 69)) (m.1 69) 0 B (1 + lh (m.2 79) (m.2 80) (m.1 73)) (r32 (by omega) (by omega)) (r32 (by omega) (by omega)) (r32 (by omega) (by omega)) ⟨by decide, by decide⟩ (fun (h : y881 = 0) => absurd h (by omega))) (fun rr889 k890 => ?_)
            obtain ⟨y891, y893, y895, F897, F899, F901, F903, g892, g894, g896, G898, G900, G902, G904, h905, c906, rfl⟩ := k890
            refine ⟨_, _, rfl, ?_⟩
            refine T_nf (st' := []) (l' := [(10, y891), (11, y893), (28, y895), (69, (m.1 69)), (70, (m.1 70)), (71, (m.1 71)), (72, (m.1 72))]) (a' := [(65, F897), (66, F899), (67, F901), (68, F903), (80, upI (m.2 80) w (-1))]) rfl rfl rfl rfl rfl ?_
            replace h905 : y891 = 0 → y881 = 0 := h905
            have hf907 : 1 ≤ y891 := by omega
            clear c906
            clear h905
            clear g882 g884 hf887
            refine T_ld 279 (.ref 189) rfl (fun _ => rfl) ?_
            refine T_ld 280 (.int (i32 (((m.2 81) w) + (m.1 69)))) rfl (fun _ => rfl) ?_
            refine T_ld 281 (.int (i32 ((m.2 82) w))) rfl (fun _ => rfl) ?_
            refine T_call 284 250 [.ref 189, .int (i32 (((m.2 81) w) + (m.1 69))), .int (i32 ((m.2 82) w))] [] rfl (fun _ => rfl) rfl (c_unit w (mO m [(10, y891), (11, y893), (28, y895), (69, (m.1 69)), (70, (m.1 70)), (71, (m.1 71)), (72, (m.1 72))] [(65, F897), (66, F899), (67, F901), (68, F903), (80, upI (m.2 80) w (-1))]) c N D (by omega) (Ty_mO hT rfl rfl ⟨g892, g894, g896, f69, f70, f71, f72, trivial⟩ ⟨G898, G900, G902, G904, G888, trivial⟩) (((m.2 81) w) + (m.1 69)) ((m.2 82) w) (r32 (by omega) (by omega)) (r32 (by omega) (by omega)) (show 0 ≤ (((m.2 81) w) + (m.1 69)) ∧ (((m.2 81) w) + (m.1 69)) ≤ 1024 by omega) (show 0 ≤ ((m.2 82) w) ∧ ((m.2 82) w) ≤ 4000 by omega)) (fun rr908 k909 => ?_)
            obtain ⟨y910, y912, y914, y916, g911, g913, g915, g917, h918, rfl⟩ := k909
            refine ⟨_, _, rfl, ?_⟩
            refine T_nf (st' := []) (l' := [(10, y891), (11, y893), (28, y895), (69, y910), (70, y912), (71, y914), (72, y916)]) (a' := [(65, F897), (66, F899), (67, F901), (68, F903), (80, upI (m.2 80) w (-1))]) rfl rfl rfl rfl rfl ?_
            replace h918 : y910 = (((m.2 81) w) + (m.1 69)) := h918
            refine T_ret rfl (fun _ => rfl) ?_
            exact ⟨y891, y893, y895, y910, y912, y914, y916, F897, F899, F901, F903, upI (m.2 80) w (-1), g892, g894, g896, g911, g913, g915, g917, G898, G900, G902, G904, G888, (by omega), (by omega), (fun h => absurd h (by omega)), rfl⟩
          · skip
            refine T_ld 186 (.int (i32 1)) rfl (fun _ => rfl) ?_
            refine T_goto 190 rfl (fun _ => rfl) ?_
            refine T_gf 194 (.int (i32 (m.1 70))) rfl rfl rfl rfl rfl rfl ?_
            refine T_call 197 256 [.ref 189, .int (i32 1), .int (i32 (m.1 70))] [] rfl (fun _ => rfl) rfl (c_want w (mO m [(10, y871), (11, y873), (28, (m.1 28)), (69, (m.1 69)), (70, (m.1 70)), (71, (m.1 71)), (72, (m.1 72))] [(65, (m.2 65)), (66, (m.2 66)), (67, (m.2 67)), (68, (m.2 68)), (80, (m.2 80))]) c N D (by omega) (Ty_mO hT rfl rfl ⟨g872, g874, f28, f69, f70, f71, f72, trivial⟩ ⟨(hT.2.1 65), (hT.2.1 66), (hT.2.1 67), (hT.2.1 68), (hT.2.1 80), trivial⟩) 1 (m.1 70) ⟨by decide, by decide⟩ (r32 (by omega) (by omega)) (show 0 ≤ (m.1 70) ∧ (m.1 70) ≤ 4000 by omega) (fun (h : y871 = 0) => absurd h (by omega))) (fun rr919 k920 => ?_)
            obtain ⟨y921, y923, g922, g924, h925, c926, rfl⟩ := k920
            refine ⟨_, _, rfl, ?_⟩
            refine T_nf (st' := []) (l' := [(10, y921), (11, y923), (28, (m.1 28)), (69, (m.1 69)), (70, (m.1 70)), (71, (m.1 71)), (72, (m.1 72))]) (a' := [(65, (m.2 65)), (66, (m.2 66)), (67, (m.2 67)), (68, (m.2 68)), (80, (m.2 80))]) rfl rfl rfl rfl rfl ?_
            replace h925 : y921 = 0 → y871 = 0 := h925
            have hf927 : 1 ≤ y921 := by omega
            clear c926
            clear h925
            clear g872 g874 hf877
            refine T_ld 198 (.int (i32 ((m.2 81) w))) rfl (fun _ => rfl) ?_
            refine T_gf 202 (.int (i32 (m.1 69))) rfl rfl rfl rfl rfl rfl ?_
            refine T_iadd 203 rfl rfl ?_
            refine T_sto 204 [(2, .int (i32 (((m.2 81) w) + (m.1 69)))), (5, .int (i32 (m.1 69))), (4, .int (i32 ((m.2 80) w))), (3, .int (i32 ((m.2 82) w))), (0, .ref 189), (1, .int (i32 w))] rfl (fun _ => rfl) ?_
            refine T_goto 261 rfl (fun _ => rfl) ?_
            refine T_gf 265 (.ref 242) rfl rfl rfl rfl rfl rfl ?_
            refine T_ld 266 (.int (i32 w)) rfl (fun _ => rfl) ?_
            refine T_ld 267 (.int (i32 (-1))) rfl (fun _ => rfl) ?_
            have G928 : ∀ j, (-1) ≤ (upI (m.2 80) w (-1)) j ∧ (upI (m.2 80) w (-1)) j ≤ 330 := upI_rg (hT.2.1 80) ⟨by omega, by omega⟩
            refine T_iast (a' := [(65, (m.2 65)), (66, (m.2 66)), (67, (m.2 67)), (68, (m.2 68)), (80, upI (m.2 80) w (-1))]) 268 80 (m.2 80) rfl rfl rfl (by omega) (show w < (540 : Int) by omega) rfl rfl ?_
            refine T_ld 269 (.ref 189) rfl (fun _ => rfl) ?_
            refine T_ld 271 (.int (i32 ((m.2 80) w))) rfl (fun _ => rfl) ?_
            refine T_ld 272 (.int (i32 (((m.2 81) w) + (m.1 69)))) rfl (fun _ => rfl) ?_
            refine T_ld 274 (.int (i32 (m.1 69))) rfl (fun _ => rfl) ?_
            refine T_ld 275 (.long (i64 0)) rfl (fun _ => rfl) ?_
            refine T_call 278 248 [.ref 189, .int (i32 ((m.2 80) w)), .int (i32 (((m.2 81) w) + (m.1 69))), .int (i32 (m.1 69)), .long (i64 0)] [] rfl (fun _ => rfl) rfl (c_node w (mO m [(10, y921), (11, y923), (28, (m.1 28)), (69, (m.1 69)), (70, (m.1 70)), (71, (m.1 71)), (72, (m.1 72))] [(65, (m.2 65)), (66, (m.2 66)), (67, (m.2 67)), (68, (m.2 68)), (80, upI (m.2 80) w (-1))]) c N D (by omega) (Ty_mO hT rfl rfl ⟨g922, g924, f28, f69, f70, f71, f72, trivial⟩ ⟨(hT.2.1 65), (hT.2.1 66), (hT.2.1 67), (hT.2.1 68), G928, trivial⟩) ((m.2 80) w) (((m.2 81) w) + (m.1 69)) (m.1 69) 0 B (1 + lh (m.2 79) (m.2 80) (m.1 73)) (r32 (by omega) (by omega)) (r32 (by omega) (by omega)) (r32 (by omega) (by omega)) ⟨by decide, by decide⟩ (fun (h : y921 = 0) => absurd h (by omega))) (fun rr929 k930 => ?_)
            obtain ⟨y931, y933, y935, F937, F939, F941, F943, g932, g934, g936, G938, G940, G942, G944, h945, c946, rfl⟩ := k930
            refine ⟨_, _, rfl, ?_⟩
            refine T_nf (st' := []) (l' := [(10, y931), (11, y933), (28, y935), (69, (m.1 69)), (70, (m.1 70)), (71, (m.1 71)), (72, (m.1 72))]) (a' := [(65, F937), (66, F939), (67, F941), (68, F943), (80, upI (m.2 80) w (-1))]) rfl rfl rfl rfl rfl ?_
            replace h945 : y931 = 0 → y921 = 0 := h945
            have hf947 : 1 ≤ y931 := by omega
            clear c946
            clear h945
            clear g922 g924 hf927
            refine T_ld 279 (.ref 189) rfl (fun _ => rfl) ?_
            refine T_ld 280 (.int (i32 (((m.2 81) w) + (m.1 69)))) rfl (fun _ => rfl) ?_
            refine T_ld 281 (.int (i32 ((m.2 82) w))) rfl (fun _ => rfl) ?_
            refine T_call 284 250 [.ref 189, .int (i32 (((m.2 81) w) + (m.1 69))), .int (i32 ((m.2 82) w))] [] rfl (fun _ => rfl) rfl (c_unit w (mO m [(10, y931), (11, y933), (28, y935), (69, (m.1 69)), (70, (m.1 70)), (71, (m.1 71)), (72, (m.1 72))] [(65, F937), (66, F939), (67, F941), (68, F943), (80, upI (m.2 80) w (-1))]) c N D (by omega) (Ty_mO hT rfl rfl ⟨g932, g934, g936, f69, f70, f71, f72, trivial⟩ ⟨G938, G940, G942, G944, G928, trivial⟩) (((m.2 81) w) + (m.1 69)) ((m.2 82) w) (r32 (by omega) (by omega)) (r32 (by omega) (by omega)) (show 0 ≤ (((m.2 81) w) + (m.1 69)) ∧ (((m.2 81) w) + (m.1 69)) ≤ 1024 by omega) (show 0 ≤ ((m.2 82) w) ∧ ((m.2 82) w) ≤ 4000 by omega)) (fun rr948 k949 => ?_)
            obtain ⟨y950, y952, y954, y956, g951, g953, g955, g957, h958, rfl⟩ := k949
            refine ⟨_, _, rfl, ?_⟩
            refine T_nf (st' := []) (l' := [(10, y931), (11, y933), (28, y935), (69, y950), (70, y952), (71, y954), (72, y956)]) (a' := [(65, F937), (66, F939), (67, F941), (68, F943), (80, upI (m.2 80) w (-1))]) rfl rfl rfl rfl rfl ?_
            replace h958 : y950 = (((m.2 81) w) + (m.1 69)) := h958
            refine T_ret rfl (fun _ => rfl) ?_
            exact ⟨y931, y933, y935, y950, y952, y954, y956, F937, F939, F941, F943, upI (m.2 80) w (-1), g932, g934, g936, g951, g953, g955, g957, G938, G940, G942, G944, G928, (by omega), (by omega), (fun h => absurd h (by omega)), rfl⟩
        · skip
          refine T_ld 162 (.int (i32 1)) rfl (fun _ => rfl) ?_
          refine T_goto 166 rfl (fun _ => rfl) ?_
          refine T_gf 170 (.int (i32 (m.1 70))) rfl rfl rfl rfl rfl rfl ?_
          refine T_call 173 256 [.ref 189, .int (i32 1), .int (i32 (m.1 70))] [] rfl (fun _ => rfl) rfl (c_want w (mO m [(10, y861), (11, y863), (28, (m.1 28)), (69, (m.1 69)), (70, (m.1 70)), (71, (m.1 71)), (72, (m.1 72))] [(65, (m.2 65)), (66, (m.2 66)), (67, (m.2 67)), (68, (m.2 68)), (80, (m.2 80))]) c N D (by omega) (Ty_mO hT rfl rfl ⟨g862, g864, f28, f69, f70, f71, f72, trivial⟩ ⟨(hT.2.1 65), (hT.2.1 66), (hT.2.1 67), (hT.2.1 68), (hT.2.1 80), trivial⟩) 1 (m.1 70) ⟨by decide, by decide⟩ (r32 (by omega) (by omega)) (show 0 ≤ (m.1 70) ∧ (m.1 70) ≤ 4000 by omega) (fun (h : y861 = 0) => absurd h (by omega))) (fun rr959 k960 => ?_)
          obtain ⟨y961, y963, g962, g964, h965, c966, rfl⟩ := k960
          refine ⟨_, _, rfl, ?_⟩
          refine T_nf (st' := []) (l' := [(10, y961), (11, y963), (28, (m.1 28)), (69, (m.1 69)), (70, (m.1 70)), (71, (m.1 71)), (72, (m.1 72))]) (a' := [(65, (m.2 65)), (66, (m.2 66)), (67, (m.2 67)), (68, (m.2 68)), (80, (m.2 80))]) rfl rfl rfl rfl rfl ?_
          replace h965 : y961 = 0 → y861 = 0 := h965
          have hf967 : 1 ≤ y961 := by omega
          clear c966
          clear h965
          clear g862 g864 hf867
          refine T_ld 174 (.ref 189) rfl (fun _ => rfl) ?_
          refine T_ld 175 (.int (i32 ((m.2 81) w))) rfl (fun _ => rfl) ?_
          refine T_gf 179 (.int (i32 (m.1 69))) rfl rfl rfl rfl rfl rfl ?_
          refine T_iadd 180 rfl rfl ?_
          refine T_ld 182 (.int (i32 64)) rfl (fun _ => rfl) ?_
          refine T_icmp 189 185 rfl rfl rfl (r32 (by omega) (by omega)) ⟨by decide, by decide⟩ (fun (h968 : (64 : Int) < ((m.2 81) w) + (m.1 69)) => ?_) (fun (h968 : ¬ ((64 : Int) < ((m.2 81) w) + (m.1 69))) => ?_)
          · skip
            refine T_ld 190 (.int (i32 0)) rfl (fun _ => rfl) ?_
            refine T_gf 194 (.int (i32 (m.1 70))) rfl rfl rfl rfl rfl rfl ?_
            refine T_call 197 256 [.ref 189, .int (i32 0), .int (i32 (m.1 70))] [] rfl (fun _ => rfl) rfl (c_want w (mO m [(10, y961), (11, y963), (28, (m.1 28)), (69, (m.1 69)), (70, (m.1 70)), (71, (m.1 71)), (72, (m.1 72))] [(65, (m.2 65)), (66, (m.2 66)), (67, (m.2 67)), (68, (m.2 68)), (80, (m.2 80))]) c N D (by omega) (Ty_mO hT rfl rfl ⟨g962, g964, f28, f69, f70, f71, f72, trivial⟩ ⟨(hT.2.1 65), (hT.2.1 66), (hT.2.1 67), (hT.2.1 68), (hT.2.1 80), trivial⟩) 0 (m.1 70) ⟨by decide, by decide⟩ (r32 (by omega) (by omega)) (show 0 ≤ (m.1 70) ∧ (m.1 70) ≤ 4000 by omega) (fun (h : y961 = 0) => absurd h (by omega))) (fun rr969 k970 => ?_)
            obtain ⟨y971, y973, g972, g974, h975, c976, rfl⟩ := k970
            refine ⟨_, _, rfl, ?_⟩
            refine T_nf (st' := []) (l' := [(10, y971), (11, y973), (28, (m.1 28)), (69, (m.1 69)), (70, (m.1 70)), (71, (m.1 71)), (72, (m.1 72))]) (a' := [(65, (m.2 65)), (66, (m.2 66)), (67, (m.2 67)), (68, (m.2 68)), (80, (m.2 80))]) rfl rfl rfl rfl rfl ?_
            replace h975 : y971 = 0 → y961 = 0 := h975
            have hf977 : 1 ≤ y971 := by omega
            clear c976
            clear h975
            clear g962 g964 hf967
            refine T_ld 198 (.int (i32 ((m.2 81) w))) rfl (fun _ => rfl) ?_
            refine T_gf 202 (.int (i32 (m.1 69))) rfl rfl rfl rfl rfl rfl ?_
            refine T_iadd 203 rfl rfl ?_
            refine T_sto 204 [(2, .int (i32 (((m.2 81) w) + (m.1 69)))), (5, .int (i32 (m.1 69))), (4, .int (i32 ((m.2 80) w))), (3, .int (i32 ((m.2 82) w))), (0, .ref 189), (1, .int (i32 w))] rfl (fun _ => rfl) ?_
            refine T_goto 261 rfl (fun _ => rfl) ?_
            refine T_gf 265 (.ref 242) rfl rfl rfl rfl rfl rfl ?_
            refine T_ld 266 (.int (i32 w)) rfl (fun _ => rfl) ?_
            refine T_ld 267 (.int (i32 (-1))) rfl (fun _ => rfl) ?_
            have G978 : ∀ j, (-1) ≤ (upI (m.2 80) w (-1)) j ∧ (upI (m.2 80) w (-1)) j ≤ 330 := upI_rg (hT.2.1 80) ⟨by omega, by omega⟩
            refine T_iast (a' := [(65, (m.2 65)), (66, (m.2 66)), (67, (m.2 67)), (68, (m.2 68)), (80, upI (m.2 80) w (-1))]) 268 80 (m.2 80) rfl rfl rfl (by omega) (show w < (540 : Int) by omega) rfl rfl ?_
            refine T_ld 269 (.ref 189) rfl (fun _ => rfl) ?_
            refine T_ld 271 (.int (i32 ((m.2 80) w))) rfl (fun _ => rfl) ?_
            refine T_ld 272 (.int (i32 (((m.2 81) w) + (m.1 69)))) rfl (fun _ => rfl) ?_
            refine T_ld 274 (.int (i32 (m.1 69))) rfl (fun _ => rfl) ?_
            refine T_ld 275 (.long (i64 0)) rfl (fun _ => rfl) ?_
            refine T_call 278 248 [.ref 189, .int (i32 ((m.2 80) w)), .int (i32 (((m.2 81) w) + (m.1 69))), .int (i32 (m.1 69)), .long (i64 0)] [] rfl (fun _ => rfl) rfl (c_node w (mO m [(10, y971), (11, y973), (28, (m.1 28)), (69, (m.1 69)), (70, (m.1 70)), (71, (m.1 71)), (72, (m.1 72))] [(65, (m.2 65)), (66, (m.2 66)), (67, (m.2 67)), (68, (m.2 68)), (80, upI (m.2 80) w (-1))]) c N D (by omega) (Ty_mO hT rfl rfl ⟨g972, g974, f28, f69, f70, f71, f72, trivial⟩ ⟨(hT.2.1 65), (hT.2.1 66), (hT.2.1 67), (hT.2.1 68), G978, trivial⟩) ((m.2 80) w) (((m.2 81) w) + (m.1 69)) (m.1 69) 0 B (1 + lh (m.2 79) (m.2 80) (m.1 73)) (r32 (by omega) (by omega)) (r32 (by omega) (by omega)) (r32 (by omega) (by omega)) ⟨by decide, by decide⟩ (fun (h : y971 = 0) => absurd h (by omega))) (fun rr979 k980 => ?_)
            obtain ⟨y981, y983, y985, F987, F989, F991, F993, g982, g984, g986, G988, G990, G992, G994, h995, c996, rfl⟩ := k980
            refine ⟨_, _, rfl, ?_⟩
            refine T_nf (st' := []) (l' := [(10, y981), (11, y983), (28, y985), (69, (m.1 69)), (70, (m.1 70)), (71, (m.1 71)), (72, (m.1 72))]) (a' := [(65, F987), (66, F989), (67, F991), (68, F993), (80, upI (m.2 80) w (-1))]) rfl rfl rfl rfl rfl ?_
            replace h995 : y981 = 0 → y971 = 0 := h995
            have hf997 : 1 ≤ y981 := by omega
            clear c996
            clear h995
            clear g972 g974 hf977
            refine T_ld 279 (.ref 189) rfl (fun _ => rfl) ?_
            refine T_ld 280 (.int (i32 (((m.2 81) w) + (m.1 69)))) rfl (fun _ => rfl) ?_
            refine T_ld 281 (.int (i32 ((m.2 82) w))) rfl (fun _ => rfl) ?_
            refine T_call 284 250 [.ref 189, .int (i32 (((m.2 81) w) + (m.1 69))), .int (i32 ((m.2 82) w))] [] rfl (fun _ => rfl) rfl (c_unit w (mO m [(10, y981), (11, y983), (28, y985), (69, (m.1 69)), (70, (m.1 70)), (71, (m.1 71)), (72, (m.1 72))] [(65, F987), (66, F989), (67, F991), (68, F993), (80, upI (m.2 80) w (-1))]) c N D (by omega) (Ty_mO hT rfl rfl ⟨g982, g984, g986, f69, f70, f71, f72, trivial⟩ ⟨G988, G990, G992, G994, G978, trivial⟩) (((m.2 81) w) + (m.1 69)) ((m.2 82) w) (r32 (by omega) (by omega)) (r32 (by omega) (by omega)) (show 0 ≤ (((m.2 81) w) + (m.1 69)) ∧ (((m.2 81) w) + (m.1 69)) ≤ 1024 by omega) (show 0 ≤ ((m.2 82) w) ∧ ((m.2 82) w) ≤ 4000 by omega)) (fun rr998 k999 => ?_)
            obtain ⟨y1000, y1002, y1004, y1006, g1001, g1003, g1005, g1007, h1008, rfl⟩ := k999
            refine ⟨_, _, rfl, ?_⟩
            refine T_nf (st' := []) (l' := [(10, y981), (11, y983), (28, y985), (69, y1000), (70, y1002), (71, y1004), (72, y1006)]) (a' := [(65, F987), (66, F989), (67, F991), (68, F993), (80, upI (m.2 80) w (-1))]) rfl rfl rfl rfl rfl ?_
            replace h1008 : y1000 = (((m.2 81) w) + (m.1 69)) := h1008
            refine T_ret rfl (fun _ => rfl) ?_
            exact ⟨y981, y983, y985, y1000, y1002, y1004, y1006, F987, F989, F991, F993, upI (m.2 80) w (-1), g982, g984, g986, g1001, g1003, g1005, g1007, G988, G990, G992, G994, G978, (by omega), (by omega), (fun h => absurd h (by omega)), rfl⟩
          · skip
            refine T_ld 186 (.int (i32 1)) rfl (fun _ => rfl) ?_
            refine T_goto 190 rfl (fun _ => rfl) ?_
            refine T_gf 194 (.int (i32 (m.1 70))) rfl rfl rfl rfl rfl rfl ?_
            refine T_call 197 256 [.ref 189, .int (i32 1), .int (i32 (m.1 70))] [] rfl (fun _ => rfl) rfl (c_want w (mO m [(10, y961), (11, y963), (28, (m.1 28)), (69, (m.1 69)), (70, (m.1 70)), (71, (m.1 71)), (72, (m.1 72))] [(65, (m.2 65)), (66, (m.2 66)), (67, (m.2 67)), (68, (m.2 68)), (80, (m.2 80))]) c N D (by omega) (Ty_mO hT rfl rfl ⟨g962, g964, f28, f69, f70, f71, f72, trivial⟩ ⟨(hT.2.1 65), (hT.2.1 66), (hT.2.1 67), (hT.2.1 68), (hT.2.1 80), trivial⟩) 1 (m.1 70) ⟨by decide, by decide⟩ (r32 (by omega) (by omega)) (show 0 ≤ (m.1 70) ∧ (m.1 70) ≤ 4000 by omega) (fun (h : y961 = 0) => absurd h (by omega))) (fun rr1009 k1010 => ?_)
            obtain ⟨y1011, y1013, g1012, g1014, h1015, c1016, rfl⟩ := k1010
            refine ⟨_, _, rfl, ?_⟩
            refine T_nf (st' := []) (l' := [(10, y1011), (11, y1013), (28, (m.1 28)), (69, (m.1 69)), (70, (m.1 70)), (71, (m.1 71)), (72, (m.1 72))]) (a' := [(65, (m.2 65)), (66, (m.2 66)), (67, (m.2 67)), (68, (m.2 68)), (80, (m.2 80))]) rfl rfl rfl rfl rfl ?_
            replace h1015 : y1011 = 0 → y961 = 0 := h1015
            have hf1017 : 1 ≤ y1011 := by omega
            clear c1016
            clear h1015
            clear g962 g964 hf967
            refine T_ld 198 (.int (i32 ((m.2 81) w))) rfl (fun _ => rfl) ?_
            refine T_gf 202 (.int (i32 (m.1 69))) rfl rfl rfl rfl rfl rfl ?_
            refine T_iadd 203 rfl rfl ?_
            refine T_sto 204 [(2, .int (i32 (((m.2 81) w) + (m.1 69)))), (5, .int (i32 (m.1 69))), (4, .int (i32 ((m.2 80) w))), (3, .int (i32 ((m.2 82) w))), (0, .ref 189), (1, .int (i32 w))] rfl (fun _ => rfl) ?_
            refine T_goto 261 rfl (fun _ => rfl) ?_
            refine T_gf 265 (.ref 242) rfl rfl rfl rfl rfl rfl ?_
            refine T_ld 266 (.int (i32 w)) rfl (fun _ => rfl) ?_
            refine T_ld 267 (.int (i32 (-1))) rfl (fun _ => rfl) ?_
            have G1018 : ∀ j, (-1) ≤ (upI (m.2 80) w (-1)) j ∧ (upI (m.2 80) w (-1)) j ≤ 330 := upI_rg (hT.2.1 80) ⟨by omega, by omega⟩
            refine T_iast (a' := [(65, (m.2 65)), (66, (m.2 66)), (67, (m.2 67)), (68, (m.2 68)), (80, upI (m.2 80) w (-1))]) 268 80 (m.2 80) rfl rfl rfl (by omega) (show w < (540 : Int) by omega) rfl rfl ?_
            refine T_ld 269 (.ref 189) rfl (fun _ => rfl) ?_
            refine T_ld 271 (.int (i32 ((m.2 80) w))) rfl (fun _ => rfl) ?_
            refine T_ld 272 (.int (i32 (((m.2 81) w) + (m.1 69)))) rfl (fun _ => rfl) ?_
            refine T_ld 274 (.int (i32 (m.1 69))) rfl (fun _ => rfl) ?_
            refine T_ld 275 (.long (i64 0)) rfl (fun _ => rfl) ?_
            refine T_call 278 248 [.ref 189, .int (i32 ((m.2 80) w)), .int (i32 (((m.2 81) w) + (m.1 69))), .int (i32 (m.1 69)), .long (i64 0)] [] rfl (fun _ => rfl) rfl (c_node w (mO m [(10, y1011), (11, y1013), (28, (m.1 28)), (69, (m.1 69)), (70, (m.1 70)), (71, (m.1 71)), (72, (m.1 72))] [(65, (m.2 65)), (66, (m.2 66)), (67, (m.2 67)), (68, (m.2 68)), (80, upI (m.2 80) w (-1))]) c N D (by omega) (Ty_mO hT rfl rfl ⟨g1012, g1014, f28, f69, f70, f71, f72, trivial⟩ ⟨(hT.2.1 65), (hT.2.1 66), (hT.2.1 67), (hT.2.1 68), G1018, trivial⟩) ((m.2 80) w) (((m.2 81) w) + (m.1 69)) (m.1 69) 0 B (1 + lh (m.2 79) (m.2 80) (m.1 73)) (r32 (by omega) (by omega)) (r32 (by omega) (by omega)) (r32 (by omega) (by omega)) ⟨by decide, by decide⟩ (fun (h : y1011 = 0) => absurd h (by omega))) (fun rr1019 k1020 => ?_)
            obtain ⟨y1021, y1023, y1025, F1027, F1029, F1031, F1033, g1022, g1024, g1026, G1028, G1030, G1032, G1034, h1035, c1036, rfl⟩ := k1020
            refine ⟨_, _, rfl, ?_⟩
            refine T_nf (st' := []) (l' := [(10, y1021), (11, y1023), (28, y1025), (69, (m.1 69)), (70, (m.1 70)), (71, (m.1 71)), (72, (m.1 72))]) (a' := [(65, F1027), (66, F1029), (67, F1031), (68, F1033), (80, upI (m.2 80) w (-1))]) rfl rfl rfl rfl rfl ?_
            replace h1035 : y1021 = 0 → y1011 = 0 := h1035
            have hf1037 : 1 ≤ y1021 := by omega
            clear c1036
            clear h1035
            clear g1012 g1014 hf1017
            refine T_ld 279 (.ref 189) rfl (fun _ => rfl) ?_
            refine T_ld 280 (.int (i32 (((m.2 81) w) + (m.1 69)))) rfl (fun _ => rfl) ?_
            refine T_ld 281 (.int (i32 ((m.2 82) w))) rfl (fun _ => rfl) ?_
            refine T_call 284 250 [.ref 189, .int (i32 (((m.2 81) w) + (m.1 69))), .int (i32 ((m.2 82) w))] [] rfl (fun _ => rfl) rfl (c_unit w (mO m [(10, y1021), (11, y1023), (28, y1025), (69, (m.1 69)), (70, (m.1 70)), (71, (m.1 71)), (72, (m.1 72))] [(65, F1027), (66, F1029), (67, F1031), (68, F1033), (80, upI (m.2 80) w (-1))]) c N D (by omega) (Ty_mO hT rfl rfl ⟨g1022, g1024, g1026, f69, f70, f71, f72, trivial⟩ ⟨G1028, G1030, G1032, G1034, G1018, trivial⟩) (((m.2 81) w) + (m.1 69)) ((m.2 82) w) (r32 (by omega) (by omega)) (r32 (by omega) (by omega)) (show 0 ≤ (((m.2 81) w) + (m.1 69)) ∧ (((m.2 81) w) + (m.1 69)) ≤ 1024 by omega) (show 0 ≤ ((m.2 82) w) ∧ ((m.2 82) w) ≤ 4000 by omega)) (fun rr1038 k1039 => ?_)
            obtain ⟨y1040, y1042, y1044, y1046, g1041, g1043, g1045, g1047, h1048, rfl⟩ := k1039
            refine ⟨_, _, rfl, ?_⟩
            refine T_nf (st' := []) (l' := [(10, y1021), (11, y1023), (28, y1025), (69, y1040), (70, y1042), (71, y1044), (72, y1046)]) (a' := [(65, F1027), (66, F1029), (67, F1031), (68, F1033), (80, upI (m.2 80) w (-1))]) rfl rfl rfl rfl rfl ?_
            replace h1048 : y1040 = (((m.2 81) w) + (m.1 69)) := h1048
            refine T_ret rfl (fun _ => rfl) ?_
            exact ⟨y1021, y1023, y1025, y1040, y1042, y1044, y1046, F1027, F1029, F1031, F1033, upI (m.2 80) w (-1), g1022, g1024, g1026, g1041, g1043, g1045, g1047, G1028, G1030, G1032, G1034, G1018, (by omega), (by omega), (fun h => absurd h (by omega)), rfl⟩
    by_cases h1049 : x493 = 2
    · skip
      refine T_cast 2 h1049 ?_
      refine T_pop 207 rfl (fun _ => rfl) ?_
      exact T207_548
    by_cases h1050 : x493 = 3
    · skip
      refine T_cast 3 h1050 ?_
      refine T_pop 207 rfl (fun _ => rfl) ?_
      exact T207_548
    by_cases h1051 : x493 = 4
    · skip
      refine T_cast 4 h1051 ?_
      refine T_pop 207 rfl (fun _ => rfl) ?_
      exact T207_548
    by_cases h1052 : x493 = 5
    · skip
      refine T_cast 5 h1052 ?_
      refine T_pop 207 rfl (fun _ => rfl) ?_
      exact T207_548
    by_cases h1053 : x493 = 7
    · skip
      refine T_cast 7 h1053 ?_
      refine T_pop 207 rfl (fun _ => rfl) ?_
      exact T207_548
    refine T_tsd 207 rfl rfl (r32 (by omega) (by omega)) (by omega) ?_
    exact T207_548
